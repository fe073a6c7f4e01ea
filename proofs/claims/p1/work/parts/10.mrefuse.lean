theorem dX13_combines_0 : decode cX13_combines 0 = .ok (.aload_n 0, 1) := by decide +kernel
theorem dX13_combines_1 : decode cX13_combines 1 = .ok (.iconst 0, 1) := by decide +kernel
theorem dX13_combines_2 : decode cX13_combines 2 = .ok (.putfield 122, 3) := by decide +kernel
theorem dX13_combines_5 : decode cX13_combines 5 = .ok (.aload_n 0, 1) := by decide +kernel
theorem dX13_combines_6 : decode cX13_combines 6 = .ok (.iload_n 1, 1) := by decide +kernel
theorem dX13_combines_7 : decode cX13_combines 7 = .ok (.iload_n 2, 1) := by decide +kernel
theorem dX13_combines_8 : decode cX13_combines 8 = .ok (.invokevirtual 218, 3) := by decide +kernel
theorem w9_164 : (Jvm.Cond.methodLink "PolyforgeModel" (218 : Nat) ({ cls := "PolyforgeModel", name := "are", desc := "(II)Z" } : Jvm.MethodName)) ∈ lw_tbl := pv_t9 (pv_mg 164 rfl)
theorem w9_167 : (Jvm.Cond.code ({ cls := "PolyforgeModel", name := "are", desc := "(II)Z" } : Jvm.MethodName) prog_14_method_7_code (3 : Nat) (Option.some Jvm.ClassFile.FieldType.boolean)) ∈ lw_tbl := pv_t9 (pv_mg 167 rfl)
theorem wp5_12 : Cond.selects "PolyforgeModel" ⟨"PolyforgeModel", "are", "(II)Z"⟩ ⟨"PolyforgeModel", "are", "(II)Z"⟩ ∈ lw_tbl := pv_mg 76 rfl
theorem w9_166 : (Jvm.Cond.instanceMethod ({ cls := "PolyforgeModel", name := "are", desc := "(II)Z" } : Jvm.MethodName)) ∈ lw_tbl := pv_t9 (pv_mg 166 rfl)
theorem dX13_combines_11 : decode cX13_combines 11 = .ok (.ifCond .ne 9, 3) := by decide +kernel
theorem dX13_combines_14 : decode cX13_combines 14 = .ok (.aload_n 0, 1) := by decide +kernel
theorem dX13_combines_15 : decode cX13_combines 15 = .ok (.iconst 1, 1) := by decide +kernel
theorem dX13_combines_16 : decode cX13_combines 16 = .ok (.invokevirtual 185, 3) := by decide +kernel
theorem dX13_combines_19 : decode cX13_combines 19 = .ok (.ireturn, 1) := by decide +kernel
set_option maxHeartbeats 4000000 in
set_option maxRecDepth 100000 in
/-- combines on a fresh object: code 1 -/
theorem c_X13_combines (l : Launch) (hfl : l.stackTraces = false) (D : va_G) (sz : Nat) (h0 : Nat) (q : Nat → Nat) (p0 : Int32) (p1 : Int32) (p2 : Int64) : Met l yX13_combines (Cond.code yX13_combines cX13_combines 6 (some .int) :: pv_W) ({ frames := 3, cells := 0, slots := 0, locals := 65 } : Room) (va_Pc [.ref h0, .int p0, .int p1, .long p2] (pv_P D [] [(h0, .inr (1, pv_m 0 q))] (va_A [(h0, .inr (1, pv_m 0 q))] sz) sz)) (va_Qi (fun r (u : Int32) => u = 1) (fun (u : Int32) t => ∃ fs : List Value, fs[0]? = some (.int u) ∧ va_P D pv_cl [(h0, .inr (1, fs))] t.heap ∧ va_K D pv_cl [] t ∧ va_D (va_A [(h0, .inr (1, pv_m 0 q))] sz) [(h0, .inr (1, fs))]) (va_A [(h0, .inr (1, pv_m 0 q))] sz)) 0 0 (va_A [(h0, .inr (1, pv_m 0 q))] sz) := by
  refine Met.ofW (cc := cX13_combines) (maxL := 6) (ret := (some .int)) (by decide) rfl ?_
  intro p e s m args below meth c s₁ B hml hv
  obtain ⟨rfl, hsz, hE, hP, hK, hD0⟩ := hv
  have hx := B.exec
  have hb := B.bytes
  have hr := B.returns
  have hts := fun (w : Cond) (h : w ∈ pv_W) => atoms_spec (ws := Cond.code yX13_combines cX13_combines 6 (some .int) :: pv_W) B.pre w (List.mem_cons_of_mem _ h)
  have hg := fun {w : Cond} (h : w ∈ lw_tbl) (g : goodWord w = true) => hts w (pv_in h g)
  have hown : s.vm.findClass RX13 = some m.cls := findClass_of_methodNamed B.named
  have hlocks := B.notSynchronized
  subst hsz
  have hD := hD0.self (sz := s.heap.size)
  generalize hAe : va_A [(h0, .inr (1, pv_m 0 q))] s.heap.size = A at hD hE ⊢
  have hA : ∀ q : Nat, s.heap.size ≤ q → A q := fun q h => by rw [← hAe]; exact Or.inr h
  have hS : va_S A s.heap s.heap [] := va_S.rf
  have hP : va_P D pv_cl [(h0, .inr (1, pv_m 0 q))] s.heap := hP
  have hl := lv_entry ([.ref h0, .int p0, .int p1, .long p2]) (n := 6) (Nat.le_of_ble_eq_true rfl)
  rw [lg_entry_eq]
  generalize (lg_sl ([.ref h0, .int p0, .int p1, .long p2]) ++ List.replicate (6 - (lg_sl ([.ref h0, .int p0, .int p1, .long p2])).length) Slot.unset).toArray = ls at hl ⊢
  have hl : lv_has ls 6 [(0, .ref h0), (1, .int p0), (2, .int p1), (3, .long p2)] := hl
  refine lv_aload_n hx hb dX13_combines_0 rfl (lv_at hl 0 rfl) ?_
  refine lv_iconst (v := 0) hx hb dX13_combines_1 (by decide) ?_
  refine va_put (own := RX13) (D := D) (ci := 1) (v := .int 0) (ty := .int) (C := RX13) (T := TX13) (N := 45) hx hb hts inF13 tyX13 tyX13_ok nmX13 hown hK hP hD hS 0 rfl rfl 0 (by decide) (hg w8_205 rfl) (fun _ h9 => h9) rfl (by decide +kernel) rfl rfl (Nat.le_of_ble_eq_true rfl) dX13_combines_2 (fun H locs hP hD hS => ?_)
  have hP : va_P D pv_cl [(h0, .inr (1, pv_m 0 q))] _ := hP
  have hD : va_D A [(h0, .inr (1, pv_m 0 q))] := hD
  refine lv_aload_n hx hb dX13_combines_5 rfl (lv_at hl 0 rfl) ?_
  refine lv_iload_n hx hb dX13_combines_6 rfl (lv_at hl 1 rfl) ?_
  refine lv_iload_n hx hb dX13_combines_7 rfl (lv_at hl 2 rfl) ?_
  have hF := pv_new hA hS.1
  refine va_calli (va_runV (As := [.int p0, .int p1]) (rest := []) ⟨hx, hb, hml, hown, hts⟩ (c_X13_are l hfl D _ h0 q p0 p1) (cwV 2 hts (pv_gV w9_164 w9_166 wp5_12 w1_10 w9_167) rfl rfl rfl (by decide +kernel) ⟨Nat.le_of_ble_eq_true rfl, Nat.le_of_ble_eq_true rfl⟩) (pv_pV hE hS hF (hP.sub [0] rfl) (hK.sub [] rfl) (hD.sub [0] (by decide) rfl) (va_recv (ci := 1) (q0 := 0) hK hP rfl rfl)) rfl rfl hl.1 rfl (lv_room (Nat.le_of_ble_eq_true rfl)) dX13_combines_8 ⟨Nat.le_of_ble_eq_true rfl, Nat.le_of_ble_eq_true rfl⟩) hS (fun q _ h => hF q h) hF (fun r_0 u t H1 locs1 ht hvm hw hB hz1 hk1 hS => ?_)
  refine W.widen (k := 0) (n := 0) (Nat.le_of_ble_eq_true rfl) (Nat.le_of_ble_eq_true rfl) ?_
  have hP := pv_keep hP rfl hk1
  obtain rfl := hw
  refine lv_if_ne (tgt := 20) hx hb dX13_combines_11 (by decide) (fun c_2 => absurd (by decide) c_2) (fun _ => ?_)
  refine lv_aload_n hx hb dX13_combines_14 rfl (lv_at hl 0 rfl) ?_
  refine lv_iconst (v := 1) hx hb dX13_combines_15 (by decide) ?_
  have hF := va_free (wc := [(h0, .inr (1, pv_m 0 q))]) hD hS hA [0] rfl
  refine va_calli (va_runV (As := [.int 1]) (rest := []) ⟨hx, hb, hml, hown, hts⟩ (c_X13_fails l hfl D _ h0 q 1) (cwV 1 hts (pv_gV w9_113 w9_115 wp5_9 w1_10 w9_116) rfl rfl rfl (by decide +kernel) ⟨Nat.le_of_ble_eq_true rfl, Nat.le_of_ble_eq_true rfl⟩) (pv_pV hE hS hF (hP.sub [0] rfl) (hK.sub [] rfl) (hD.sub [0] (by decide) rfl) (va_recv (ci := 1) (q0 := 0) hK hP rfl rfl)) rfl rfl hl.1 rfl (lv_room (Nat.le_of_ble_eq_true rfl)) dX13_combines_16 ⟨Nat.le_of_ble_eq_true rfl, Nat.le_of_ble_eq_true rfl⟩) hS (fun q _ h => hF q h) hF (fun r_2 u t H1 locs1 ht hvm hw hB hz1 hk1 hS => ?_)
  refine W.widen (k := 0) (n := 0) (Nat.le_of_ble_eq_true rfl) (Nat.le_of_ble_eq_true rfl) ?_
  obtain rfl := hw
  obtain ⟨hP1, hK1, hD1⟩ := hB
  rw [ht] at hP1
  have hK1 := va_K.moved hvm.symm hK1
  obtain ⟨hP, hD⟩ := va_join (wr := []) (w1 := [(h0, .inr (1, pv_m 1 q))]) hP hD [0] [] rfl rfl (by decide) (by decide) hk1 hF hP1 hD1
  have hP : va_P D pv_cl [(h0, .inr (1, pv_m 1 q))] _ := hP
  have hD : va_D A [(h0, .inr (1, pv_m 1 q))] := hD
  refine W.widen (k := 0) (n := 0) (Nat.le_of_ble_eq_true rfl) (Nat.le_of_ble_eq_true rfl) ?_
  exact W.iret (v := 0) hx hb hr (fun t ht hW => ⟨⟨0, 1, rfl, rfl, pv_m 1 q, rfl, (by rw [ht]; exact hP.sub [0] rfl), va_K.moved hW.alike (hK.sub [] rfl), hD.sub [0] (by decide) rfl⟩, hS.F ht⟩) hS.2.2 dX13_combines_19

theorem dX13_divided_0 : decode cX13_divided 0 = .ok (.aload_n 0, 1) := by decide +kernel
theorem dX13_divided_1 : decode cX13_divided 1 = .ok (.iconst 0, 1) := by decide +kernel
theorem dX13_divided_2 : decode cX13_divided 2 = .ok (.putfield 122, 3) := by decide +kernel
theorem dX13_divided_5 : decode cX13_divided 5 = .ok (.aload_n 0, 1) := by decide +kernel
theorem dX13_divided_6 : decode cX13_divided 6 = .ok (.iload_n 1, 1) := by decide +kernel
theorem dX13_divided_7 : decode cX13_divided 7 = .ok (.iload_n 2, 1) := by decide +kernel
theorem dX13_divided_8 : decode cX13_divided 8 = .ok (.invokevirtual 218, 3) := by decide +kernel
theorem dX13_divided_11 : decode cX13_divided 11 = .ok (.ifCond .ne 9, 3) := by decide +kernel
theorem dX13_divided_14 : decode cX13_divided 14 = .ok (.aload_n 0, 1) := by decide +kernel
theorem dX13_divided_15 : decode cX13_divided 15 = .ok (.iconst 1, 1) := by decide +kernel
theorem dX13_divided_16 : decode cX13_divided 16 = .ok (.invokevirtual 185, 3) := by decide +kernel
theorem dX13_divided_19 : decode cX13_divided 19 = .ok (.ireturn, 1) := by decide +kernel
set_option maxHeartbeats 4000000 in
set_option maxRecDepth 100000 in
/-- divided on a fresh object: code 1 -/
theorem c_X13_divided (l : Launch) (hfl : l.stackTraces = false) (D : va_G) (sz : Nat) (h0 : Nat) (q : Nat → Nat) (p0 : Int32) (p1 : Int32) (p2 : Int32) : Met l yX13_divided (Cond.code yX13_divided cX13_divided 4 (some .int) :: pv_W) ({ frames := 3, cells := 0, slots := 0, locals := 65 } : Room) (va_Pc [.ref h0, .int p0, .int p1, .int p2] (pv_P D [] [(h0, .inr (1, pv_m 0 q))] (va_A [(h0, .inr (1, pv_m 0 q))] sz) sz)) (va_Qi (fun r (u : Int32) => u = 1) (fun (u : Int32) t => ∃ fs : List Value, fs[0]? = some (.int u) ∧ va_P D pv_cl [(h0, .inr (1, fs))] t.heap ∧ va_K D pv_cl [] t ∧ va_D (va_A [(h0, .inr (1, pv_m 0 q))] sz) [(h0, .inr (1, fs))]) (va_A [(h0, .inr (1, pv_m 0 q))] sz)) 0 0 (va_A [(h0, .inr (1, pv_m 0 q))] sz) := by
  refine Met.ofW (cc := cX13_divided) (maxL := 4) (ret := (some .int)) (by decide) rfl ?_
  intro p e s m args below meth c s₁ B hml hv
  obtain ⟨rfl, hsz, hE, hP, hK, hD0⟩ := hv
  have hx := B.exec
  have hb := B.bytes
  have hr := B.returns
  have hts := fun (w : Cond) (h : w ∈ pv_W) => atoms_spec (ws := Cond.code yX13_divided cX13_divided 4 (some .int) :: pv_W) B.pre w (List.mem_cons_of_mem _ h)
  have hg := fun {w : Cond} (h : w ∈ lw_tbl) (g : goodWord w = true) => hts w (pv_in h g)
  have hown : s.vm.findClass RX13 = some m.cls := findClass_of_methodNamed B.named
  have hlocks := B.notSynchronized
  subst hsz
  have hD := hD0.self (sz := s.heap.size)
  generalize hAe : va_A [(h0, .inr (1, pv_m 0 q))] s.heap.size = A at hD hE ⊢
  have hA : ∀ q : Nat, s.heap.size ≤ q → A q := fun q h => by rw [← hAe]; exact Or.inr h
  have hS : va_S A s.heap s.heap [] := va_S.rf
  have hP : va_P D pv_cl [(h0, .inr (1, pv_m 0 q))] s.heap := hP
  have hl := lv_entry ([.ref h0, .int p0, .int p1, .int p2]) (n := 4) (Nat.le_of_ble_eq_true rfl)
  rw [lg_entry_eq]
  generalize (lg_sl ([.ref h0, .int p0, .int p1, .int p2]) ++ List.replicate (4 - (lg_sl ([.ref h0, .int p0, .int p1, .int p2])).length) Slot.unset).toArray = ls at hl ⊢
  have hl : lv_has ls 4 [(0, .ref h0), (1, .int p0), (2, .int p1), (3, .int p2)] := hl
  refine lv_aload_n hx hb dX13_divided_0 rfl (lv_at hl 0 rfl) ?_
  refine lv_iconst (v := 0) hx hb dX13_divided_1 (by decide) ?_
  refine va_put (own := RX13) (D := D) (ci := 1) (v := .int 0) (ty := .int) (C := RX13) (T := TX13) (N := 45) hx hb hts inF13 tyX13 tyX13_ok nmX13 hown hK hP hD hS 0 rfl rfl 0 (by decide) (hg w8_205 rfl) (fun _ h9 => h9) rfl (by decide +kernel) rfl rfl (Nat.le_of_ble_eq_true rfl) dX13_divided_2 (fun H locs hP hD hS => ?_)
  have hP : va_P D pv_cl [(h0, .inr (1, pv_m 0 q))] _ := hP
  have hD : va_D A [(h0, .inr (1, pv_m 0 q))] := hD
  refine lv_aload_n hx hb dX13_divided_5 rfl (lv_at hl 0 rfl) ?_
  refine lv_iload_n hx hb dX13_divided_6 rfl (lv_at hl 1 rfl) ?_
  refine lv_iload_n hx hb dX13_divided_7 rfl (lv_at hl 2 rfl) ?_
  have hF := pv_new hA hS.1
  refine va_calli (va_runV (As := [.int p0, .int p1]) (rest := []) ⟨hx, hb, hml, hown, hts⟩ (c_X13_are l hfl D _ h0 q p0 p1) (cwV 2 hts (pv_gV w9_164 w9_166 wp5_12 w1_10 w9_167) rfl rfl rfl (by decide +kernel) ⟨Nat.le_of_ble_eq_true rfl, Nat.le_of_ble_eq_true rfl⟩) (pv_pV hE hS hF (hP.sub [0] rfl) (hK.sub [] rfl) (hD.sub [0] (by decide) rfl) (va_recv (ci := 1) (q0 := 0) hK hP rfl rfl)) rfl rfl hl.1 rfl (lv_room (Nat.le_of_ble_eq_true rfl)) dX13_divided_8 ⟨Nat.le_of_ble_eq_true rfl, Nat.le_of_ble_eq_true rfl⟩) hS (fun q _ h => hF q h) hF (fun r_0 u t H1 locs1 ht hvm hw hB hz1 hk1 hS => ?_)
  refine W.widen (k := 0) (n := 0) (Nat.le_of_ble_eq_true rfl) (Nat.le_of_ble_eq_true rfl) ?_
  have hP := pv_keep hP rfl hk1
  obtain rfl := hw
  refine lv_if_ne (tgt := 20) hx hb dX13_divided_11 (by decide) (fun c_2 => absurd (by decide) c_2) (fun _ => ?_)
  refine lv_aload_n hx hb dX13_divided_14 rfl (lv_at hl 0 rfl) ?_
  refine lv_iconst (v := 1) hx hb dX13_divided_15 (by decide) ?_
  have hF := va_free (wc := [(h0, .inr (1, pv_m 0 q))]) hD hS hA [0] rfl
  refine va_calli (va_runV (As := [.int 1]) (rest := []) ⟨hx, hb, hml, hown, hts⟩ (c_X13_fails l hfl D _ h0 q 1) (cwV 1 hts (pv_gV w9_113 w9_115 wp5_9 w1_10 w9_116) rfl rfl rfl (by decide +kernel) ⟨Nat.le_of_ble_eq_true rfl, Nat.le_of_ble_eq_true rfl⟩) (pv_pV hE hS hF (hP.sub [0] rfl) (hK.sub [] rfl) (hD.sub [0] (by decide) rfl) (va_recv (ci := 1) (q0 := 0) hK hP rfl rfl)) rfl rfl hl.1 rfl (lv_room (Nat.le_of_ble_eq_true rfl)) dX13_divided_16 ⟨Nat.le_of_ble_eq_true rfl, Nat.le_of_ble_eq_true rfl⟩) hS (fun q _ h => hF q h) hF (fun r_2 u t H1 locs1 ht hvm hw hB hz1 hk1 hS => ?_)
  refine W.widen (k := 0) (n := 0) (Nat.le_of_ble_eq_true rfl) (Nat.le_of_ble_eq_true rfl) ?_
  obtain rfl := hw
  obtain ⟨hP1, hK1, hD1⟩ := hB
  rw [ht] at hP1
  have hK1 := va_K.moved hvm.symm hK1
  obtain ⟨hP, hD⟩ := va_join (wr := []) (w1 := [(h0, .inr (1, pv_m 1 q))]) hP hD [0] [] rfl rfl (by decide) (by decide) hk1 hF hP1 hD1
  have hP : va_P D pv_cl [(h0, .inr (1, pv_m 1 q))] _ := hP
  have hD : va_D A [(h0, .inr (1, pv_m 1 q))] := hD
  refine W.widen (k := 0) (n := 0) (Nat.le_of_ble_eq_true rfl) (Nat.le_of_ble_eq_true rfl) ?_
  exact W.iret (v := 0) hx hb hr (fun t ht hW => ⟨⟨0, 1, rfl, rfl, pv_m 1 q, rfl, (by rw [ht]; exact hP.sub [0] rfl), va_K.moved hW.alike (hK.sub [] rfl), hD.sub [0] (by decide) rfl⟩, hS.F ht⟩) hS.2.2 dX13_divided_19

theorem dX13_rewritten_0 : decode cX13_rewritten 0 = .ok (.aload_n 0, 1) := by decide +kernel
theorem dX13_rewritten_1 : decode cX13_rewritten 1 = .ok (.iconst 0, 1) := by decide +kernel
theorem dX13_rewritten_2 : decode cX13_rewritten 2 = .ok (.putfield 122, 3) := by decide +kernel
theorem dX13_rewritten_5 : decode cX13_rewritten 5 = .ok (.aload_n 0, 1) := by decide +kernel
theorem dX13_rewritten_6 : decode cX13_rewritten 6 = .ok (.iload_n 1, 1) := by decide +kernel
theorem dX13_rewritten_7 : decode cX13_rewritten 7 = .ok (.invokevirtual 132, 3) := by decide +kernel
theorem dX13_rewritten_10 : decode cX13_rewritten 10 = .ok (.ifCond .ne 9, 3) := by decide +kernel
theorem dX13_rewritten_13 : decode cX13_rewritten 13 = .ok (.aload_n 0, 1) := by decide +kernel
theorem dX13_rewritten_14 : decode cX13_rewritten 14 = .ok (.iconst 1, 1) := by decide +kernel
theorem dX13_rewritten_15 : decode cX13_rewritten 15 = .ok (.invokevirtual 185, 3) := by decide +kernel
theorem dX13_rewritten_18 : decode cX13_rewritten 18 = .ok (.ireturn, 1) := by decide +kernel
set_option maxHeartbeats 4000000 in
set_option maxRecDepth 100000 in
/-- rewritten on a fresh object: code 1 -/
theorem c_X13_rewritten (l : Launch) (hfl : l.stackTraces = false) (D : va_G) (sz : Nat) (h0 : Nat) (q : Nat → Nat) (p0 : Int32) : Met l yX13_rewritten (Cond.code yX13_rewritten cX13_rewritten 2 (some .int) :: pv_W) ({ frames := 2, cells := 0, slots := 0, locals := 43 } : Room) (va_Pc [.ref h0, .int p0] (pv_P D [] [(h0, .inr (1, pv_m 0 q))] (va_A [(h0, .inr (1, pv_m 0 q))] sz) sz)) (va_Qi (fun r (u : Int32) => u = 1) (fun (u : Int32) t => ∃ fs : List Value, fs[0]? = some (.int u) ∧ va_P D pv_cl [(h0, .inr (1, fs))] t.heap ∧ va_K D pv_cl [] t ∧ va_D (va_A [(h0, .inr (1, pv_m 0 q))] sz) [(h0, .inr (1, fs))]) (va_A [(h0, .inr (1, pv_m 0 q))] sz)) 0 0 (va_A [(h0, .inr (1, pv_m 0 q))] sz) := by
  refine Met.ofW (cc := cX13_rewritten) (maxL := 2) (ret := (some .int)) (by decide) rfl ?_
  intro p e s m args below meth c s₁ B hml hv
  obtain ⟨rfl, hsz, hE, hP, hK, hD0⟩ := hv
  have hx := B.exec
  have hb := B.bytes
  have hr := B.returns
  have hts := fun (w : Cond) (h : w ∈ pv_W) => atoms_spec (ws := Cond.code yX13_rewritten cX13_rewritten 2 (some .int) :: pv_W) B.pre w (List.mem_cons_of_mem _ h)
  have hg := fun {w : Cond} (h : w ∈ lw_tbl) (g : goodWord w = true) => hts w (pv_in h g)
  have hown : s.vm.findClass RX13 = some m.cls := findClass_of_methodNamed B.named
  have hlocks := B.notSynchronized
  subst hsz
  have hD := hD0.self (sz := s.heap.size)
  generalize hAe : va_A [(h0, .inr (1, pv_m 0 q))] s.heap.size = A at hD hE ⊢
  have hA : ∀ q : Nat, s.heap.size ≤ q → A q := fun q h => by rw [← hAe]; exact Or.inr h
  have hS : va_S A s.heap s.heap [] := va_S.rf
  have hP : va_P D pv_cl [(h0, .inr (1, pv_m 0 q))] s.heap := hP
  have hl := lv_entry ([.ref h0, .int p0]) (n := 2) (Nat.le_of_ble_eq_true rfl)
  rw [lg_entry_eq]
  generalize (lg_sl ([.ref h0, .int p0]) ++ List.replicate (2 - (lg_sl ([.ref h0, .int p0])).length) Slot.unset).toArray = ls at hl ⊢
  have hl : lv_has ls 2 [(0, .ref h0), (1, .int p0)] := hl
  refine lv_aload_n hx hb dX13_rewritten_0 rfl (lv_at hl 0 rfl) ?_
  refine lv_iconst (v := 0) hx hb dX13_rewritten_1 (by decide) ?_
  refine va_put (own := RX13) (D := D) (ci := 1) (v := .int 0) (ty := .int) (C := RX13) (T := TX13) (N := 45) hx hb hts inF13 tyX13 tyX13_ok nmX13 hown hK hP hD hS 0 rfl rfl 0 (by decide) (hg w8_205 rfl) (fun _ h9 => h9) rfl (by decide +kernel) rfl rfl (Nat.le_of_ble_eq_true rfl) dX13_rewritten_2 (fun H locs hP hD hS => ?_)
  have hP : va_P D pv_cl [(h0, .inr (1, pv_m 0 q))] _ := hP
  have hD : va_D A [(h0, .inr (1, pv_m 0 q))] := hD
  refine lv_aload_n hx hb dX13_rewritten_5 rfl (lv_at hl 0 rfl) ?_
  refine lv_iload_n hx hb dX13_rewritten_6 rfl (lv_at hl 1 rfl) ?_
  have hF := pv_new hA hS.1
  refine va_calli (va_runV (As := [.int p0]) (rest := []) ⟨hx, hb, hml, hown, hts⟩ (c_X13_is l hfl D _ h0 q p0) (cwV 1 hts (pv_gV w9_168 w9_170 wp5_13 w1_10 w9_171) rfl rfl rfl (by decide +kernel) ⟨Nat.le_of_ble_eq_true rfl, Nat.le_of_ble_eq_true rfl⟩) (pv_pV hE hS hF (hP.sub [0] rfl) (hK.sub [] rfl) (hD.sub [0] (by decide) rfl) (va_recv (ci := 1) (q0 := 0) hK hP rfl rfl)) rfl rfl hl.1 rfl (lv_room (Nat.le_of_ble_eq_true rfl)) dX13_rewritten_7 ⟨Nat.le_of_ble_eq_true rfl, Nat.le_of_ble_eq_true rfl⟩) hS (fun q _ h => hF q h) hF (fun r_0 u t H1 locs1 ht hvm hw hB hz1 hk1 hS => ?_)
  refine W.widen (k := 0) (n := 0) (Nat.le_of_ble_eq_true rfl) (Nat.le_of_ble_eq_true rfl) ?_
  have hP := pv_keep hP rfl hk1
  obtain rfl := hw
  refine lv_if_ne (tgt := 19) hx hb dX13_rewritten_10 (by decide) (fun c_2 => absurd (by decide) c_2) (fun _ => ?_)
  refine lv_aload_n hx hb dX13_rewritten_13 rfl (lv_at hl 0 rfl) ?_
  refine lv_iconst (v := 1) hx hb dX13_rewritten_14 (by decide) ?_
  have hF := va_free (wc := [(h0, .inr (1, pv_m 0 q))]) hD hS hA [0] rfl
  refine va_calli (va_runV (As := [.int 1]) (rest := []) ⟨hx, hb, hml, hown, hts⟩ (c_X13_fails l hfl D _ h0 q 1) (cwV 1 hts (pv_gV w9_113 w9_115 wp5_9 w1_10 w9_116) rfl rfl rfl (by decide +kernel) ⟨Nat.le_of_ble_eq_true rfl, Nat.le_of_ble_eq_true rfl⟩) (pv_pV hE hS hF (hP.sub [0] rfl) (hK.sub [] rfl) (hD.sub [0] (by decide) rfl) (va_recv (ci := 1) (q0 := 0) hK hP rfl rfl)) rfl rfl hl.1 rfl (lv_room (Nat.le_of_ble_eq_true rfl)) dX13_rewritten_15 ⟨Nat.le_of_ble_eq_true rfl, Nat.le_of_ble_eq_true rfl⟩) hS (fun q _ h => hF q h) hF (fun r_2 u t H1 locs1 ht hvm hw hB hz1 hk1 hS => ?_)
  refine W.widen (k := 0) (n := 0) (Nat.le_of_ble_eq_true rfl) (Nat.le_of_ble_eq_true rfl) ?_
  obtain rfl := hw
  obtain ⟨hP1, hK1, hD1⟩ := hB
  rw [ht] at hP1
  have hK1 := va_K.moved hvm.symm hK1
  obtain ⟨hP, hD⟩ := va_join (wr := []) (w1 := [(h0, .inr (1, pv_m 1 q))]) hP hD [0] [] rfl rfl (by decide) (by decide) hk1 hF hP1 hD1
  have hP : va_P D pv_cl [(h0, .inr (1, pv_m 1 q))] _ := hP
  have hD : va_D A [(h0, .inr (1, pv_m 1 q))] := hD
  refine W.widen (k := 0) (n := 0) (Nat.le_of_ble_eq_true rfl) (Nat.le_of_ble_eq_true rfl) ?_
  exact W.iret (v := 0) hx hb hr (fun t ht hW => ⟨⟨0, 1, rfl, rfl, pv_m 1 q, rfl, (by rw [ht]; exact hP.sub [0] rfl), va_K.moved hW.alike (hK.sub [] rfl), hD.sub [0] (by decide) rfl⟩, hS.F ht⟩) hS.2.2 dX13_rewritten_18

theorem dX13_factors_0 : decode cX13_factors 0 = .ok (.aload_n 0, 1) := by decide +kernel
theorem dX13_factors_1 : decode cX13_factors 1 = .ok (.iconst 0, 1) := by decide +kernel
theorem dX13_factors_2 : decode cX13_factors 2 = .ok (.putfield 122, 3) := by decide +kernel
theorem dX13_factors_5 : decode cX13_factors 5 = .ok (.aload_n 0, 1) := by decide +kernel
theorem dX13_factors_6 : decode cX13_factors 6 = .ok (.iload_n 1, 1) := by decide +kernel
theorem dX13_factors_7 : decode cX13_factors 7 = .ok (.invokevirtual 132, 3) := by decide +kernel
theorem dX13_factors_10 : decode cX13_factors 10 = .ok (.ifCond .ne 9, 3) := by decide +kernel
theorem dX13_factors_13 : decode cX13_factors 13 = .ok (.aload_n 0, 1) := by decide +kernel
theorem dX13_factors_14 : decode cX13_factors 14 = .ok (.iconst 1, 1) := by decide +kernel
theorem dX13_factors_15 : decode cX13_factors 15 = .ok (.invokevirtual 185, 3) := by decide +kernel
theorem dX13_factors_18 : decode cX13_factors 18 = .ok (.ireturn, 1) := by decide +kernel
set_option maxHeartbeats 4000000 in
set_option maxRecDepth 100000 in
/-- factors on a fresh object: code 1 -/
theorem c_X13_factors (l : Launch) (hfl : l.stackTraces = false) (D : va_G) (sz : Nat) (h0 : Nat) (q : Nat → Nat) (p0 : Int32) : Met l yX13_factors (Cond.code yX13_factors cX13_factors 2 (some .int) :: pv_W) ({ frames := 2, cells := 0, slots := 0, locals := 43 } : Room) (va_Pc [.ref h0, .int p0] (pv_P D [] [(h0, .inr (1, pv_m 0 q))] (va_A [(h0, .inr (1, pv_m 0 q))] sz) sz)) (va_Qi (fun r (u : Int32) => u = 1) (fun (u : Int32) t => ∃ fs : List Value, fs[0]? = some (.int u) ∧ va_P D pv_cl [(h0, .inr (1, fs))] t.heap ∧ va_K D pv_cl [] t ∧ va_D (va_A [(h0, .inr (1, pv_m 0 q))] sz) [(h0, .inr (1, fs))]) (va_A [(h0, .inr (1, pv_m 0 q))] sz)) 0 0 (va_A [(h0, .inr (1, pv_m 0 q))] sz) := by
  refine Met.ofW (cc := cX13_factors) (maxL := 2) (ret := (some .int)) (by decide) rfl ?_
  intro p e s m args below meth c s₁ B hml hv
  obtain ⟨rfl, hsz, hE, hP, hK, hD0⟩ := hv
  have hx := B.exec
  have hb := B.bytes
  have hr := B.returns
  have hts := fun (w : Cond) (h : w ∈ pv_W) => atoms_spec (ws := Cond.code yX13_factors cX13_factors 2 (some .int) :: pv_W) B.pre w (List.mem_cons_of_mem _ h)
  have hg := fun {w : Cond} (h : w ∈ lw_tbl) (g : goodWord w = true) => hts w (pv_in h g)
  have hown : s.vm.findClass RX13 = some m.cls := findClass_of_methodNamed B.named
  have hlocks := B.notSynchronized
  subst hsz
  have hD := hD0.self (sz := s.heap.size)
  generalize hAe : va_A [(h0, .inr (1, pv_m 0 q))] s.heap.size = A at hD hE ⊢
  have hA : ∀ q : Nat, s.heap.size ≤ q → A q := fun q h => by rw [← hAe]; exact Or.inr h
  have hS : va_S A s.heap s.heap [] := va_S.rf
  have hP : va_P D pv_cl [(h0, .inr (1, pv_m 0 q))] s.heap := hP
  have hl := lv_entry ([.ref h0, .int p0]) (n := 2) (Nat.le_of_ble_eq_true rfl)
  rw [lg_entry_eq]
  generalize (lg_sl ([.ref h0, .int p0]) ++ List.replicate (2 - (lg_sl ([.ref h0, .int p0])).length) Slot.unset).toArray = ls at hl ⊢
  have hl : lv_has ls 2 [(0, .ref h0), (1, .int p0)] := hl
  refine lv_aload_n hx hb dX13_factors_0 rfl (lv_at hl 0 rfl) ?_
  refine lv_iconst (v := 0) hx hb dX13_factors_1 (by decide) ?_
  refine va_put (own := RX13) (D := D) (ci := 1) (v := .int 0) (ty := .int) (C := RX13) (T := TX13) (N := 45) hx hb hts inF13 tyX13 tyX13_ok nmX13 hown hK hP hD hS 0 rfl rfl 0 (by decide) (hg w8_205 rfl) (fun _ h9 => h9) rfl (by decide +kernel) rfl rfl (Nat.le_of_ble_eq_true rfl) dX13_factors_2 (fun H locs hP hD hS => ?_)
  have hP : va_P D pv_cl [(h0, .inr (1, pv_m 0 q))] _ := hP
  have hD : va_D A [(h0, .inr (1, pv_m 0 q))] := hD
  refine lv_aload_n hx hb dX13_factors_5 rfl (lv_at hl 0 rfl) ?_
  refine lv_iload_n hx hb dX13_factors_6 rfl (lv_at hl 1 rfl) ?_
  have hF := pv_new hA hS.1
  refine va_calli (va_runV (As := [.int p0]) (rest := []) ⟨hx, hb, hml, hown, hts⟩ (c_X13_is l hfl D _ h0 q p0) (cwV 1 hts (pv_gV w9_168 w9_170 wp5_13 w1_10 w9_171) rfl rfl rfl (by decide +kernel) ⟨Nat.le_of_ble_eq_true rfl, Nat.le_of_ble_eq_true rfl⟩) (pv_pV hE hS hF (hP.sub [0] rfl) (hK.sub [] rfl) (hD.sub [0] (by decide) rfl) (va_recv (ci := 1) (q0 := 0) hK hP rfl rfl)) rfl rfl hl.1 rfl (lv_room (Nat.le_of_ble_eq_true rfl)) dX13_factors_7 ⟨Nat.le_of_ble_eq_true rfl, Nat.le_of_ble_eq_true rfl⟩) hS (fun q _ h => hF q h) hF (fun r_0 u t H1 locs1 ht hvm hw hB hz1 hk1 hS => ?_)
  refine W.widen (k := 0) (n := 0) (Nat.le_of_ble_eq_true rfl) (Nat.le_of_ble_eq_true rfl) ?_
  have hP := pv_keep hP rfl hk1
  obtain rfl := hw
  refine lv_if_ne (tgt := 19) hx hb dX13_factors_10 (by decide) (fun c_2 => absurd (by decide) c_2) (fun _ => ?_)
  refine lv_aload_n hx hb dX13_factors_13 rfl (lv_at hl 0 rfl) ?_
  refine lv_iconst (v := 1) hx hb dX13_factors_14 (by decide) ?_
  have hF := va_free (wc := [(h0, .inr (1, pv_m 0 q))]) hD hS hA [0] rfl
  refine va_calli (va_runV (As := [.int 1]) (rest := []) ⟨hx, hb, hml, hown, hts⟩ (c_X13_fails l hfl D _ h0 q 1) (cwV 1 hts (pv_gV w9_113 w9_115 wp5_9 w1_10 w9_116) rfl rfl rfl (by decide +kernel) ⟨Nat.le_of_ble_eq_true rfl, Nat.le_of_ble_eq_true rfl⟩) (pv_pV hE hS hF (hP.sub [0] rfl) (hK.sub [] rfl) (hD.sub [0] (by decide) rfl) (va_recv (ci := 1) (q0 := 0) hK hP rfl rfl)) rfl rfl hl.1 rfl (lv_room (Nat.le_of_ble_eq_true rfl)) dX13_factors_15 ⟨Nat.le_of_ble_eq_true rfl, Nat.le_of_ble_eq_true rfl⟩) hS (fun q _ h => hF q h) hF (fun r_2 u t H1 locs1 ht hvm hw hB hz1 hk1 hS => ?_)
  refine W.widen (k := 0) (n := 0) (Nat.le_of_ble_eq_true rfl) (Nat.le_of_ble_eq_true rfl) ?_
  obtain rfl := hw
  obtain ⟨hP1, hK1, hD1⟩ := hB
  rw [ht] at hP1
  have hK1 := va_K.moved hvm.symm hK1
  obtain ⟨hP, hD⟩ := va_join (wr := []) (w1 := [(h0, .inr (1, pv_m 1 q))]) hP hD [0] [] rfl rfl (by decide) (by decide) hk1 hF hP1 hD1
  have hP : va_P D pv_cl [(h0, .inr (1, pv_m 1 q))] _ := hP
  have hD : va_D A [(h0, .inr (1, pv_m 1 q))] := hD
  refine W.widen (k := 0) (n := 0) (Nat.le_of_ble_eq_true rfl) (Nat.le_of_ble_eq_true rfl) ?_
  exact W.iret (v := 0) hx hb hr (fun t ht hW => ⟨⟨0, 1, rfl, rfl, pv_m 1 q, rfl, (by rw [ht]; exact hP.sub [0] rfl), va_K.moved hW.alike (hK.sub [] rfl), hD.sub [0] (by decide) rfl⟩, hS.F ht⟩) hS.2.2 dX13_factors_18

theorem dX13_basis_0 : decode cX13_basis 0 = .ok (.aload_n 0, 1) := by decide +kernel
theorem dX13_basis_1 : decode cX13_basis 1 = .ok (.iconst 0, 1) := by decide +kernel
theorem dX13_basis_2 : decode cX13_basis 2 = .ok (.putfield 122, 3) := by decide +kernel
theorem dX13_basis_5 : decode cX13_basis 5 = .ok (.aload_n 0, 1) := by decide +kernel
theorem dX13_basis_6 : decode cX13_basis 6 = .ok (.iload_n 1, 1) := by decide +kernel
theorem dX13_basis_7 : decode cX13_basis 7 = .ok (.invokevirtual 402, 3) := by decide +kernel
theorem w10_205 : (Jvm.Cond.methodLink "PolyforgeModel" (402 : Nat) ({ cls := "PolyforgeModel", name := "isIdeal", desc := "(I)Z" } : Jvm.MethodName)) ∈ lw_tbl := pv_t10 (pv_mg 205 rfl)
theorem w10_208 : (Jvm.Cond.code ({ cls := "PolyforgeModel", name := "isIdeal", desc := "(I)Z" } : Jvm.MethodName) prog_14_method_97_code (2 : Nat) (Option.some Jvm.ClassFile.FieldType.boolean)) ∈ lw_tbl := pv_t10 (pv_mg 208 rfl)
theorem wp7_1 : Cond.selects "PolyforgeModel" ⟨"PolyforgeModel", "isIdeal", "(I)Z"⟩ ⟨"PolyforgeModel", "isIdeal", "(I)Z"⟩ ∈ lw_tbl := pv_mg 97 rfl
theorem w10_207 : (Jvm.Cond.instanceMethod ({ cls := "PolyforgeModel", name := "isIdeal", desc := "(I)Z" } : Jvm.MethodName)) ∈ lw_tbl := pv_t10 (pv_mg 207 rfl)
theorem dX13_basis_10 : decode cX13_basis 10 = .ok (.ifCond .ne 9, 3) := by decide +kernel
theorem dX13_basis_13 : decode cX13_basis 13 = .ok (.aload_n 0, 1) := by decide +kernel
theorem dX13_basis_14 : decode cX13_basis 14 = .ok (.iconst 1, 1) := by decide +kernel
theorem dX13_basis_15 : decode cX13_basis 15 = .ok (.invokevirtual 185, 3) := by decide +kernel
theorem dX13_basis_18 : decode cX13_basis 18 = .ok (.ireturn, 1) := by decide +kernel
set_option maxHeartbeats 4000000 in
set_option maxRecDepth 100000 in
/-- basis on a fresh object: code 1 -/
theorem c_X13_basis (l : Launch) (hfl : l.stackTraces = false) (D : va_G) (sz : Nat) (h0 : Nat) (q : Nat → Nat) (p0 : Int32) : Met l yX13_basis (Cond.code yX13_basis cX13_basis 2 (some .int) :: pv_W) ({ frames := 2, cells := 0, slots := 0, locals := 43 } : Room) (va_Pc [.ref h0, .int p0] (pv_P D [] [(h0, .inr (1, pv_m 0 q))] (va_A [(h0, .inr (1, pv_m 0 q))] sz) sz)) (va_Qi (fun r (u : Int32) => u = 1) (fun (u : Int32) t => ∃ fs : List Value, fs[0]? = some (.int u) ∧ va_P D pv_cl [(h0, .inr (1, fs))] t.heap ∧ va_K D pv_cl [] t ∧ va_D (va_A [(h0, .inr (1, pv_m 0 q))] sz) [(h0, .inr (1, fs))]) (va_A [(h0, .inr (1, pv_m 0 q))] sz)) 0 0 (va_A [(h0, .inr (1, pv_m 0 q))] sz) := by
  refine Met.ofW (cc := cX13_basis) (maxL := 2) (ret := (some .int)) (by decide) rfl ?_
  intro p e s m args below meth c s₁ B hml hv
  obtain ⟨rfl, hsz, hE, hP, hK, hD0⟩ := hv
  have hx := B.exec
  have hb := B.bytes
  have hr := B.returns
  have hts := fun (w : Cond) (h : w ∈ pv_W) => atoms_spec (ws := Cond.code yX13_basis cX13_basis 2 (some .int) :: pv_W) B.pre w (List.mem_cons_of_mem _ h)
  have hg := fun {w : Cond} (h : w ∈ lw_tbl) (g : goodWord w = true) => hts w (pv_in h g)
  have hown : s.vm.findClass RX13 = some m.cls := findClass_of_methodNamed B.named
  have hlocks := B.notSynchronized
  subst hsz
  have hD := hD0.self (sz := s.heap.size)
  generalize hAe : va_A [(h0, .inr (1, pv_m 0 q))] s.heap.size = A at hD hE ⊢
  have hA : ∀ q : Nat, s.heap.size ≤ q → A q := fun q h => by rw [← hAe]; exact Or.inr h
  have hS : va_S A s.heap s.heap [] := va_S.rf
  have hP : va_P D pv_cl [(h0, .inr (1, pv_m 0 q))] s.heap := hP
  have hl := lv_entry ([.ref h0, .int p0]) (n := 2) (Nat.le_of_ble_eq_true rfl)
  rw [lg_entry_eq]
  generalize (lg_sl ([.ref h0, .int p0]) ++ List.replicate (2 - (lg_sl ([.ref h0, .int p0])).length) Slot.unset).toArray = ls at hl ⊢
  have hl : lv_has ls 2 [(0, .ref h0), (1, .int p0)] := hl
  refine lv_aload_n hx hb dX13_basis_0 rfl (lv_at hl 0 rfl) ?_
  refine lv_iconst (v := 0) hx hb dX13_basis_1 (by decide) ?_
  refine va_put (own := RX13) (D := D) (ci := 1) (v := .int 0) (ty := .int) (C := RX13) (T := TX13) (N := 45) hx hb hts inF13 tyX13 tyX13_ok nmX13 hown hK hP hD hS 0 rfl rfl 0 (by decide) (hg w8_205 rfl) (fun _ h9 => h9) rfl (by decide +kernel) rfl rfl (Nat.le_of_ble_eq_true rfl) dX13_basis_2 (fun H locs hP hD hS => ?_)
  have hP : va_P D pv_cl [(h0, .inr (1, pv_m 0 q))] _ := hP
  have hD : va_D A [(h0, .inr (1, pv_m 0 q))] := hD
  refine lv_aload_n hx hb dX13_basis_5 rfl (lv_at hl 0 rfl) ?_
  refine lv_iload_n hx hb dX13_basis_6 rfl (lv_at hl 1 rfl) ?_
  have hF := pv_new hA hS.1
  refine va_calli (va_runV (As := [.int p0]) (rest := []) ⟨hx, hb, hml, hown, hts⟩ (c_X13_isIdeal l hfl D _ h0 q p0) (cwV 1 hts (pv_gV w10_205 w10_207 wp7_1 w1_10 w10_208) rfl rfl rfl (by decide +kernel) ⟨Nat.le_of_ble_eq_true rfl, Nat.le_of_ble_eq_true rfl⟩) (pv_pV hE hS hF (hP.sub [0] rfl) (hK.sub [] rfl) (hD.sub [0] (by decide) rfl) (va_recv (ci := 1) (q0 := 0) hK hP rfl rfl)) rfl rfl hl.1 rfl (lv_room (Nat.le_of_ble_eq_true rfl)) dX13_basis_7 ⟨Nat.le_of_ble_eq_true rfl, Nat.le_of_ble_eq_true rfl⟩) hS (fun q _ h => hF q h) hF (fun r_0 u t H1 locs1 ht hvm hw hB hz1 hk1 hS => ?_)
  refine W.widen (k := 0) (n := 0) (Nat.le_of_ble_eq_true rfl) (Nat.le_of_ble_eq_true rfl) ?_
  have hP := pv_keep hP rfl hk1
  obtain rfl := hw
  refine lv_if_ne (tgt := 19) hx hb dX13_basis_10 (by decide) (fun c_2 => absurd (by decide) c_2) (fun _ => ?_)
  refine lv_aload_n hx hb dX13_basis_13 rfl (lv_at hl 0 rfl) ?_
  refine lv_iconst (v := 1) hx hb dX13_basis_14 (by decide) ?_
  have hF := va_free (wc := [(h0, .inr (1, pv_m 0 q))]) hD hS hA [0] rfl
  refine va_calli (va_runV (As := [.int 1]) (rest := []) ⟨hx, hb, hml, hown, hts⟩ (c_X13_fails l hfl D _ h0 q 1) (cwV 1 hts (pv_gV w9_113 w9_115 wp5_9 w1_10 w9_116) rfl rfl rfl (by decide +kernel) ⟨Nat.le_of_ble_eq_true rfl, Nat.le_of_ble_eq_true rfl⟩) (pv_pV hE hS hF (hP.sub [0] rfl) (hK.sub [] rfl) (hD.sub [0] (by decide) rfl) (va_recv (ci := 1) (q0 := 0) hK hP rfl rfl)) rfl rfl hl.1 rfl (lv_room (Nat.le_of_ble_eq_true rfl)) dX13_basis_15 ⟨Nat.le_of_ble_eq_true rfl, Nat.le_of_ble_eq_true rfl⟩) hS (fun q _ h => hF q h) hF (fun r_2 u t H1 locs1 ht hvm hw hB hz1 hk1 hS => ?_)
  refine W.widen (k := 0) (n := 0) (Nat.le_of_ble_eq_true rfl) (Nat.le_of_ble_eq_true rfl) ?_
  obtain rfl := hw
  obtain ⟨hP1, hK1, hD1⟩ := hB
  rw [ht] at hP1
  have hK1 := va_K.moved hvm.symm hK1
  obtain ⟨hP, hD⟩ := va_join (wr := []) (w1 := [(h0, .inr (1, pv_m 1 q))]) hP hD [0] [] rfl rfl (by decide) (by decide) hk1 hF hP1 hD1
  have hP : va_P D pv_cl [(h0, .inr (1, pv_m 1 q))] _ := hP
  have hD : va_D A [(h0, .inr (1, pv_m 1 q))] := hD
  refine W.widen (k := 0) (n := 0) (Nat.le_of_ble_eq_true rfl) (Nat.le_of_ble_eq_true rfl) ?_
  exact W.iret (v := 0) hx hb hr (fun t ht hW => ⟨⟨0, 1, rfl, rfl, pv_m 1 q, rfl, (by rw [ht]; exact hP.sub [0] rfl), va_K.moved hW.alike (hK.sub [] rfl), hD.sub [0] (by decide) rfl⟩, hS.F ht⟩) hS.2.2 dX13_basis_18

theorem dX13_basisTerms_0 : decode cX13_basisTerms 0 = .ok (.aload_n 0, 1) := by decide +kernel
theorem dX13_basisTerms_1 : decode cX13_basisTerms 1 = .ok (.iload_n 1, 1) := by decide +kernel
theorem dX13_basisTerms_2 : decode cX13_basisTerms 2 = .ok (.invokevirtual 410, 3) := by decide +kernel
theorem w11_25 : (Jvm.Cond.methodLink "PolyforgeModel" (410 : Nat) ({ cls := "PolyforgeModel", name := "basis", desc := "(I)I" } : Jvm.MethodName)) ∈ lw_tbl := pv_t11 (pv_mg 25 rfl)
theorem w10_213 : (Jvm.Cond.code ({ cls := "PolyforgeModel", name := "basis", desc := "(I)I" } : Jvm.MethodName) prog_14_method_100_code (2 : Nat) (Option.some Jvm.ClassFile.FieldType.int)) ∈ lw_tbl := pv_t10 (pv_mg 213 rfl)
theorem w10_212 : (Jvm.Cond.selects "PolyforgeModel" ({ cls := "PolyforgeModel", name := "basis", desc := "(I)I" } : Jvm.MethodName) ({ cls := "PolyforgeModel", name := "basis", desc := "(I)I" } : Jvm.MethodName)) ∈ lw_tbl := pv_t10 (pv_mg 212 rfl)
theorem w10_211 : (Jvm.Cond.instanceMethod ({ cls := "PolyforgeModel", name := "basis", desc := "(I)I" } : Jvm.MethodName)) ∈ lw_tbl := pv_t10 (pv_mg 211 rfl)
theorem dX13_basisTerms_5 : decode cX13_basisTerms 5 = .ok (.istore_n 3, 1) := by decide +kernel
theorem dX13_basisTerms_6 : decode cX13_basisTerms 6 = .ok (.aload_n 0, 1) := by decide +kernel
theorem dX13_basisTerms_7 : decode cX13_basisTerms 7 = .ok (.getfield 122, 3) := by decide +kernel
theorem dX13_basisTerms_10 : decode cX13_basisTerms 10 = .ok (.ifCond .le 5, 3) := by decide +kernel
theorem dX13_basisTerms_13 : decode cX13_basisTerms 13 = .ok (.iconst 0, 1) := by decide +kernel
theorem dX13_basisTerms_14 : decode cX13_basisTerms 14 = .ok (.ireturn, 1) := by decide +kernel
set_option maxHeartbeats 4000000 in
set_option maxRecDepth 100000 in
/-- basisTerms on a fresh object: code 1 -/
theorem c_X13_basisTerms (l : Launch) (hfl : l.stackTraces = false) (D : va_G) (sz : Nat) (h0 : Nat) (q : Nat → Nat) (p0 : Int32) (p1 : Int32) : Met l yX13_basisTerms (Cond.code yX13_basisTerms cX13_basisTerms 4 (some .int) :: pv_W) ({ frames := 3, cells := 0, slots := 0, locals := 64 } : Room) (va_Pc [.ref h0, .int p0, .int p1] (pv_P D [] [(h0, .inr (1, pv_m 0 q))] (va_A [(h0, .inr (1, pv_m 0 q))] sz) sz)) (va_Qi (fun r (u : Int32) => u = 1) (fun (u : Int32) t => ∃ fs : List Value, fs[0]? = some (.int u) ∧ va_P D pv_cl [(h0, .inr (1, fs))] t.heap ∧ va_K D pv_cl [] t ∧ va_D (va_A [(h0, .inr (1, pv_m 0 q))] sz) [(h0, .inr (1, fs))]) (va_A [(h0, .inr (1, pv_m 0 q))] sz)) 0 0 (va_A [(h0, .inr (1, pv_m 0 q))] sz) := by
  refine Met.ofW (cc := cX13_basisTerms) (maxL := 4) (ret := (some .int)) (by decide) rfl ?_
  intro p e s m args below meth c s₁ B hml hv
  obtain ⟨rfl, hsz, hE, hP, hK, hD0⟩ := hv
  have hx := B.exec
  have hb := B.bytes
  have hr := B.returns
  have hts := fun (w : Cond) (h : w ∈ pv_W) => atoms_spec (ws := Cond.code yX13_basisTerms cX13_basisTerms 4 (some .int) :: pv_W) B.pre w (List.mem_cons_of_mem _ h)
  have hg := fun {w : Cond} (h : w ∈ lw_tbl) (g : goodWord w = true) => hts w (pv_in h g)
  have hown : s.vm.findClass RX13 = some m.cls := findClass_of_methodNamed B.named
  have hlocks := B.notSynchronized
  subst hsz
  have hD := hD0.self (sz := s.heap.size)
  generalize hAe : va_A [(h0, .inr (1, pv_m 0 q))] s.heap.size = A at hD hE ⊢
  have hA : ∀ q : Nat, s.heap.size ≤ q → A q := fun q h => by rw [← hAe]; exact Or.inr h
  have hS : va_S A s.heap s.heap [] := va_S.rf
  have hP : va_P D pv_cl [(h0, .inr (1, pv_m 0 q))] s.heap := hP
  have hl := lv_entry ([.ref h0, .int p0, .int p1]) (n := 4) (Nat.le_of_ble_eq_true rfl)
  rw [lg_entry_eq]
  generalize (lg_sl ([.ref h0, .int p0, .int p1]) ++ List.replicate (4 - (lg_sl ([.ref h0, .int p0, .int p1])).length) Slot.unset).toArray = ls at hl ⊢
  have hl : lv_has ls 4 [(0, .ref h0), (1, .int p0), (2, .int p1)] := hl
  refine lv_aload_n hx hb dX13_basisTerms_0 rfl (lv_at hl 0 rfl) ?_
  refine lv_iload_n hx hb dX13_basisTerms_1 rfl (lv_at hl 1 rfl) ?_
  have hF := va_free (wc := [(h0, .inr (1, pv_m 0 q))]) hD hS hA [0] rfl
  refine va_calli (va_runV (As := [.int p0]) (rest := []) ⟨hx, hb, hml, hown, hts⟩ (c_X13_basis l hfl D _ h0 q p0) (cwV 1 hts (pv_gV w11_25 w10_211 w10_212 w1_10 w10_213) rfl rfl rfl (by decide +kernel) ⟨Nat.le_of_ble_eq_true rfl, Nat.le_of_ble_eq_true rfl⟩) (pv_pV hE hS hF (hP.sub [0] rfl) (hK.sub [] rfl) (hD.sub [0] (by decide) rfl) (va_recv (ci := 1) (q0 := 0) hK hP rfl rfl)) rfl rfl hl.1 rfl (lv_room (Nat.le_of_ble_eq_true rfl)) dX13_basisTerms_2 ⟨Nat.le_of_ble_eq_true rfl, Nat.le_of_ble_eq_true rfl⟩) hS (fun q _ h => hF q h) hF (fun r_0 u t H1 locs1 ht hvm hw hB hz1 hk1 hS => ?_)
  refine W.widen (k := 0) (n := 0) (Nat.le_of_ble_eq_true rfl) (Nat.le_of_ble_eq_true rfl) ?_
  subst hw
  obtain ⟨fs_2, hf_3, hP1, hK1, hD1⟩ := hB
  rw [ht] at hP1
  have hK1 := va_K.moved hvm.symm hK1
  obtain ⟨hP, hD⟩ := va_join (wr := []) (w1 := [(h0, .inr (1, fs_2))]) hP hD [0] [] rfl rfl (by decide) (by decide) hk1 hF hP1 hD1
  have hP : va_P D pv_cl [(h0, .inr (1, fs_2))] _ := hP
  have hD : va_D A [(h0, .inr (1, fs_2))] := hD
  refine lv_istore_n (lv' := [(3, .int r_0), (0, .ref h0), (1, .int p0), (2, .int p1)]) hx hb dX13_basisTerms_5 rfl hl (by decide) rfl (fun ls hl => ?_)
  refine lv_aload_n hx hb dX13_basisTerms_6 rfl (lv_at hl 1 rfl) ?_
  refine va_get (own := RX13) (D := D) (ci := 1) (v := .int 1) (C := RX13) (T := TX13) (N := 45) hx hb hts inF13 hown hK hP 0 rfl rfl 0 (by decide) (hg w8_205 rfl) (fun _ h9 => h9) hf_3 dX13_basisTerms_7 ?_
  refine lv_if_le (tgt := 15) hx hb dX13_basisTerms_10 (by decide) (fun c_4 => absurd c_4 (by decide)) (fun _ => ?_)
  refine lv_iconst (v := 0) hx hb dX13_basisTerms_13 (by decide) ?_
  refine W.widen (k := 0) (n := 0) (Nat.le_of_ble_eq_true rfl) (Nat.le_of_ble_eq_true rfl) ?_
  exact W.iret (v := 0) hx hb hr (fun t ht hW => ⟨⟨0, 1, rfl, rfl, fs_2, hf_3, (by rw [ht]; exact hP.sub [0] rfl), va_K.moved hW.alike (hK.sub [] rfl), hD.sub [0] (by decide) rfl⟩, hS.F ht⟩) hS.2.2 dX13_basisTerms_14

theorem dX13_fit_0 : decode cX13_fit 0 = .ok (.aload_n 0, 1) := by decide +kernel
theorem dX13_fit_1 : decode cX13_fit 1 = .ok (.aload_n 0, 1) := by decide +kernel
theorem dX13_fit_2 : decode cX13_fit 2 = .ok (.iload_n 1, 1) := by decide +kernel
theorem dX13_fit_3 : decode cX13_fit 3 = .ok (.invokevirtual 402, 3) := by decide +kernel
theorem dX13_fit_6 : decode cX13_fit 6 = .ok (.ifCond .ne 7, 3) := by decide +kernel
theorem dX13_fit_9 : decode cX13_fit 9 = .ok (.iconst 1, 1) := by decide +kernel
theorem dX13_fit_10 : decode cX13_fit 10 = .ok (.goto 35, 3) := by decide +kernel
theorem dX13_fit_45 : decode cX13_fit 45 = .ok (.putfield 122, 3) := by decide +kernel
theorem dX13_fit_48 : decode cX13_fit 48 = .ok (.aload_n 0, 1) := by decide +kernel
theorem dX13_fit_49 : decode cX13_fit 49 = .ok (.getfield 122, 3) := by decide +kernel
theorem dX13_fit_52 : decode cX13_fit 52 = .ok (.ifCond .ne 7, 3) := by decide +kernel
theorem dX13_fit_59 : decode cX13_fit 59 = .ok (.iconst 0, 1) := by decide +kernel
theorem dX13_fit_60 : decode cX13_fit 60 = .ok (.ireturn, 1) := by decide +kernel
set_option maxHeartbeats 4000000 in
set_option maxRecDepth 100000 in
/-- fit on a fresh object: code 1 -/
theorem c_X13_fit (l : Launch) (hfl : l.stackTraces = false) (D : va_G) (sz : Nat) (h0 : Nat) (q : Nat → Nat) (p0 : Int32) (p1 : Int32) : Met l yX13_fit (Cond.code yX13_fit cX13_fit 3 (some .boolean) :: pv_W) ({ frames := 2, cells := 0, slots := 0, locals := 43 } : Room) (va_Pc [.ref h0, .int p0, .int p1] (pv_P D [] [(h0, .inr (1, pv_m 0 q))] (va_A [(h0, .inr (1, pv_m 0 q))] sz) sz)) (va_Qi (fun r (u : Int32) => r = 0 ∧ u = 1) (fun (u : Int32) t => ∃ fs : List Value, fs[0]? = some (.int u) ∧ va_P D pv_cl [(h0, .inr (1, fs))] t.heap ∧ va_K D pv_cl [] t ∧ va_D (va_A [(h0, .inr (1, pv_m 0 q))] sz) [(h0, .inr (1, fs))]) (va_A [(h0, .inr (1, pv_m 0 q))] sz)) 0 0 (va_A [(h0, .inr (1, pv_m 0 q))] sz) := by
  refine Met.ofW (cc := cX13_fit) (maxL := 3) (ret := (some .boolean)) (by decide) rfl ?_
  intro p e s m args below meth c s₁ B hml hv
  obtain ⟨rfl, hsz, hE, hP, hK, hD0⟩ := hv
  have hx := B.exec
  have hb := B.bytes
  have hr := B.returns
  have hts := fun (w : Cond) (h : w ∈ pv_W) => atoms_spec (ws := Cond.code yX13_fit cX13_fit 3 (some .boolean) :: pv_W) B.pre w (List.mem_cons_of_mem _ h)
  have hg := fun {w : Cond} (h : w ∈ lw_tbl) (g : goodWord w = true) => hts w (pv_in h g)
  have hown : s.vm.findClass RX13 = some m.cls := findClass_of_methodNamed B.named
  have hlocks := B.notSynchronized
  subst hsz
  have hD := hD0.self (sz := s.heap.size)
  generalize hAe : va_A [(h0, .inr (1, pv_m 0 q))] s.heap.size = A at hD hE ⊢
  have hA : ∀ q : Nat, s.heap.size ≤ q → A q := fun q h => by rw [← hAe]; exact Or.inr h
  have hS : va_S A s.heap s.heap [] := va_S.rf
  have hP : va_P D pv_cl [(h0, .inr (1, pv_m 0 q))] s.heap := hP
  have hl := lv_entry ([.ref h0, .int p0, .int p1]) (n := 3) (Nat.le_of_ble_eq_true rfl)
  rw [lg_entry_eq]
  generalize (lg_sl ([.ref h0, .int p0, .int p1]) ++ List.replicate (3 - (lg_sl ([.ref h0, .int p0, .int p1])).length) Slot.unset).toArray = ls at hl ⊢
  have hl : lv_has ls 3 [(0, .ref h0), (1, .int p0), (2, .int p1)] := hl
  refine lv_aload_n hx hb dX13_fit_0 rfl (lv_at hl 0 rfl) ?_
  refine lv_aload_n hx hb dX13_fit_1 rfl (lv_at hl 0 rfl) ?_
  refine lv_iload_n hx hb dX13_fit_2 rfl (lv_at hl 1 rfl) ?_
  have hF := pv_new hA hS.1
  refine va_calli (va_runV (As := [.int p0]) (rest := [.ref h0]) ⟨hx, hb, hml, hown, hts⟩ (c_X13_isIdeal l hfl D _ h0 q p0) (cwV 1 hts (pv_gV w10_205 w10_207 wp7_1 w1_10 w10_208) rfl rfl rfl (by decide +kernel) ⟨Nat.le_of_ble_eq_true rfl, Nat.le_of_ble_eq_true rfl⟩) (pv_pV hE hS hF (hP.sub [0] rfl) (hK.sub [] rfl) (hD.sub [0] (by decide) rfl) (va_recv (ci := 1) (q0 := 0) hK hP rfl rfl)) rfl rfl hl.1 rfl (lv_room (Nat.le_of_ble_eq_true rfl)) dX13_fit_3 ⟨Nat.le_of_ble_eq_true rfl, Nat.le_of_ble_eq_true rfl⟩) hS (fun q _ h => hF q h) hF (fun r_0 u t H1 locs1 ht hvm hw hB hz1 hk1 hS => ?_)
  refine W.widen (k := 0) (n := 0) (Nat.le_of_ble_eq_true rfl) (Nat.le_of_ble_eq_true rfl) ?_
  have hP := pv_keep hP rfl hk1
  obtain rfl := hw
  refine lv_if_ne (tgt := 13) hx hb dX13_fit_6 (by decide) (fun c_2 => absurd (by decide) c_2) (fun _ => ?_)
  refine lv_iconst (v := 1) hx hb dX13_fit_9 (by decide) ?_
  refine lv_goto (tgt := 45) hx hb dX13_fit_10 (by decide) ?_
  refine va_put (own := RX13) (D := D) (ci := 1) (v := .int 1) (ty := .int) (C := RX13) (T := TX13) (N := 45) hx hb hts inF13 tyX13 tyX13_ok nmX13 hown hK hP hD hS 0 rfl rfl 0 (by decide) (hg w8_205 rfl) (fun _ h9 => h9) rfl (by decide +kernel) rfl rfl (Nat.le_of_ble_eq_true rfl) dX13_fit_45 (fun H locs hP hD hS => ?_)
  have hP : va_P D pv_cl [(h0, .inr (1, pv_m 1 q))] _ := hP
  have hD : va_D A [(h0, .inr (1, pv_m 1 q))] := hD
  refine lv_aload_n hx hb dX13_fit_48 rfl (lv_at hl 0 rfl) ?_
  refine va_get (own := RX13) (D := D) (ci := 1) (v := .int 1) (C := RX13) (T := TX13) (N := 45) hx hb hts inF13 hown hK hP 0 rfl rfl 0 (by decide) (hg w8_205 rfl) (fun _ h9 => h9) rfl dX13_fit_49 ?_
  refine lv_if_ne (tgt := 59) hx hb dX13_fit_52 (by decide) (fun _ => ?_) (fun c_3 => absurd c_3 (by decide))
  refine lv_iconst (v := 0) hx hb dX13_fit_59 (by decide) ?_
  refine W.widen (k := 0) (n := 0) (Nat.le_of_ble_eq_true rfl) (Nat.le_of_ble_eq_true rfl) ?_
  exact W.zret (v := 0) (ty := .boolean) hx hb hr rfl (fun t ht hW => ⟨⟨0, 1, rfl, ⟨rfl, rfl⟩, pv_m 1 q, rfl, (by rw [ht]; exact hP.sub [0] rfl), va_K.moved hW.alike (hK.sub [] rfl), hD.sub [0] (by decide) rfl⟩, hS.F ht⟩) hS.2.2 dX13_fit_60

theorem dX13_add_0 : decode cX13_add 0 = .ok (.aload_n 0, 1) := by decide +kernel
theorem dX13_add_1 : decode cX13_add 1 = .ok (.iload_n 1, 1) := by decide +kernel
theorem dX13_add_2 : decode cX13_add 2 = .ok (.iload_n 2, 1) := by decide +kernel
theorem dX13_add_3 : decode cX13_add 3 = .ok (.lconst 1, 1) := by decide +kernel
theorem dX13_add_4 : decode cX13_add 4 = .ok (.invokevirtual 226, 3) := by decide +kernel
theorem w9_160 : (Jvm.Cond.methodLink "PolyforgeModel" (226 : Nat) ({ cls := "PolyforgeModel", name := "combines", desc := "(IIJ)I" } : Jvm.MethodName)) ∈ lw_tbl := pv_t9 (pv_mg 160 rfl)
theorem w9_163 : (Jvm.Cond.code ({ cls := "PolyforgeModel", name := "combines", desc := "(IIJ)I" } : Jvm.MethodName) prog_14_method_30_code (6 : Nat) (Option.some Jvm.ClassFile.FieldType.int)) ∈ lw_tbl := pv_t9 (pv_mg 163 rfl)
theorem wp5_11 : Cond.selects "PolyforgeModel" ⟨"PolyforgeModel", "combines", "(IIJ)I"⟩ ⟨"PolyforgeModel", "combines", "(IIJ)I"⟩ ∈ lw_tbl := pv_mg 75 rfl
theorem w9_162 : (Jvm.Cond.instanceMethod ({ cls := "PolyforgeModel", name := "combines", desc := "(IIJ)I" } : Jvm.MethodName)) ∈ lw_tbl := pv_t9 (pv_mg 162 rfl)
theorem dX13_add_7 : decode cX13_add 7 = .ok (.ireturn, 1) := by decide +kernel
set_option maxHeartbeats 4000000 in
set_option maxRecDepth 100000 in
/-- add on a fresh object: code 1 -/
theorem c_X13_add (l : Launch) (hfl : l.stackTraces = false) (D : va_G) (sz : Nat) (h0 : Nat) (q : Nat → Nat) (p0 : Int32) (p1 : Int32) : Met l yX13_add (Cond.code yX13_add cX13_add 3 (some .int) :: pv_W) ({ frames := 4, cells := 0, slots := 0, locals := 90 } : Room) (va_Pc [.ref h0, .int p0, .int p1] (pv_P D [] [(h0, .inr (1, pv_m 0 q))] (va_A [(h0, .inr (1, pv_m 0 q))] sz) sz)) (va_Qi (fun r (u : Int32) => u = 1) (fun (u : Int32) t => ∃ fs : List Value, fs[0]? = some (.int u) ∧ va_P D pv_cl [(h0, .inr (1, fs))] t.heap ∧ va_K D pv_cl [] t ∧ va_D (va_A [(h0, .inr (1, pv_m 0 q))] sz) [(h0, .inr (1, fs))]) (va_A [(h0, .inr (1, pv_m 0 q))] sz)) 0 0 (va_A [(h0, .inr (1, pv_m 0 q))] sz) := by
  refine Met.ofW (cc := cX13_add) (maxL := 3) (ret := (some .int)) (by decide) rfl ?_
  intro p e s m args below meth c s₁ B hml hv
  obtain ⟨rfl, hsz, hE, hP, hK, hD0⟩ := hv
  have hx := B.exec
  have hb := B.bytes
  have hr := B.returns
  have hts := fun (w : Cond) (h : w ∈ pv_W) => atoms_spec (ws := Cond.code yX13_add cX13_add 3 (some .int) :: pv_W) B.pre w (List.mem_cons_of_mem _ h)
  have hg := fun {w : Cond} (h : w ∈ lw_tbl) (g : goodWord w = true) => hts w (pv_in h g)
  have hown : s.vm.findClass RX13 = some m.cls := findClass_of_methodNamed B.named
  have hlocks := B.notSynchronized
  subst hsz
  have hD := hD0.self (sz := s.heap.size)
  generalize hAe : va_A [(h0, .inr (1, pv_m 0 q))] s.heap.size = A at hD hE ⊢
  have hA : ∀ q : Nat, s.heap.size ≤ q → A q := fun q h => by rw [← hAe]; exact Or.inr h
  have hS : va_S A s.heap s.heap [] := va_S.rf
  have hP : va_P D pv_cl [(h0, .inr (1, pv_m 0 q))] s.heap := hP
  have hl := lv_entry ([.ref h0, .int p0, .int p1]) (n := 3) (Nat.le_of_ble_eq_true rfl)
  rw [lg_entry_eq]
  generalize (lg_sl ([.ref h0, .int p0, .int p1]) ++ List.replicate (3 - (lg_sl ([.ref h0, .int p0, .int p1])).length) Slot.unset).toArray = ls at hl ⊢
  have hl : lv_has ls 3 [(0, .ref h0), (1, .int p0), (2, .int p1)] := hl
  refine lv_aload_n hx hb dX13_add_0 rfl (lv_at hl 0 rfl) ?_
  refine lv_iload_n hx hb dX13_add_1 rfl (lv_at hl 1 rfl) ?_
  refine lv_iload_n hx hb dX13_add_2 rfl (lv_at hl 2 rfl) ?_
  refine lv_lconst (v := 1) hx hb dX13_add_3 (by decide) ?_
  have hF := va_free (wc := [(h0, .inr (1, pv_m 0 q))]) hD hS hA [0] rfl
  refine va_calli (va_runV (As := [.int p0, .int p1, .long 1]) (rest := []) ⟨hx, hb, hml, hown, hts⟩ (c_X13_combines l hfl D _ h0 q p0 p1 1) (cwV 3 hts (pv_gV w9_160 w9_162 wp5_11 w1_10 w9_163) rfl rfl rfl (by decide +kernel) ⟨Nat.le_of_ble_eq_true rfl, Nat.le_of_ble_eq_true rfl⟩) (pv_pV hE hS hF (hP.sub [0] rfl) (hK.sub [] rfl) (hD.sub [0] (by decide) rfl) (va_recv (ci := 1) (q0 := 0) hK hP rfl rfl)) rfl rfl hl.1 rfl (lv_room (Nat.le_of_ble_eq_true rfl)) dX13_add_4 ⟨Nat.le_of_ble_eq_true rfl, Nat.le_of_ble_eq_true rfl⟩) hS (fun q _ h => hF q h) hF (fun r_0 u t H1 locs1 ht hvm hw hB hz1 hk1 hS => ?_)
  refine W.widen (k := 0) (n := 0) (Nat.le_of_ble_eq_true rfl) (Nat.le_of_ble_eq_true rfl) ?_
  subst hw
  obtain ⟨fs_2, hf_3, hP1, hK1, hD1⟩ := hB
  rw [ht] at hP1
  have hK1 := va_K.moved hvm.symm hK1
  obtain ⟨hP, hD⟩ := va_join (wr := []) (w1 := [(h0, .inr (1, fs_2))]) hP hD [0] [] rfl rfl (by decide) (by decide) hk1 hF hP1 hD1
  have hP : va_P D pv_cl [(h0, .inr (1, fs_2))] _ := hP
  have hD : va_D A [(h0, .inr (1, fs_2))] := hD
  refine W.widen (k := 0) (n := 0) (Nat.le_of_ble_eq_true rfl) (Nat.le_of_ble_eq_true rfl) ?_
  exact W.iret (v := r_0) hx hb hr (fun t ht hW => ⟨⟨r_0, 1, rfl, rfl, fs_2, hf_3, (by rw [ht]; exact hP.sub [0] rfl), va_K.moved hW.alike (hK.sub [] rfl), hD.sub [0] (by decide) rfl⟩, hS.F ht⟩) hS.2.2 dX13_add_7

theorem dX13_subtract_0 : decode cX13_subtract 0 = .ok (.aload_n 0, 1) := by decide +kernel
theorem dX13_subtract_1 : decode cX13_subtract 1 = .ok (.iload_n 1, 1) := by decide +kernel
theorem dX13_subtract_2 : decode cX13_subtract 2 = .ok (.iload_n 2, 1) := by decide +kernel
theorem dX13_subtract_3 : decode cX13_subtract 3 = .ok (.ldc2_w 230, 3) := by decide +kernel
theorem w9_205 : (Jvm.Cond.constantLong "PolyforgeModel" (230 : Nat) (-1 : Int64)) ∈ lw_tbl := pv_t9 (pv_mg 205 rfl)
theorem dX13_subtract_6 : decode cX13_subtract 6 = .ok (.invokevirtual 226, 3) := by decide +kernel
theorem dX13_subtract_9 : decode cX13_subtract 9 = .ok (.ireturn, 1) := by decide +kernel
set_option maxHeartbeats 4000000 in
set_option maxRecDepth 100000 in
/-- subtract on a fresh object: code 1 -/
theorem c_X13_subtract (l : Launch) (hfl : l.stackTraces = false) (D : va_G) (sz : Nat) (h0 : Nat) (q : Nat → Nat) (p0 : Int32) (p1 : Int32) : Met l yX13_subtract (Cond.code yX13_subtract cX13_subtract 3 (some .int) :: pv_W) ({ frames := 4, cells := 0, slots := 0, locals := 90 } : Room) (va_Pc [.ref h0, .int p0, .int p1] (pv_P D [] [(h0, .inr (1, pv_m 0 q))] (va_A [(h0, .inr (1, pv_m 0 q))] sz) sz)) (va_Qi (fun r (u : Int32) => u = 1) (fun (u : Int32) t => ∃ fs : List Value, fs[0]? = some (.int u) ∧ va_P D pv_cl [(h0, .inr (1, fs))] t.heap ∧ va_K D pv_cl [] t ∧ va_D (va_A [(h0, .inr (1, pv_m 0 q))] sz) [(h0, .inr (1, fs))]) (va_A [(h0, .inr (1, pv_m 0 q))] sz)) 0 0 (va_A [(h0, .inr (1, pv_m 0 q))] sz) := by
  refine Met.ofW (cc := cX13_subtract) (maxL := 3) (ret := (some .int)) (by decide) rfl ?_
  intro p e s m args below meth c s₁ B hml hv
  obtain ⟨rfl, hsz, hE, hP, hK, hD0⟩ := hv
  have hx := B.exec
  have hb := B.bytes
  have hr := B.returns
  have hts := fun (w : Cond) (h : w ∈ pv_W) => atoms_spec (ws := Cond.code yX13_subtract cX13_subtract 3 (some .int) :: pv_W) B.pre w (List.mem_cons_of_mem _ h)
  have hg := fun {w : Cond} (h : w ∈ lw_tbl) (g : goodWord w = true) => hts w (pv_in h g)
  have hown : s.vm.findClass RX13 = some m.cls := findClass_of_methodNamed B.named
  have hlocks := B.notSynchronized
  subst hsz
  have hD := hD0.self (sz := s.heap.size)
  generalize hAe : va_A [(h0, .inr (1, pv_m 0 q))] s.heap.size = A at hD hE ⊢
  have hA : ∀ q : Nat, s.heap.size ≤ q → A q := fun q h => by rw [← hAe]; exact Or.inr h
  have hS : va_S A s.heap s.heap [] := va_S.rf
  have hP : va_P D pv_cl [(h0, .inr (1, pv_m 0 q))] s.heap := hP
  have hl := lv_entry ([.ref h0, .int p0, .int p1]) (n := 3) (Nat.le_of_ble_eq_true rfl)
  rw [lg_entry_eq]
  generalize (lg_sl ([.ref h0, .int p0, .int p1]) ++ List.replicate (3 - (lg_sl ([.ref h0, .int p0, .int p1])).length) Slot.unset).toArray = ls at hl ⊢
  have hl : lv_has ls 3 [(0, .ref h0), (1, .int p0), (2, .int p1)] := hl
  refine lv_aload_n hx hb dX13_subtract_0 rfl (lv_at hl 0 rfl) ?_
  refine lv_iload_n hx hb dX13_subtract_1 rfl (lv_at hl 1 rfl) ?_
  refine lv_iload_n hx hb dX13_subtract_2 rfl (lv_at hl 2 rfl) ?_
  refine lv_ldc2 (own := RX13) (v := (-1)) hx hb hown (hg w9_205 rfl) dX13_subtract_3 ?_
  have hF := va_free (wc := [(h0, .inr (1, pv_m 0 q))]) hD hS hA [0] rfl
  refine va_calli (va_runV (As := [.int p0, .int p1, .long (-1)]) (rest := []) ⟨hx, hb, hml, hown, hts⟩ (c_X13_combines l hfl D _ h0 q p0 p1 (-1)) (cwV 3 hts (pv_gV w9_160 w9_162 wp5_11 w1_10 w9_163) rfl rfl rfl (by decide +kernel) ⟨Nat.le_of_ble_eq_true rfl, Nat.le_of_ble_eq_true rfl⟩) (pv_pV hE hS hF (hP.sub [0] rfl) (hK.sub [] rfl) (hD.sub [0] (by decide) rfl) (va_recv (ci := 1) (q0 := 0) hK hP rfl rfl)) rfl rfl hl.1 rfl (lv_room (Nat.le_of_ble_eq_true rfl)) dX13_subtract_6 ⟨Nat.le_of_ble_eq_true rfl, Nat.le_of_ble_eq_true rfl⟩) hS (fun q _ h => hF q h) hF (fun r_0 u t H1 locs1 ht hvm hw hB hz1 hk1 hS => ?_)
  refine W.widen (k := 0) (n := 0) (Nat.le_of_ble_eq_true rfl) (Nat.le_of_ble_eq_true rfl) ?_
  subst hw
  obtain ⟨fs_2, hf_3, hP1, hK1, hD1⟩ := hB
  rw [ht] at hP1
  have hK1 := va_K.moved hvm.symm hK1
  obtain ⟨hP, hD⟩ := va_join (wr := []) (w1 := [(h0, .inr (1, fs_2))]) hP hD [0] [] rfl rfl (by decide) (by decide) hk1 hF hP1 hD1
  have hP : va_P D pv_cl [(h0, .inr (1, fs_2))] _ := hP
  have hD : va_D A [(h0, .inr (1, fs_2))] := hD
  refine W.widen (k := 0) (n := 0) (Nat.le_of_ble_eq_true rfl) (Nat.le_of_ble_eq_true rfl) ?_
  exact W.iret (v := r_0) hx hb hr (fun t ht hW => ⟨⟨r_0, 1, rfl, rfl, fs_2, hf_3, (by rw [ht]; exact hP.sub [0] rfl), va_K.moved hW.alike (hK.sub [] rfl), hD.sub [0] (by decide) rfl⟩, hS.F ht⟩) hS.2.2 dX13_subtract_9

theorem dX13_multiply_0 : decode cX13_multiply 0 = .ok (.aload_n 0, 1) := by decide +kernel
theorem dX13_multiply_1 : decode cX13_multiply 1 = .ok (.iconst 0, 1) := by decide +kernel
theorem dX13_multiply_2 : decode cX13_multiply 2 = .ok (.putfield 122, 3) := by decide +kernel
theorem dX13_multiply_5 : decode cX13_multiply 5 = .ok (.aload_n 0, 1) := by decide +kernel
theorem dX13_multiply_6 : decode cX13_multiply 6 = .ok (.iload_n 1, 1) := by decide +kernel
theorem dX13_multiply_7 : decode cX13_multiply 7 = .ok (.iload_n 2, 1) := by decide +kernel
theorem dX13_multiply_8 : decode cX13_multiply 8 = .ok (.invokevirtual 218, 3) := by decide +kernel
theorem dX13_multiply_11 : decode cX13_multiply 11 = .ok (.ifCond .ne 9, 3) := by decide +kernel
theorem dX13_multiply_14 : decode cX13_multiply 14 = .ok (.aload_n 0, 1) := by decide +kernel
theorem dX13_multiply_15 : decode cX13_multiply 15 = .ok (.iconst 1, 1) := by decide +kernel
theorem dX13_multiply_16 : decode cX13_multiply 16 = .ok (.invokevirtual 185, 3) := by decide +kernel
theorem dX13_multiply_19 : decode cX13_multiply 19 = .ok (.ireturn, 1) := by decide +kernel
set_option maxHeartbeats 4000000 in
set_option maxRecDepth 100000 in
/-- multiply on a fresh object: code 1 -/
theorem c_X13_multiply (l : Launch) (hfl : l.stackTraces = false) (D : va_G) (sz : Nat) (h0 : Nat) (q : Nat → Nat) (p0 : Int32) (p1 : Int32) : Met l yX13_multiply (Cond.code yX13_multiply cX13_multiply 4 (some .int) :: pv_W) ({ frames := 3, cells := 0, slots := 0, locals := 65 } : Room) (va_Pc [.ref h0, .int p0, .int p1] (pv_P D [] [(h0, .inr (1, pv_m 0 q))] (va_A [(h0, .inr (1, pv_m 0 q))] sz) sz)) (va_Qi (fun r (u : Int32) => u = 1) (fun (u : Int32) t => ∃ fs : List Value, fs[0]? = some (.int u) ∧ va_P D pv_cl [(h0, .inr (1, fs))] t.heap ∧ va_K D pv_cl [] t ∧ va_D (va_A [(h0, .inr (1, pv_m 0 q))] sz) [(h0, .inr (1, fs))]) (va_A [(h0, .inr (1, pv_m 0 q))] sz)) 0 0 (va_A [(h0, .inr (1, pv_m 0 q))] sz) := by
  refine Met.ofW (cc := cX13_multiply) (maxL := 4) (ret := (some .int)) (by decide) rfl ?_
  intro p e s m args below meth c s₁ B hml hv
  obtain ⟨rfl, hsz, hE, hP, hK, hD0⟩ := hv
  have hx := B.exec
  have hb := B.bytes
  have hr := B.returns
  have hts := fun (w : Cond) (h : w ∈ pv_W) => atoms_spec (ws := Cond.code yX13_multiply cX13_multiply 4 (some .int) :: pv_W) B.pre w (List.mem_cons_of_mem _ h)
  have hg := fun {w : Cond} (h : w ∈ lw_tbl) (g : goodWord w = true) => hts w (pv_in h g)
  have hown : s.vm.findClass RX13 = some m.cls := findClass_of_methodNamed B.named
  have hlocks := B.notSynchronized
  subst hsz
  have hD := hD0.self (sz := s.heap.size)
  generalize hAe : va_A [(h0, .inr (1, pv_m 0 q))] s.heap.size = A at hD hE ⊢
  have hA : ∀ q : Nat, s.heap.size ≤ q → A q := fun q h => by rw [← hAe]; exact Or.inr h
  have hS : va_S A s.heap s.heap [] := va_S.rf
  have hP : va_P D pv_cl [(h0, .inr (1, pv_m 0 q))] s.heap := hP
  have hl := lv_entry ([.ref h0, .int p0, .int p1]) (n := 4) (Nat.le_of_ble_eq_true rfl)
  rw [lg_entry_eq]
  generalize (lg_sl ([.ref h0, .int p0, .int p1]) ++ List.replicate (4 - (lg_sl ([.ref h0, .int p0, .int p1])).length) Slot.unset).toArray = ls at hl ⊢
  have hl : lv_has ls 4 [(0, .ref h0), (1, .int p0), (2, .int p1)] := hl
  refine lv_aload_n hx hb dX13_multiply_0 rfl (lv_at hl 0 rfl) ?_
  refine lv_iconst (v := 0) hx hb dX13_multiply_1 (by decide) ?_
  refine va_put (own := RX13) (D := D) (ci := 1) (v := .int 0) (ty := .int) (C := RX13) (T := TX13) (N := 45) hx hb hts inF13 tyX13 tyX13_ok nmX13 hown hK hP hD hS 0 rfl rfl 0 (by decide) (hg w8_205 rfl) (fun _ h9 => h9) rfl (by decide +kernel) rfl rfl (Nat.le_of_ble_eq_true rfl) dX13_multiply_2 (fun H locs hP hD hS => ?_)
  have hP : va_P D pv_cl [(h0, .inr (1, pv_m 0 q))] _ := hP
  have hD : va_D A [(h0, .inr (1, pv_m 0 q))] := hD
  refine lv_aload_n hx hb dX13_multiply_5 rfl (lv_at hl 0 rfl) ?_
  refine lv_iload_n hx hb dX13_multiply_6 rfl (lv_at hl 1 rfl) ?_
  refine lv_iload_n hx hb dX13_multiply_7 rfl (lv_at hl 2 rfl) ?_
  have hF := pv_new hA hS.1
  refine va_calli (va_runV (As := [.int p0, .int p1]) (rest := []) ⟨hx, hb, hml, hown, hts⟩ (c_X13_are l hfl D _ h0 q p0 p1) (cwV 2 hts (pv_gV w9_164 w9_166 wp5_12 w1_10 w9_167) rfl rfl rfl (by decide +kernel) ⟨Nat.le_of_ble_eq_true rfl, Nat.le_of_ble_eq_true rfl⟩) (pv_pV hE hS hF (hP.sub [0] rfl) (hK.sub [] rfl) (hD.sub [0] (by decide) rfl) (va_recv (ci := 1) (q0 := 0) hK hP rfl rfl)) rfl rfl hl.1 rfl (lv_room (Nat.le_of_ble_eq_true rfl)) dX13_multiply_8 ⟨Nat.le_of_ble_eq_true rfl, Nat.le_of_ble_eq_true rfl⟩) hS (fun q _ h => hF q h) hF (fun r_0 u t H1 locs1 ht hvm hw hB hz1 hk1 hS => ?_)
  refine W.widen (k := 0) (n := 0) (Nat.le_of_ble_eq_true rfl) (Nat.le_of_ble_eq_true rfl) ?_
  have hP := pv_keep hP rfl hk1
  obtain rfl := hw
  refine lv_if_ne (tgt := 20) hx hb dX13_multiply_11 (by decide) (fun c_2 => absurd (by decide) c_2) (fun _ => ?_)
  refine lv_aload_n hx hb dX13_multiply_14 rfl (lv_at hl 0 rfl) ?_
  refine lv_iconst (v := 1) hx hb dX13_multiply_15 (by decide) ?_
  have hF := va_free (wc := [(h0, .inr (1, pv_m 0 q))]) hD hS hA [0] rfl
  refine va_calli (va_runV (As := [.int 1]) (rest := []) ⟨hx, hb, hml, hown, hts⟩ (c_X13_fails l hfl D _ h0 q 1) (cwV 1 hts (pv_gV w9_113 w9_115 wp5_9 w1_10 w9_116) rfl rfl rfl (by decide +kernel) ⟨Nat.le_of_ble_eq_true rfl, Nat.le_of_ble_eq_true rfl⟩) (pv_pV hE hS hF (hP.sub [0] rfl) (hK.sub [] rfl) (hD.sub [0] (by decide) rfl) (va_recv (ci := 1) (q0 := 0) hK hP rfl rfl)) rfl rfl hl.1 rfl (lv_room (Nat.le_of_ble_eq_true rfl)) dX13_multiply_16 ⟨Nat.le_of_ble_eq_true rfl, Nat.le_of_ble_eq_true rfl⟩) hS (fun q _ h => hF q h) hF (fun r_2 u t H1 locs1 ht hvm hw hB hz1 hk1 hS => ?_)
  refine W.widen (k := 0) (n := 0) (Nat.le_of_ble_eq_true rfl) (Nat.le_of_ble_eq_true rfl) ?_
  obtain rfl := hw
  obtain ⟨hP1, hK1, hD1⟩ := hB
  rw [ht] at hP1
  have hK1 := va_K.moved hvm.symm hK1
  obtain ⟨hP, hD⟩ := va_join (wr := []) (w1 := [(h0, .inr (1, pv_m 1 q))]) hP hD [0] [] rfl rfl (by decide) (by decide) hk1 hF hP1 hD1
  have hP : va_P D pv_cl [(h0, .inr (1, pv_m 1 q))] _ := hP
  have hD : va_D A [(h0, .inr (1, pv_m 1 q))] := hD
  refine W.widen (k := 0) (n := 0) (Nat.le_of_ble_eq_true rfl) (Nat.le_of_ble_eq_true rfl) ?_
  exact W.iret (v := 0) hx hb hr (fun t ht hW => ⟨⟨0, 1, rfl, rfl, pv_m 1 q, rfl, (by rw [ht]; exact hP.sub [0] rfl), va_K.moved hW.alike (hK.sub [] rfl), hD.sub [0] (by decide) rfl⟩, hS.F ht⟩) hS.2.2 dX13_multiply_19

theorem dX13_power_0 : decode cX13_power 0 = .ok (.aload_n 0, 1) := by decide +kernel
theorem dX13_power_1 : decode cX13_power 1 = .ok (.iconst 0, 1) := by decide +kernel
theorem dX13_power_2 : decode cX13_power 2 = .ok (.putfield 122, 3) := by decide +kernel
theorem dX13_power_5 : decode cX13_power 5 = .ok (.aload_n 0, 1) := by decide +kernel
theorem dX13_power_6 : decode cX13_power 6 = .ok (.iload_n 1, 1) := by decide +kernel
theorem dX13_power_7 : decode cX13_power 7 = .ok (.invokevirtual 132, 3) := by decide +kernel
theorem dX13_power_10 : decode cX13_power 10 = .ok (.ifCond .ne 9, 3) := by decide +kernel
theorem dX13_power_13 : decode cX13_power 13 = .ok (.aload_n 0, 1) := by decide +kernel
theorem dX13_power_14 : decode cX13_power 14 = .ok (.iconst 1, 1) := by decide +kernel
theorem dX13_power_15 : decode cX13_power 15 = .ok (.invokevirtual 185, 3) := by decide +kernel
theorem dX13_power_18 : decode cX13_power 18 = .ok (.ireturn, 1) := by decide +kernel
set_option maxHeartbeats 4000000 in
set_option maxRecDepth 100000 in
/-- power on a fresh object: code 1 -/
theorem c_X13_power (l : Launch) (hfl : l.stackTraces = false) (D : va_G) (sz : Nat) (h0 : Nat) (q : Nat → Nat) (p0 : Int32) (p1 : Int32) : Met l yX13_power (Cond.code yX13_power cX13_power 4 (some .int) :: pv_W) ({ frames := 2, cells := 0, slots := 0, locals := 43 } : Room) (va_Pc [.ref h0, .int p0, .int p1] (pv_P D [] [(h0, .inr (1, pv_m 0 q))] (va_A [(h0, .inr (1, pv_m 0 q))] sz) sz)) (va_Qi (fun r (u : Int32) => u = 1) (fun (u : Int32) t => ∃ fs : List Value, fs[0]? = some (.int u) ∧ va_P D pv_cl [(h0, .inr (1, fs))] t.heap ∧ va_K D pv_cl [] t ∧ va_D (va_A [(h0, .inr (1, pv_m 0 q))] sz) [(h0, .inr (1, fs))]) (va_A [(h0, .inr (1, pv_m 0 q))] sz)) 0 0 (va_A [(h0, .inr (1, pv_m 0 q))] sz) := by
  refine Met.ofW (cc := cX13_power) (maxL := 4) (ret := (some .int)) (by decide) rfl ?_
  intro p e s m args below meth c s₁ B hml hv
  obtain ⟨rfl, hsz, hE, hP, hK, hD0⟩ := hv
  have hx := B.exec
  have hb := B.bytes
  have hr := B.returns
  have hts := fun (w : Cond) (h : w ∈ pv_W) => atoms_spec (ws := Cond.code yX13_power cX13_power 4 (some .int) :: pv_W) B.pre w (List.mem_cons_of_mem _ h)
  have hg := fun {w : Cond} (h : w ∈ lw_tbl) (g : goodWord w = true) => hts w (pv_in h g)
  have hown : s.vm.findClass RX13 = some m.cls := findClass_of_methodNamed B.named
  have hlocks := B.notSynchronized
  subst hsz
  have hD := hD0.self (sz := s.heap.size)
  generalize hAe : va_A [(h0, .inr (1, pv_m 0 q))] s.heap.size = A at hD hE ⊢
  have hA : ∀ q : Nat, s.heap.size ≤ q → A q := fun q h => by rw [← hAe]; exact Or.inr h
  have hS : va_S A s.heap s.heap [] := va_S.rf
  have hP : va_P D pv_cl [(h0, .inr (1, pv_m 0 q))] s.heap := hP
  have hl := lv_entry ([.ref h0, .int p0, .int p1]) (n := 4) (Nat.le_of_ble_eq_true rfl)
  rw [lg_entry_eq]
  generalize (lg_sl ([.ref h0, .int p0, .int p1]) ++ List.replicate (4 - (lg_sl ([.ref h0, .int p0, .int p1])).length) Slot.unset).toArray = ls at hl ⊢
  have hl : lv_has ls 4 [(0, .ref h0), (1, .int p0), (2, .int p1)] := hl
  refine lv_aload_n hx hb dX13_power_0 rfl (lv_at hl 0 rfl) ?_
  refine lv_iconst (v := 0) hx hb dX13_power_1 (by decide) ?_
  refine va_put (own := RX13) (D := D) (ci := 1) (v := .int 0) (ty := .int) (C := RX13) (T := TX13) (N := 45) hx hb hts inF13 tyX13 tyX13_ok nmX13 hown hK hP hD hS 0 rfl rfl 0 (by decide) (hg w8_205 rfl) (fun _ h9 => h9) rfl (by decide +kernel) rfl rfl (Nat.le_of_ble_eq_true rfl) dX13_power_2 (fun H locs hP hD hS => ?_)
  have hP : va_P D pv_cl [(h0, .inr (1, pv_m 0 q))] _ := hP
  have hD : va_D A [(h0, .inr (1, pv_m 0 q))] := hD
  refine lv_aload_n hx hb dX13_power_5 rfl (lv_at hl 0 rfl) ?_
  refine lv_iload_n hx hb dX13_power_6 rfl (lv_at hl 1 rfl) ?_
  have hF := pv_new hA hS.1
  refine va_calli (va_runV (As := [.int p0]) (rest := []) ⟨hx, hb, hml, hown, hts⟩ (c_X13_is l hfl D _ h0 q p0) (cwV 1 hts (pv_gV w9_168 w9_170 wp5_13 w1_10 w9_171) rfl rfl rfl (by decide +kernel) ⟨Nat.le_of_ble_eq_true rfl, Nat.le_of_ble_eq_true rfl⟩) (pv_pV hE hS hF (hP.sub [0] rfl) (hK.sub [] rfl) (hD.sub [0] (by decide) rfl) (va_recv (ci := 1) (q0 := 0) hK hP rfl rfl)) rfl rfl hl.1 rfl (lv_room (Nat.le_of_ble_eq_true rfl)) dX13_power_7 ⟨Nat.le_of_ble_eq_true rfl, Nat.le_of_ble_eq_true rfl⟩) hS (fun q _ h => hF q h) hF (fun r_0 u t H1 locs1 ht hvm hw hB hz1 hk1 hS => ?_)
  refine W.widen (k := 0) (n := 0) (Nat.le_of_ble_eq_true rfl) (Nat.le_of_ble_eq_true rfl) ?_
  have hP := pv_keep hP rfl hk1
  obtain rfl := hw
  refine lv_if_ne (tgt := 19) hx hb dX13_power_10 (by decide) (fun c_2 => absurd (by decide) c_2) (fun _ => ?_)
  refine lv_aload_n hx hb dX13_power_13 rfl (lv_at hl 0 rfl) ?_
  refine lv_iconst (v := 1) hx hb dX13_power_14 (by decide) ?_
  have hF := va_free (wc := [(h0, .inr (1, pv_m 0 q))]) hD hS hA [0] rfl
  refine va_calli (va_runV (As := [.int 1]) (rest := []) ⟨hx, hb, hml, hown, hts⟩ (c_X13_fails l hfl D _ h0 q 1) (cwV 1 hts (pv_gV w9_113 w9_115 wp5_9 w1_10 w9_116) rfl rfl rfl (by decide +kernel) ⟨Nat.le_of_ble_eq_true rfl, Nat.le_of_ble_eq_true rfl⟩) (pv_pV hE hS hF (hP.sub [0] rfl) (hK.sub [] rfl) (hD.sub [0] (by decide) rfl) (va_recv (ci := 1) (q0 := 0) hK hP rfl rfl)) rfl rfl hl.1 rfl (lv_room (Nat.le_of_ble_eq_true rfl)) dX13_power_15 ⟨Nat.le_of_ble_eq_true rfl, Nat.le_of_ble_eq_true rfl⟩) hS (fun q _ h => hF q h) hF (fun r_2 u t H1 locs1 ht hvm hw hB hz1 hk1 hS => ?_)
  refine W.widen (k := 0) (n := 0) (Nat.le_of_ble_eq_true rfl) (Nat.le_of_ble_eq_true rfl) ?_
  obtain rfl := hw
  obtain ⟨hP1, hK1, hD1⟩ := hB
  rw [ht] at hP1
  have hK1 := va_K.moved hvm.symm hK1
  obtain ⟨hP, hD⟩ := va_join (wr := []) (w1 := [(h0, .inr (1, pv_m 1 q))]) hP hD [0] [] rfl rfl (by decide) (by decide) hk1 hF hP1 hD1
  have hP : va_P D pv_cl [(h0, .inr (1, pv_m 1 q))] _ := hP
  have hD : va_D A [(h0, .inr (1, pv_m 1 q))] := hD
  refine W.widen (k := 0) (n := 0) (Nat.le_of_ble_eq_true rfl) (Nat.le_of_ble_eq_true rfl) ?_
  exact W.iret (v := 0) hx hb hr (fun t ht hW => ⟨⟨0, 1, rfl, rfl, pv_m 1 q, rfl, (by rw [ht]; exact hP.sub [0] rfl), va_K.moved hW.alike (hK.sub [] rfl), hD.sub [0] (by decide) rfl⟩, hS.F ht⟩) hS.2.2 dX13_power_18

theorem dX13_ground_0 : decode cX13_ground 0 = .ok (.aload_n 0, 1) := by decide +kernel
theorem dX13_ground_1 : decode cX13_ground 1 = .ok (.iconst 0, 1) := by decide +kernel
theorem dX13_ground_2 : decode cX13_ground 2 = .ok (.putfield 122, 3) := by decide +kernel
theorem dX13_ground_5 : decode cX13_ground 5 = .ok (.aload_n 0, 1) := by decide +kernel
theorem dX13_ground_6 : decode cX13_ground 6 = .ok (.iload_n 1, 1) := by decide +kernel
theorem dX13_ground_7 : decode cX13_ground 7 = .ok (.invokevirtual 132, 3) := by decide +kernel
theorem dX13_ground_10 : decode cX13_ground 10 = .ok (.ifCond .eq 12, 3) := by decide +kernel
theorem dX13_ground_22 : decode cX13_ground 22 = .ok (.aload_n 0, 1) := by decide +kernel
theorem dX13_ground_23 : decode cX13_ground 23 = .ok (.iconst 1, 1) := by decide +kernel
theorem dX13_ground_24 : decode cX13_ground 24 = .ok (.invokevirtual 185, 3) := by decide +kernel
theorem dX13_ground_27 : decode cX13_ground 27 = .ok (.ireturn, 1) := by decide +kernel
set_option maxHeartbeats 4000000 in
set_option maxRecDepth 100000 in
/-- ground on a fresh object: code 1 -/
theorem c_X13_ground (l : Launch) (hfl : l.stackTraces = false) (D : va_G) (sz : Nat) (h0 : Nat) (q : Nat → Nat) (p0 : Int32) : Met l yX13_ground (Cond.code yX13_ground cX13_ground 2 (some .int) :: pv_W) ({ frames := 2, cells := 0, slots := 0, locals := 43 } : Room) (va_Pc [.ref h0, .int p0] (pv_P D [] [(h0, .inr (1, pv_m 0 q))] (va_A [(h0, .inr (1, pv_m 0 q))] sz) sz)) (va_Qi (fun r (u : Int32) => u = 1) (fun (u : Int32) t => ∃ fs : List Value, fs[0]? = some (.int u) ∧ va_P D pv_cl [(h0, .inr (1, fs))] t.heap ∧ va_K D pv_cl [] t ∧ va_D (va_A [(h0, .inr (1, pv_m 0 q))] sz) [(h0, .inr (1, fs))]) (va_A [(h0, .inr (1, pv_m 0 q))] sz)) 0 0 (va_A [(h0, .inr (1, pv_m 0 q))] sz) := by
  refine Met.ofW (cc := cX13_ground) (maxL := 2) (ret := (some .int)) (by decide) rfl ?_
  intro p e s m args below meth c s₁ B hml hv
  obtain ⟨rfl, hsz, hE, hP, hK, hD0⟩ := hv
  have hx := B.exec
  have hb := B.bytes
  have hr := B.returns
  have hts := fun (w : Cond) (h : w ∈ pv_W) => atoms_spec (ws := Cond.code yX13_ground cX13_ground 2 (some .int) :: pv_W) B.pre w (List.mem_cons_of_mem _ h)
  have hg := fun {w : Cond} (h : w ∈ lw_tbl) (g : goodWord w = true) => hts w (pv_in h g)
  have hown : s.vm.findClass RX13 = some m.cls := findClass_of_methodNamed B.named
  have hlocks := B.notSynchronized
  subst hsz
  have hD := hD0.self (sz := s.heap.size)
  generalize hAe : va_A [(h0, .inr (1, pv_m 0 q))] s.heap.size = A at hD hE ⊢
  have hA : ∀ q : Nat, s.heap.size ≤ q → A q := fun q h => by rw [← hAe]; exact Or.inr h
  have hS : va_S A s.heap s.heap [] := va_S.rf
  have hP : va_P D pv_cl [(h0, .inr (1, pv_m 0 q))] s.heap := hP
  have hl := lv_entry ([.ref h0, .int p0]) (n := 2) (Nat.le_of_ble_eq_true rfl)
  rw [lg_entry_eq]
  generalize (lg_sl ([.ref h0, .int p0]) ++ List.replicate (2 - (lg_sl ([.ref h0, .int p0])).length) Slot.unset).toArray = ls at hl ⊢
  have hl : lv_has ls 2 [(0, .ref h0), (1, .int p0)] := hl
  refine lv_aload_n hx hb dX13_ground_0 rfl (lv_at hl 0 rfl) ?_
  refine lv_iconst (v := 0) hx hb dX13_ground_1 (by decide) ?_
  refine va_put (own := RX13) (D := D) (ci := 1) (v := .int 0) (ty := .int) (C := RX13) (T := TX13) (N := 45) hx hb hts inF13 tyX13 tyX13_ok nmX13 hown hK hP hD hS 0 rfl rfl 0 (by decide) (hg w8_205 rfl) (fun _ h9 => h9) rfl (by decide +kernel) rfl rfl (Nat.le_of_ble_eq_true rfl) dX13_ground_2 (fun H locs hP hD hS => ?_)
  have hP : va_P D pv_cl [(h0, .inr (1, pv_m 0 q))] _ := hP
  have hD : va_D A [(h0, .inr (1, pv_m 0 q))] := hD
  refine lv_aload_n hx hb dX13_ground_5 rfl (lv_at hl 0 rfl) ?_
  refine lv_iload_n hx hb dX13_ground_6 rfl (lv_at hl 1 rfl) ?_
  have hF := pv_new hA hS.1
  refine va_calli (va_runV (As := [.int p0]) (rest := []) ⟨hx, hb, hml, hown, hts⟩ (c_X13_is l hfl D _ h0 q p0) (cwV 1 hts (pv_gV w9_168 w9_170 wp5_13 w1_10 w9_171) rfl rfl rfl (by decide +kernel) ⟨Nat.le_of_ble_eq_true rfl, Nat.le_of_ble_eq_true rfl⟩) (pv_pV hE hS hF (hP.sub [0] rfl) (hK.sub [] rfl) (hD.sub [0] (by decide) rfl) (va_recv (ci := 1) (q0 := 0) hK hP rfl rfl)) rfl rfl hl.1 rfl (lv_room (Nat.le_of_ble_eq_true rfl)) dX13_ground_7 ⟨Nat.le_of_ble_eq_true rfl, Nat.le_of_ble_eq_true rfl⟩) hS (fun q _ h => hF q h) hF (fun r_0 u t H1 locs1 ht hvm hw hB hz1 hk1 hS => ?_)
  refine W.widen (k := 0) (n := 0) (Nat.le_of_ble_eq_true rfl) (Nat.le_of_ble_eq_true rfl) ?_
  have hP := pv_keep hP rfl hk1
  obtain rfl := hw
  refine lv_if_eq (tgt := 22) hx hb dX13_ground_10 (by decide) (fun _ => ?_) (fun c_2 => absurd (by decide) c_2)
  refine lv_aload_n hx hb dX13_ground_22 rfl (lv_at hl 0 rfl) ?_
  refine lv_iconst (v := 1) hx hb dX13_ground_23 (by decide) ?_
  have hF := va_free (wc := [(h0, .inr (1, pv_m 0 q))]) hD hS hA [0] rfl
  refine va_calli (va_runV (As := [.int 1]) (rest := []) ⟨hx, hb, hml, hown, hts⟩ (c_X13_fails l hfl D _ h0 q 1) (cwV 1 hts (pv_gV w9_113 w9_115 wp5_9 w1_10 w9_116) rfl rfl rfl (by decide +kernel) ⟨Nat.le_of_ble_eq_true rfl, Nat.le_of_ble_eq_true rfl⟩) (pv_pV hE hS hF (hP.sub [0] rfl) (hK.sub [] rfl) (hD.sub [0] (by decide) rfl) (va_recv (ci := 1) (q0 := 0) hK hP rfl rfl)) rfl rfl hl.1 rfl (lv_room (Nat.le_of_ble_eq_true rfl)) dX13_ground_24 ⟨Nat.le_of_ble_eq_true rfl, Nat.le_of_ble_eq_true rfl⟩) hS (fun q _ h => hF q h) hF (fun r_2 u t H1 locs1 ht hvm hw hB hz1 hk1 hS => ?_)
  refine W.widen (k := 0) (n := 0) (Nat.le_of_ble_eq_true rfl) (Nat.le_of_ble_eq_true rfl) ?_
  obtain rfl := hw
  obtain ⟨hP1, hK1, hD1⟩ := hB
  rw [ht] at hP1
  have hK1 := va_K.moved hvm.symm hK1
  obtain ⟨hP, hD⟩ := va_join (wr := []) (w1 := [(h0, .inr (1, pv_m 1 q))]) hP hD [0] [] rfl rfl (by decide) (by decide) hk1 hF hP1 hD1
  have hP : va_P D pv_cl [(h0, .inr (1, pv_m 1 q))] _ := hP
  have hD : va_D A [(h0, .inr (1, pv_m 1 q))] := hD
  refine W.widen (k := 0) (n := 0) (Nat.le_of_ble_eq_true rfl) (Nat.le_of_ble_eq_true rfl) ?_
  exact W.iret (v := 0) hx hb hr (fun t ht hW => ⟨⟨0, 1, rfl, rfl, pv_m 1 q, rfl, (by rw [ht]; exact hP.sub [0] rfl), va_K.moved hW.alike (hK.sub [] rfl), hD.sub [0] (by decide) rfl⟩, hS.F ht⟩) hS.2.2 dX13_ground_27

theorem dX13_terms_0 : decode cX13_terms 0 = .ok (.aload_n 0, 1) := by decide +kernel
theorem dX13_terms_1 : decode cX13_terms 1 = .ok (.iconst 0, 1) := by decide +kernel
theorem dX13_terms_2 : decode cX13_terms 2 = .ok (.putfield 122, 3) := by decide +kernel
theorem dX13_terms_5 : decode cX13_terms 5 = .ok (.aload_n 0, 1) := by decide +kernel
theorem dX13_terms_6 : decode cX13_terms 6 = .ok (.iload_n 1, 1) := by decide +kernel
theorem dX13_terms_7 : decode cX13_terms 7 = .ok (.invokevirtual 132, 3) := by decide +kernel
theorem dX13_terms_10 : decode cX13_terms 10 = .ok (.ifCond .eq 15, 3) := by decide +kernel
theorem dX13_terms_25 : decode cX13_terms 25 = .ok (.aload_n 0, 1) := by decide +kernel
theorem dX13_terms_26 : decode cX13_terms 26 = .ok (.iconst 1, 1) := by decide +kernel
theorem dX13_terms_27 : decode cX13_terms 27 = .ok (.invokevirtual 185, 3) := by decide +kernel
theorem dX13_terms_30 : decode cX13_terms 30 = .ok (.ireturn, 1) := by decide +kernel
set_option maxHeartbeats 4000000 in
set_option maxRecDepth 100000 in
/-- terms on a fresh object: code 1 -/
theorem c_X13_terms (l : Launch) (hfl : l.stackTraces = false) (D : va_G) (sz : Nat) (h0 : Nat) (q : Nat → Nat) (p0 : Int32) : Met l yX13_terms (Cond.code yX13_terms cX13_terms 2 (some .int) :: pv_W) ({ frames := 2, cells := 0, slots := 0, locals := 43 } : Room) (va_Pc [.ref h0, .int p0] (pv_P D [] [(h0, .inr (1, pv_m 0 q))] (va_A [(h0, .inr (1, pv_m 0 q))] sz) sz)) (va_Qi (fun r (u : Int32) => u = 1) (fun (u : Int32) t => ∃ fs : List Value, fs[0]? = some (.int u) ∧ va_P D pv_cl [(h0, .inr (1, fs))] t.heap ∧ va_K D pv_cl [] t ∧ va_D (va_A [(h0, .inr (1, pv_m 0 q))] sz) [(h0, .inr (1, fs))]) (va_A [(h0, .inr (1, pv_m 0 q))] sz)) 0 0 (va_A [(h0, .inr (1, pv_m 0 q))] sz) := by
  refine Met.ofW (cc := cX13_terms) (maxL := 2) (ret := (some .int)) (by decide) rfl ?_
  intro p e s m args below meth c s₁ B hml hv
  obtain ⟨rfl, hsz, hE, hP, hK, hD0⟩ := hv
  have hx := B.exec
  have hb := B.bytes
  have hr := B.returns
  have hts := fun (w : Cond) (h : w ∈ pv_W) => atoms_spec (ws := Cond.code yX13_terms cX13_terms 2 (some .int) :: pv_W) B.pre w (List.mem_cons_of_mem _ h)
  have hg := fun {w : Cond} (h : w ∈ lw_tbl) (g : goodWord w = true) => hts w (pv_in h g)
  have hown : s.vm.findClass RX13 = some m.cls := findClass_of_methodNamed B.named
  have hlocks := B.notSynchronized
  subst hsz
  have hD := hD0.self (sz := s.heap.size)
  generalize hAe : va_A [(h0, .inr (1, pv_m 0 q))] s.heap.size = A at hD hE ⊢
  have hA : ∀ q : Nat, s.heap.size ≤ q → A q := fun q h => by rw [← hAe]; exact Or.inr h
  have hS : va_S A s.heap s.heap [] := va_S.rf
  have hP : va_P D pv_cl [(h0, .inr (1, pv_m 0 q))] s.heap := hP
  have hl := lv_entry ([.ref h0, .int p0]) (n := 2) (Nat.le_of_ble_eq_true rfl)
  rw [lg_entry_eq]
  generalize (lg_sl ([.ref h0, .int p0]) ++ List.replicate (2 - (lg_sl ([.ref h0, .int p0])).length) Slot.unset).toArray = ls at hl ⊢
  have hl : lv_has ls 2 [(0, .ref h0), (1, .int p0)] := hl
  refine lv_aload_n hx hb dX13_terms_0 rfl (lv_at hl 0 rfl) ?_
  refine lv_iconst (v := 0) hx hb dX13_terms_1 (by decide) ?_
  refine va_put (own := RX13) (D := D) (ci := 1) (v := .int 0) (ty := .int) (C := RX13) (T := TX13) (N := 45) hx hb hts inF13 tyX13 tyX13_ok nmX13 hown hK hP hD hS 0 rfl rfl 0 (by decide) (hg w8_205 rfl) (fun _ h9 => h9) rfl (by decide +kernel) rfl rfl (Nat.le_of_ble_eq_true rfl) dX13_terms_2 (fun H locs hP hD hS => ?_)
  have hP : va_P D pv_cl [(h0, .inr (1, pv_m 0 q))] _ := hP
  have hD : va_D A [(h0, .inr (1, pv_m 0 q))] := hD
  refine lv_aload_n hx hb dX13_terms_5 rfl (lv_at hl 0 rfl) ?_
  refine lv_iload_n hx hb dX13_terms_6 rfl (lv_at hl 1 rfl) ?_
  have hF := pv_new hA hS.1
  refine va_calli (va_runV (As := [.int p0]) (rest := []) ⟨hx, hb, hml, hown, hts⟩ (c_X13_is l hfl D _ h0 q p0) (cwV 1 hts (pv_gV w9_168 w9_170 wp5_13 w1_10 w9_171) rfl rfl rfl (by decide +kernel) ⟨Nat.le_of_ble_eq_true rfl, Nat.le_of_ble_eq_true rfl⟩) (pv_pV hE hS hF (hP.sub [0] rfl) (hK.sub [] rfl) (hD.sub [0] (by decide) rfl) (va_recv (ci := 1) (q0 := 0) hK hP rfl rfl)) rfl rfl hl.1 rfl (lv_room (Nat.le_of_ble_eq_true rfl)) dX13_terms_7 ⟨Nat.le_of_ble_eq_true rfl, Nat.le_of_ble_eq_true rfl⟩) hS (fun q _ h => hF q h) hF (fun r_0 u t H1 locs1 ht hvm hw hB hz1 hk1 hS => ?_)
  refine W.widen (k := 0) (n := 0) (Nat.le_of_ble_eq_true rfl) (Nat.le_of_ble_eq_true rfl) ?_
  have hP := pv_keep hP rfl hk1
  obtain rfl := hw
  refine lv_if_eq (tgt := 25) hx hb dX13_terms_10 (by decide) (fun _ => ?_) (fun c_2 => absurd (by decide) c_2)
  refine lv_aload_n hx hb dX13_terms_25 rfl (lv_at hl 0 rfl) ?_
  refine lv_iconst (v := 1) hx hb dX13_terms_26 (by decide) ?_
  have hF := va_free (wc := [(h0, .inr (1, pv_m 0 q))]) hD hS hA [0] rfl
  refine va_calli (va_runV (As := [.int 1]) (rest := []) ⟨hx, hb, hml, hown, hts⟩ (c_X13_fails l hfl D _ h0 q 1) (cwV 1 hts (pv_gV w9_113 w9_115 wp5_9 w1_10 w9_116) rfl rfl rfl (by decide +kernel) ⟨Nat.le_of_ble_eq_true rfl, Nat.le_of_ble_eq_true rfl⟩) (pv_pV hE hS hF (hP.sub [0] rfl) (hK.sub [] rfl) (hD.sub [0] (by decide) rfl) (va_recv (ci := 1) (q0 := 0) hK hP rfl rfl)) rfl rfl hl.1 rfl (lv_room (Nat.le_of_ble_eq_true rfl)) dX13_terms_27 ⟨Nat.le_of_ble_eq_true rfl, Nat.le_of_ble_eq_true rfl⟩) hS (fun q _ h => hF q h) hF (fun r_2 u t H1 locs1 ht hvm hw hB hz1 hk1 hS => ?_)
  refine W.widen (k := 0) (n := 0) (Nat.le_of_ble_eq_true rfl) (Nat.le_of_ble_eq_true rfl) ?_
  obtain rfl := hw
  obtain ⟨hP1, hK1, hD1⟩ := hB
  rw [ht] at hP1
  have hK1 := va_K.moved hvm.symm hK1
  obtain ⟨hP, hD⟩ := va_join (wr := []) (w1 := [(h0, .inr (1, pv_m 1 q))]) hP hD [0] [] rfl rfl (by decide) (by decide) hk1 hF hP1 hD1
  have hP : va_P D pv_cl [(h0, .inr (1, pv_m 1 q))] _ := hP
  have hD : va_D A [(h0, .inr (1, pv_m 1 q))] := hD
  refine W.widen (k := 0) (n := 0) (Nat.le_of_ble_eq_true rfl) (Nat.le_of_ble_eq_true rfl) ?_
  exact W.iret (v := 0) hx hb hr (fun t ht hW => ⟨⟨0, 1, rfl, rfl, pv_m 1 q, rfl, (by rw [ht]; exact hP.sub [0] rfl), va_K.moved hW.alike (hK.sub [] rfl), hD.sub [0] (by decide) rfl⟩, hS.F ht⟩) hS.2.2 dX13_terms_30

theorem dX13_degree_0 : decode cX13_degree 0 = .ok (.aload_n 0, 1) := by decide +kernel
theorem dX13_degree_1 : decode cX13_degree 1 = .ok (.iconst 0, 1) := by decide +kernel
theorem dX13_degree_2 : decode cX13_degree 2 = .ok (.putfield 122, 3) := by decide +kernel
theorem dX13_degree_5 : decode cX13_degree 5 = .ok (.aload_n 0, 1) := by decide +kernel
theorem dX13_degree_6 : decode cX13_degree 6 = .ok (.iload_n 1, 1) := by decide +kernel
theorem dX13_degree_7 : decode cX13_degree 7 = .ok (.invokevirtual 132, 3) := by decide +kernel
theorem dX13_degree_10 : decode cX13_degree 10 = .ok (.ifCond .ne 9, 3) := by decide +kernel
theorem dX13_degree_13 : decode cX13_degree 13 = .ok (.aload_n 0, 1) := by decide +kernel
theorem dX13_degree_14 : decode cX13_degree 14 = .ok (.iconst 1, 1) := by decide +kernel
theorem dX13_degree_15 : decode cX13_degree 15 = .ok (.invokevirtual 185, 3) := by decide +kernel
theorem dX13_degree_18 : decode cX13_degree 18 = .ok (.ireturn, 1) := by decide +kernel
set_option maxHeartbeats 4000000 in
set_option maxRecDepth 100000 in
/-- degree on a fresh object: code 1 -/
theorem c_X13_degree (l : Launch) (hfl : l.stackTraces = false) (D : va_G) (sz : Nat) (h0 : Nat) (q : Nat → Nat) (p0 : Int32) : Met l yX13_degree (Cond.code yX13_degree cX13_degree 4 (some .int) :: pv_W) ({ frames := 2, cells := 0, slots := 0, locals := 43 } : Room) (va_Pc [.ref h0, .int p0] (pv_P D [] [(h0, .inr (1, pv_m 0 q))] (va_A [(h0, .inr (1, pv_m 0 q))] sz) sz)) (va_Qi (fun r (u : Int32) => u = 1) (fun (u : Int32) t => ∃ fs : List Value, fs[0]? = some (.int u) ∧ va_P D pv_cl [(h0, .inr (1, fs))] t.heap ∧ va_K D pv_cl [] t ∧ va_D (va_A [(h0, .inr (1, pv_m 0 q))] sz) [(h0, .inr (1, fs))]) (va_A [(h0, .inr (1, pv_m 0 q))] sz)) 0 0 (va_A [(h0, .inr (1, pv_m 0 q))] sz) := by
  refine Met.ofW (cc := cX13_degree) (maxL := 4) (ret := (some .int)) (by decide) rfl ?_
  intro p e s m args below meth c s₁ B hml hv
  obtain ⟨rfl, hsz, hE, hP, hK, hD0⟩ := hv
  have hx := B.exec
  have hb := B.bytes
  have hr := B.returns
  have hts := fun (w : Cond) (h : w ∈ pv_W) => atoms_spec (ws := Cond.code yX13_degree cX13_degree 4 (some .int) :: pv_W) B.pre w (List.mem_cons_of_mem _ h)
  have hg := fun {w : Cond} (h : w ∈ lw_tbl) (g : goodWord w = true) => hts w (pv_in h g)
  have hown : s.vm.findClass RX13 = some m.cls := findClass_of_methodNamed B.named
  have hlocks := B.notSynchronized
  subst hsz
  have hD := hD0.self (sz := s.heap.size)
  generalize hAe : va_A [(h0, .inr (1, pv_m 0 q))] s.heap.size = A at hD hE ⊢
  have hA : ∀ q : Nat, s.heap.size ≤ q → A q := fun q h => by rw [← hAe]; exact Or.inr h
  have hS : va_S A s.heap s.heap [] := va_S.rf
  have hP : va_P D pv_cl [(h0, .inr (1, pv_m 0 q))] s.heap := hP
  have hl := lv_entry ([.ref h0, .int p0]) (n := 4) (Nat.le_of_ble_eq_true rfl)
  rw [lg_entry_eq]
  generalize (lg_sl ([.ref h0, .int p0]) ++ List.replicate (4 - (lg_sl ([.ref h0, .int p0])).length) Slot.unset).toArray = ls at hl ⊢
  have hl : lv_has ls 4 [(0, .ref h0), (1, .int p0)] := hl
  refine lv_aload_n hx hb dX13_degree_0 rfl (lv_at hl 0 rfl) ?_
  refine lv_iconst (v := 0) hx hb dX13_degree_1 (by decide) ?_
  refine va_put (own := RX13) (D := D) (ci := 1) (v := .int 0) (ty := .int) (C := RX13) (T := TX13) (N := 45) hx hb hts inF13 tyX13 tyX13_ok nmX13 hown hK hP hD hS 0 rfl rfl 0 (by decide) (hg w8_205 rfl) (fun _ h9 => h9) rfl (by decide +kernel) rfl rfl (Nat.le_of_ble_eq_true rfl) dX13_degree_2 (fun H locs hP hD hS => ?_)
  have hP : va_P D pv_cl [(h0, .inr (1, pv_m 0 q))] _ := hP
  have hD : va_D A [(h0, .inr (1, pv_m 0 q))] := hD
  refine lv_aload_n hx hb dX13_degree_5 rfl (lv_at hl 0 rfl) ?_
  refine lv_iload_n hx hb dX13_degree_6 rfl (lv_at hl 1 rfl) ?_
  have hF := pv_new hA hS.1
  refine va_calli (va_runV (As := [.int p0]) (rest := []) ⟨hx, hb, hml, hown, hts⟩ (c_X13_is l hfl D _ h0 q p0) (cwV 1 hts (pv_gV w9_168 w9_170 wp5_13 w1_10 w9_171) rfl rfl rfl (by decide +kernel) ⟨Nat.le_of_ble_eq_true rfl, Nat.le_of_ble_eq_true rfl⟩) (pv_pV hE hS hF (hP.sub [0] rfl) (hK.sub [] rfl) (hD.sub [0] (by decide) rfl) (va_recv (ci := 1) (q0 := 0) hK hP rfl rfl)) rfl rfl hl.1 rfl (lv_room (Nat.le_of_ble_eq_true rfl)) dX13_degree_7 ⟨Nat.le_of_ble_eq_true rfl, Nat.le_of_ble_eq_true rfl⟩) hS (fun q _ h => hF q h) hF (fun r_0 u t H1 locs1 ht hvm hw hB hz1 hk1 hS => ?_)
  refine W.widen (k := 0) (n := 0) (Nat.le_of_ble_eq_true rfl) (Nat.le_of_ble_eq_true rfl) ?_
  have hP := pv_keep hP rfl hk1
  obtain rfl := hw
  refine lv_if_ne (tgt := 19) hx hb dX13_degree_10 (by decide) (fun c_2 => absurd (by decide) c_2) (fun _ => ?_)
  refine lv_aload_n hx hb dX13_degree_13 rfl (lv_at hl 0 rfl) ?_
  refine lv_iconst (v := 1) hx hb dX13_degree_14 (by decide) ?_
  have hF := va_free (wc := [(h0, .inr (1, pv_m 0 q))]) hD hS hA [0] rfl
  refine va_calli (va_runV (As := [.int 1]) (rest := []) ⟨hx, hb, hml, hown, hts⟩ (c_X13_fails l hfl D _ h0 q 1) (cwV 1 hts (pv_gV w9_113 w9_115 wp5_9 w1_10 w9_116) rfl rfl rfl (by decide +kernel) ⟨Nat.le_of_ble_eq_true rfl, Nat.le_of_ble_eq_true rfl⟩) (pv_pV hE hS hF (hP.sub [0] rfl) (hK.sub [] rfl) (hD.sub [0] (by decide) rfl) (va_recv (ci := 1) (q0 := 0) hK hP rfl rfl)) rfl rfl hl.1 rfl (lv_room (Nat.le_of_ble_eq_true rfl)) dX13_degree_15 ⟨Nat.le_of_ble_eq_true rfl, Nat.le_of_ble_eq_true rfl⟩) hS (fun q _ h => hF q h) hF (fun r_2 u t H1 locs1 ht hvm hw hB hz1 hk1 hS => ?_)
  refine W.widen (k := 0) (n := 0) (Nat.le_of_ble_eq_true rfl) (Nat.le_of_ble_eq_true rfl) ?_
  obtain rfl := hw
  obtain ⟨hP1, hK1, hD1⟩ := hB
  rw [ht] at hP1
  have hK1 := va_K.moved hvm.symm hK1
  obtain ⟨hP, hD⟩ := va_join (wr := []) (w1 := [(h0, .inr (1, pv_m 1 q))]) hP hD [0] [] rfl rfl (by decide) (by decide) hk1 hF hP1 hD1
  have hP : va_P D pv_cl [(h0, .inr (1, pv_m 1 q))] _ := hP
  have hD : va_D A [(h0, .inr (1, pv_m 1 q))] := hD
  refine W.widen (k := 0) (n := 0) (Nat.le_of_ble_eq_true rfl) (Nat.le_of_ble_eq_true rfl) ?_
  exact W.iret (v := 0) hx hb hr (fun t ht hW => ⟨⟨0, 1, rfl, rfl, pv_m 1 q, rfl, (by rw [ht]; exact hP.sub [0] rfl), va_K.moved hW.alike (hK.sub [] rfl), hD.sub [0] (by decide) rfl⟩, hS.F ht⟩) hS.2.2 dX13_degree_18

theorem dX13_degreeIn_0 : decode cX13_degreeIn 0 = .ok (.aload_n 0, 1) := by decide +kernel
theorem dX13_degreeIn_1 : decode cX13_degreeIn 1 = .ok (.iconst 0, 1) := by decide +kernel
theorem dX13_degreeIn_2 : decode cX13_degreeIn 2 = .ok (.putfield 122, 3) := by decide +kernel
theorem dX13_degreeIn_5 : decode cX13_degreeIn 5 = .ok (.aload_n 0, 1) := by decide +kernel
theorem dX13_degreeIn_6 : decode cX13_degreeIn 6 = .ok (.iload_n 1, 1) := by decide +kernel
theorem dX13_degreeIn_7 : decode cX13_degreeIn 7 = .ok (.invokevirtual 132, 3) := by decide +kernel
theorem dX13_degreeIn_10 : decode cX13_degreeIn 10 = .ok (.ifCond .ne 9, 3) := by decide +kernel
theorem dX13_degreeIn_13 : decode cX13_degreeIn 13 = .ok (.aload_n 0, 1) := by decide +kernel
theorem dX13_degreeIn_14 : decode cX13_degreeIn 14 = .ok (.iconst 1, 1) := by decide +kernel
theorem dX13_degreeIn_15 : decode cX13_degreeIn 15 = .ok (.invokevirtual 185, 3) := by decide +kernel
theorem dX13_degreeIn_18 : decode cX13_degreeIn 18 = .ok (.ireturn, 1) := by decide +kernel
set_option maxHeartbeats 4000000 in
set_option maxRecDepth 100000 in
/-- degreeIn on a fresh object: code 1 -/
theorem c_X13_degreeIn (l : Launch) (hfl : l.stackTraces = false) (D : va_G) (sz : Nat) (h0 : Nat) (q : Nat → Nat) (p0 : Int32) (p1 : Int32) : Met l yX13_degreeIn (Cond.code yX13_degreeIn cX13_degreeIn 5 (some .int) :: pv_W) ({ frames := 2, cells := 0, slots := 0, locals := 43 } : Room) (va_Pc [.ref h0, .int p0, .int p1] (pv_P D [] [(h0, .inr (1, pv_m 0 q))] (va_A [(h0, .inr (1, pv_m 0 q))] sz) sz)) (va_Qi (fun r (u : Int32) => u = 1) (fun (u : Int32) t => ∃ fs : List Value, fs[0]? = some (.int u) ∧ va_P D pv_cl [(h0, .inr (1, fs))] t.heap ∧ va_K D pv_cl [] t ∧ va_D (va_A [(h0, .inr (1, pv_m 0 q))] sz) [(h0, .inr (1, fs))]) (va_A [(h0, .inr (1, pv_m 0 q))] sz)) 0 0 (va_A [(h0, .inr (1, pv_m 0 q))] sz) := by
  refine Met.ofW (cc := cX13_degreeIn) (maxL := 5) (ret := (some .int)) (by decide) rfl ?_
  intro p e s m args below meth c s₁ B hml hv
  obtain ⟨rfl, hsz, hE, hP, hK, hD0⟩ := hv
  have hx := B.exec
  have hb := B.bytes
  have hr := B.returns
  have hts := fun (w : Cond) (h : w ∈ pv_W) => atoms_spec (ws := Cond.code yX13_degreeIn cX13_degreeIn 5 (some .int) :: pv_W) B.pre w (List.mem_cons_of_mem _ h)
  have hg := fun {w : Cond} (h : w ∈ lw_tbl) (g : goodWord w = true) => hts w (pv_in h g)
  have hown : s.vm.findClass RX13 = some m.cls := findClass_of_methodNamed B.named
  have hlocks := B.notSynchronized
  subst hsz
  have hD := hD0.self (sz := s.heap.size)
  generalize hAe : va_A [(h0, .inr (1, pv_m 0 q))] s.heap.size = A at hD hE ⊢
  have hA : ∀ q : Nat, s.heap.size ≤ q → A q := fun q h => by rw [← hAe]; exact Or.inr h
  have hS : va_S A s.heap s.heap [] := va_S.rf
  have hP : va_P D pv_cl [(h0, .inr (1, pv_m 0 q))] s.heap := hP
  have hl := lv_entry ([.ref h0, .int p0, .int p1]) (n := 5) (Nat.le_of_ble_eq_true rfl)
  rw [lg_entry_eq]
  generalize (lg_sl ([.ref h0, .int p0, .int p1]) ++ List.replicate (5 - (lg_sl ([.ref h0, .int p0, .int p1])).length) Slot.unset).toArray = ls at hl ⊢
  have hl : lv_has ls 5 [(0, .ref h0), (1, .int p0), (2, .int p1)] := hl
  refine lv_aload_n hx hb dX13_degreeIn_0 rfl (lv_at hl 0 rfl) ?_
  refine lv_iconst (v := 0) hx hb dX13_degreeIn_1 (by decide) ?_
  refine va_put (own := RX13) (D := D) (ci := 1) (v := .int 0) (ty := .int) (C := RX13) (T := TX13) (N := 45) hx hb hts inF13 tyX13 tyX13_ok nmX13 hown hK hP hD hS 0 rfl rfl 0 (by decide) (hg w8_205 rfl) (fun _ h9 => h9) rfl (by decide +kernel) rfl rfl (Nat.le_of_ble_eq_true rfl) dX13_degreeIn_2 (fun H locs hP hD hS => ?_)
  have hP : va_P D pv_cl [(h0, .inr (1, pv_m 0 q))] _ := hP
  have hD : va_D A [(h0, .inr (1, pv_m 0 q))] := hD
  refine lv_aload_n hx hb dX13_degreeIn_5 rfl (lv_at hl 0 rfl) ?_
  refine lv_iload_n hx hb dX13_degreeIn_6 rfl (lv_at hl 1 rfl) ?_
  have hF := pv_new hA hS.1
  refine va_calli (va_runV (As := [.int p0]) (rest := []) ⟨hx, hb, hml, hown, hts⟩ (c_X13_is l hfl D _ h0 q p0) (cwV 1 hts (pv_gV w9_168 w9_170 wp5_13 w1_10 w9_171) rfl rfl rfl (by decide +kernel) ⟨Nat.le_of_ble_eq_true rfl, Nat.le_of_ble_eq_true rfl⟩) (pv_pV hE hS hF (hP.sub [0] rfl) (hK.sub [] rfl) (hD.sub [0] (by decide) rfl) (va_recv (ci := 1) (q0 := 0) hK hP rfl rfl)) rfl rfl hl.1 rfl (lv_room (Nat.le_of_ble_eq_true rfl)) dX13_degreeIn_7 ⟨Nat.le_of_ble_eq_true rfl, Nat.le_of_ble_eq_true rfl⟩) hS (fun q _ h => hF q h) hF (fun r_0 u t H1 locs1 ht hvm hw hB hz1 hk1 hS => ?_)
  refine W.widen (k := 0) (n := 0) (Nat.le_of_ble_eq_true rfl) (Nat.le_of_ble_eq_true rfl) ?_
  have hP := pv_keep hP rfl hk1
  obtain rfl := hw
  refine lv_if_ne (tgt := 19) hx hb dX13_degreeIn_10 (by decide) (fun c_2 => absurd (by decide) c_2) (fun _ => ?_)
  refine lv_aload_n hx hb dX13_degreeIn_13 rfl (lv_at hl 0 rfl) ?_
  refine lv_iconst (v := 1) hx hb dX13_degreeIn_14 (by decide) ?_
  have hF := va_free (wc := [(h0, .inr (1, pv_m 0 q))]) hD hS hA [0] rfl
  refine va_calli (va_runV (As := [.int 1]) (rest := []) ⟨hx, hb, hml, hown, hts⟩ (c_X13_fails l hfl D _ h0 q 1) (cwV 1 hts (pv_gV w9_113 w9_115 wp5_9 w1_10 w9_116) rfl rfl rfl (by decide +kernel) ⟨Nat.le_of_ble_eq_true rfl, Nat.le_of_ble_eq_true rfl⟩) (pv_pV hE hS hF (hP.sub [0] rfl) (hK.sub [] rfl) (hD.sub [0] (by decide) rfl) (va_recv (ci := 1) (q0 := 0) hK hP rfl rfl)) rfl rfl hl.1 rfl (lv_room (Nat.le_of_ble_eq_true rfl)) dX13_degreeIn_15 ⟨Nat.le_of_ble_eq_true rfl, Nat.le_of_ble_eq_true rfl⟩) hS (fun q _ h => hF q h) hF (fun r_2 u t H1 locs1 ht hvm hw hB hz1 hk1 hS => ?_)
  refine W.widen (k := 0) (n := 0) (Nat.le_of_ble_eq_true rfl) (Nat.le_of_ble_eq_true rfl) ?_
  obtain rfl := hw
  obtain ⟨hP1, hK1, hD1⟩ := hB
  rw [ht] at hP1
  have hK1 := va_K.moved hvm.symm hK1
  obtain ⟨hP, hD⟩ := va_join (wr := []) (w1 := [(h0, .inr (1, pv_m 1 q))]) hP hD [0] [] rfl rfl (by decide) (by decide) hk1 hF hP1 hD1
  have hP : va_P D pv_cl [(h0, .inr (1, pv_m 1 q))] _ := hP
  have hD : va_D A [(h0, .inr (1, pv_m 1 q))] := hD
  refine W.widen (k := 0) (n := 0) (Nat.le_of_ble_eq_true rfl) (Nat.le_of_ble_eq_true rfl) ?_
  exact W.iret (v := 0) hx hb hr (fun t ht hW => ⟨⟨0, 1, rfl, rfl, pv_m 1 q, rfl, (by rw [ht]; exact hP.sub [0] rfl), va_K.moved hW.alike (hK.sub [] rfl), hD.sub [0] (by decide) rfl⟩, hS.F ht⟩) hS.2.2 dX13_degreeIn_18

theorem dX13_coefficientAt_0 : decode cX13_coefficientAt 0 = .ok (.aload_n 0, 1) := by decide +kernel
theorem dX13_coefficientAt_1 : decode cX13_coefficientAt 1 = .ok (.aload_n 0, 1) := by decide +kernel
theorem dX13_coefficientAt_2 : decode cX13_coefficientAt 2 = .ok (.iload_n 1, 1) := by decide +kernel
theorem dX13_coefficientAt_3 : decode cX13_coefficientAt 3 = .ok (.invokevirtual 132, 3) := by decide +kernel
theorem dX13_coefficientAt_6 : decode cX13_coefficientAt 6 = .ok (.ifCond .ne 7, 3) := by decide +kernel
theorem dX13_coefficientAt_9 : decode cX13_coefficientAt 9 = .ok (.iconst 1, 1) := by decide +kernel
theorem dX13_coefficientAt_10 : decode cX13_coefficientAt 10 = .ok (.goto 27, 3) := by decide +kernel
theorem dX13_coefficientAt_37 : decode cX13_coefficientAt 37 = .ok (.putfield 122, 3) := by decide +kernel
theorem dX13_coefficientAt_40 : decode cX13_coefficientAt 40 = .ok (.aload_n 0, 1) := by decide +kernel
theorem dX13_coefficientAt_41 : decode cX13_coefficientAt 41 = .ok (.getfield 122, 3) := by decide +kernel
theorem dX13_coefficientAt_44 : decode cX13_coefficientAt 44 = .ok (.ifCond .le 5, 3) := by decide +kernel
theorem dX13_coefficientAt_47 : decode cX13_coefficientAt 47 = .ok (.lconst 0, 1) := by decide +kernel
theorem dX13_coefficientAt_48 : decode cX13_coefficientAt 48 = .ok (.lreturn, 1) := by decide +kernel
set_option maxHeartbeats 4000000 in
set_option maxRecDepth 100000 in
/-- coefficientAt on a fresh object: code 1 -/
theorem c_X13_coefficientAt (l : Launch) (hfl : l.stackTraces = false) (D : va_G) (sz : Nat) (h0 : Nat) (q : Nat → Nat) (p0 : Int32) (p1 : Int32) : Met l yX13_coefficientAt (Cond.code yX13_coefficientAt cX13_coefficientAt 3 (some .long) :: pv_W) ({ frames := 2, cells := 0, slots := 0, locals := 43 } : Room) (va_Pc [.ref h0, .int p0, .int p1] (pv_P D [] [(h0, .inr (1, pv_m 0 q))] (va_A [(h0, .inr (1, pv_m 0 q))] sz) sz)) (va_Ql (fun r (u : Int32) => u = 1) (fun (u : Int32) t => ∃ fs : List Value, fs[0]? = some (.int u) ∧ va_P D pv_cl [(h0, .inr (1, fs))] t.heap ∧ va_K D pv_cl [] t ∧ va_D (va_A [(h0, .inr (1, pv_m 0 q))] sz) [(h0, .inr (1, fs))]) (va_A [(h0, .inr (1, pv_m 0 q))] sz)) 0 0 (va_A [(h0, .inr (1, pv_m 0 q))] sz) := by
  refine Met.ofW (cc := cX13_coefficientAt) (maxL := 3) (ret := (some .long)) (by decide) rfl ?_
  intro p e s m args below meth c s₁ B hml hv
  obtain ⟨rfl, hsz, hE, hP, hK, hD0⟩ := hv
  have hx := B.exec
  have hb := B.bytes
  have hr := B.returns
  have hts := fun (w : Cond) (h : w ∈ pv_W) => atoms_spec (ws := Cond.code yX13_coefficientAt cX13_coefficientAt 3 (some .long) :: pv_W) B.pre w (List.mem_cons_of_mem _ h)
  have hg := fun {w : Cond} (h : w ∈ lw_tbl) (g : goodWord w = true) => hts w (pv_in h g)
  have hown : s.vm.findClass RX13 = some m.cls := findClass_of_methodNamed B.named
  have hlocks := B.notSynchronized
  subst hsz
  have hD := hD0.self (sz := s.heap.size)
  generalize hAe : va_A [(h0, .inr (1, pv_m 0 q))] s.heap.size = A at hD hE ⊢
  have hA : ∀ q : Nat, s.heap.size ≤ q → A q := fun q h => by rw [← hAe]; exact Or.inr h
  have hS : va_S A s.heap s.heap [] := va_S.rf
  have hP : va_P D pv_cl [(h0, .inr (1, pv_m 0 q))] s.heap := hP
  have hl := lv_entry ([.ref h0, .int p0, .int p1]) (n := 3) (Nat.le_of_ble_eq_true rfl)
  rw [lg_entry_eq]
  generalize (lg_sl ([.ref h0, .int p0, .int p1]) ++ List.replicate (3 - (lg_sl ([.ref h0, .int p0, .int p1])).length) Slot.unset).toArray = ls at hl ⊢
  have hl : lv_has ls 3 [(0, .ref h0), (1, .int p0), (2, .int p1)] := hl
  refine lv_aload_n hx hb dX13_coefficientAt_0 rfl (lv_at hl 0 rfl) ?_
  refine lv_aload_n hx hb dX13_coefficientAt_1 rfl (lv_at hl 0 rfl) ?_
  refine lv_iload_n hx hb dX13_coefficientAt_2 rfl (lv_at hl 1 rfl) ?_
  have hF := pv_new hA hS.1
  refine va_calli (va_runV (As := [.int p0]) (rest := [.ref h0]) ⟨hx, hb, hml, hown, hts⟩ (c_X13_is l hfl D _ h0 q p0) (cwV 1 hts (pv_gV w9_168 w9_170 wp5_13 w1_10 w9_171) rfl rfl rfl (by decide +kernel) ⟨Nat.le_of_ble_eq_true rfl, Nat.le_of_ble_eq_true rfl⟩) (pv_pV hE hS hF (hP.sub [0] rfl) (hK.sub [] rfl) (hD.sub [0] (by decide) rfl) (va_recv (ci := 1) (q0 := 0) hK hP rfl rfl)) rfl rfl hl.1 rfl (lv_room (Nat.le_of_ble_eq_true rfl)) dX13_coefficientAt_3 ⟨Nat.le_of_ble_eq_true rfl, Nat.le_of_ble_eq_true rfl⟩) hS (fun q _ h => hF q h) hF (fun r_0 u t H1 locs1 ht hvm hw hB hz1 hk1 hS => ?_)
  refine W.widen (k := 0) (n := 0) (Nat.le_of_ble_eq_true rfl) (Nat.le_of_ble_eq_true rfl) ?_
  have hP := pv_keep hP rfl hk1
  obtain rfl := hw
  refine lv_if_ne (tgt := 13) hx hb dX13_coefficientAt_6 (by decide) (fun c_2 => absurd (by decide) c_2) (fun _ => ?_)
  refine lv_iconst (v := 1) hx hb dX13_coefficientAt_9 (by decide) ?_
  refine lv_goto (tgt := 37) hx hb dX13_coefficientAt_10 (by decide) ?_
  refine va_put (own := RX13) (D := D) (ci := 1) (v := .int 1) (ty := .int) (C := RX13) (T := TX13) (N := 45) hx hb hts inF13 tyX13 tyX13_ok nmX13 hown hK hP hD hS 0 rfl rfl 0 (by decide) (hg w8_205 rfl) (fun _ h9 => h9) rfl (by decide +kernel) rfl rfl (Nat.le_of_ble_eq_true rfl) dX13_coefficientAt_37 (fun H locs hP hD hS => ?_)
  have hP : va_P D pv_cl [(h0, .inr (1, pv_m 1 q))] _ := hP
  have hD : va_D A [(h0, .inr (1, pv_m 1 q))] := hD
  refine lv_aload_n hx hb dX13_coefficientAt_40 rfl (lv_at hl 0 rfl) ?_
  refine va_get (own := RX13) (D := D) (ci := 1) (v := .int 1) (C := RX13) (T := TX13) (N := 45) hx hb hts inF13 hown hK hP 0 rfl rfl 0 (by decide) (hg w8_205 rfl) (fun _ h9 => h9) rfl dX13_coefficientAt_41 ?_
  refine lv_if_le (tgt := 49) hx hb dX13_coefficientAt_44 (by decide) (fun c_3 => absurd c_3 (by decide)) (fun _ => ?_)
  refine lv_lconst (v := 0) hx hb dX13_coefficientAt_47 (by decide) ?_
  refine W.widen (k := 0) (n := 0) (Nat.le_of_ble_eq_true rfl) (Nat.le_of_ble_eq_true rfl) ?_
  exact W.lret (v := 0) hx hb hr (fun t ht hW => ⟨⟨0, 1, rfl, rfl, pv_m 1 q, rfl, (by rw [ht]; exact hP.sub [0] rfl), va_K.moved hW.alike (hK.sub [] rfl), hD.sub [0] (by decide) rfl⟩, hS.F ht⟩) hS.2.2 dX13_coefficientAt_48

theorem dX13_exponentAt_0 : decode cX13_exponentAt 0 = .ok (.aload_n 0, 1) := by decide +kernel
theorem dX13_exponentAt_1 : decode cX13_exponentAt 1 = .ok (.iconst 0, 1) := by decide +kernel
theorem dX13_exponentAt_2 : decode cX13_exponentAt 2 = .ok (.putfield 122, 3) := by decide +kernel
theorem dX13_exponentAt_5 : decode cX13_exponentAt 5 = .ok (.aload_n 0, 1) := by decide +kernel
theorem dX13_exponentAt_6 : decode cX13_exponentAt 6 = .ok (.iload_n 1, 1) := by decide +kernel
theorem dX13_exponentAt_7 : decode cX13_exponentAt 7 = .ok (.invokevirtual 132, 3) := by decide +kernel
theorem dX13_exponentAt_10 : decode cX13_exponentAt 10 = .ok (.ifCond .ne 9, 3) := by decide +kernel
theorem dX13_exponentAt_13 : decode cX13_exponentAt 13 = .ok (.aload_n 0, 1) := by decide +kernel
theorem dX13_exponentAt_14 : decode cX13_exponentAt 14 = .ok (.iconst 1, 1) := by decide +kernel
theorem dX13_exponentAt_15 : decode cX13_exponentAt 15 = .ok (.invokevirtual 185, 3) := by decide +kernel
theorem dX13_exponentAt_18 : decode cX13_exponentAt 18 = .ok (.ireturn, 1) := by decide +kernel
set_option maxHeartbeats 4000000 in
set_option maxRecDepth 100000 in
/-- exponentAt on a fresh object: code 1 -/
theorem c_X13_exponentAt (l : Launch) (hfl : l.stackTraces = false) (D : va_G) (sz : Nat) (h0 : Nat) (q : Nat → Nat) (p0 : Int32) (p1 : Int32) (p2 : Int32) : Met l yX13_exponentAt (Cond.code yX13_exponentAt cX13_exponentAt 4 (some .int) :: pv_W) ({ frames := 2, cells := 0, slots := 0, locals := 43 } : Room) (va_Pc [.ref h0, .int p0, .int p1, .int p2] (pv_P D [] [(h0, .inr (1, pv_m 0 q))] (va_A [(h0, .inr (1, pv_m 0 q))] sz) sz)) (va_Qi (fun r (u : Int32) => u = 1) (fun (u : Int32) t => ∃ fs : List Value, fs[0]? = some (.int u) ∧ va_P D pv_cl [(h0, .inr (1, fs))] t.heap ∧ va_K D pv_cl [] t ∧ va_D (va_A [(h0, .inr (1, pv_m 0 q))] sz) [(h0, .inr (1, fs))]) (va_A [(h0, .inr (1, pv_m 0 q))] sz)) 0 0 (va_A [(h0, .inr (1, pv_m 0 q))] sz) := by
  refine Met.ofW (cc := cX13_exponentAt) (maxL := 4) (ret := (some .int)) (by decide) rfl ?_
  intro p e s m args below meth c s₁ B hml hv
  obtain ⟨rfl, hsz, hE, hP, hK, hD0⟩ := hv
  have hx := B.exec
  have hb := B.bytes
  have hr := B.returns
  have hts := fun (w : Cond) (h : w ∈ pv_W) => atoms_spec (ws := Cond.code yX13_exponentAt cX13_exponentAt 4 (some .int) :: pv_W) B.pre w (List.mem_cons_of_mem _ h)
  have hg := fun {w : Cond} (h : w ∈ lw_tbl) (g : goodWord w = true) => hts w (pv_in h g)
  have hown : s.vm.findClass RX13 = some m.cls := findClass_of_methodNamed B.named
  have hlocks := B.notSynchronized
  subst hsz
  have hD := hD0.self (sz := s.heap.size)
  generalize hAe : va_A [(h0, .inr (1, pv_m 0 q))] s.heap.size = A at hD hE ⊢
  have hA : ∀ q : Nat, s.heap.size ≤ q → A q := fun q h => by rw [← hAe]; exact Or.inr h
  have hS : va_S A s.heap s.heap [] := va_S.rf
  have hP : va_P D pv_cl [(h0, .inr (1, pv_m 0 q))] s.heap := hP
  have hl := lv_entry ([.ref h0, .int p0, .int p1, .int p2]) (n := 4) (Nat.le_of_ble_eq_true rfl)
  rw [lg_entry_eq]
  generalize (lg_sl ([.ref h0, .int p0, .int p1, .int p2]) ++ List.replicate (4 - (lg_sl ([.ref h0, .int p0, .int p1, .int p2])).length) Slot.unset).toArray = ls at hl ⊢
  have hl : lv_has ls 4 [(0, .ref h0), (1, .int p0), (2, .int p1), (3, .int p2)] := hl
  refine lv_aload_n hx hb dX13_exponentAt_0 rfl (lv_at hl 0 rfl) ?_
  refine lv_iconst (v := 0) hx hb dX13_exponentAt_1 (by decide) ?_
  refine va_put (own := RX13) (D := D) (ci := 1) (v := .int 0) (ty := .int) (C := RX13) (T := TX13) (N := 45) hx hb hts inF13 tyX13 tyX13_ok nmX13 hown hK hP hD hS 0 rfl rfl 0 (by decide) (hg w8_205 rfl) (fun _ h9 => h9) rfl (by decide +kernel) rfl rfl (Nat.le_of_ble_eq_true rfl) dX13_exponentAt_2 (fun H locs hP hD hS => ?_)
  have hP : va_P D pv_cl [(h0, .inr (1, pv_m 0 q))] _ := hP
  have hD : va_D A [(h0, .inr (1, pv_m 0 q))] := hD
  refine lv_aload_n hx hb dX13_exponentAt_5 rfl (lv_at hl 0 rfl) ?_
  refine lv_iload_n hx hb dX13_exponentAt_6 rfl (lv_at hl 1 rfl) ?_
  have hF := pv_new hA hS.1
  refine va_calli (va_runV (As := [.int p0]) (rest := []) ⟨hx, hb, hml, hown, hts⟩ (c_X13_is l hfl D _ h0 q p0) (cwV 1 hts (pv_gV w9_168 w9_170 wp5_13 w1_10 w9_171) rfl rfl rfl (by decide +kernel) ⟨Nat.le_of_ble_eq_true rfl, Nat.le_of_ble_eq_true rfl⟩) (pv_pV hE hS hF (hP.sub [0] rfl) (hK.sub [] rfl) (hD.sub [0] (by decide) rfl) (va_recv (ci := 1) (q0 := 0) hK hP rfl rfl)) rfl rfl hl.1 rfl (lv_room (Nat.le_of_ble_eq_true rfl)) dX13_exponentAt_7 ⟨Nat.le_of_ble_eq_true rfl, Nat.le_of_ble_eq_true rfl⟩) hS (fun q _ h => hF q h) hF (fun r_0 u t H1 locs1 ht hvm hw hB hz1 hk1 hS => ?_)
  refine W.widen (k := 0) (n := 0) (Nat.le_of_ble_eq_true rfl) (Nat.le_of_ble_eq_true rfl) ?_
  have hP := pv_keep hP rfl hk1
  obtain rfl := hw
  refine lv_if_ne (tgt := 19) hx hb dX13_exponentAt_10 (by decide) (fun c_2 => absurd (by decide) c_2) (fun _ => ?_)
  refine lv_aload_n hx hb dX13_exponentAt_13 rfl (lv_at hl 0 rfl) ?_
  refine lv_iconst (v := 1) hx hb dX13_exponentAt_14 (by decide) ?_
  have hF := va_free (wc := [(h0, .inr (1, pv_m 0 q))]) hD hS hA [0] rfl
  refine va_calli (va_runV (As := [.int 1]) (rest := []) ⟨hx, hb, hml, hown, hts⟩ (c_X13_fails l hfl D _ h0 q 1) (cwV 1 hts (pv_gV w9_113 w9_115 wp5_9 w1_10 w9_116) rfl rfl rfl (by decide +kernel) ⟨Nat.le_of_ble_eq_true rfl, Nat.le_of_ble_eq_true rfl⟩) (pv_pV hE hS hF (hP.sub [0] rfl) (hK.sub [] rfl) (hD.sub [0] (by decide) rfl) (va_recv (ci := 1) (q0 := 0) hK hP rfl rfl)) rfl rfl hl.1 rfl (lv_room (Nat.le_of_ble_eq_true rfl)) dX13_exponentAt_15 ⟨Nat.le_of_ble_eq_true rfl, Nat.le_of_ble_eq_true rfl⟩) hS (fun q _ h => hF q h) hF (fun r_2 u t H1 locs1 ht hvm hw hB hz1 hk1 hS => ?_)
  refine W.widen (k := 0) (n := 0) (Nat.le_of_ble_eq_true rfl) (Nat.le_of_ble_eq_true rfl) ?_
  obtain rfl := hw
  obtain ⟨hP1, hK1, hD1⟩ := hB
  rw [ht] at hP1
  have hK1 := va_K.moved hvm.symm hK1
  obtain ⟨hP, hD⟩ := va_join (wr := []) (w1 := [(h0, .inr (1, pv_m 1 q))]) hP hD [0] [] rfl rfl (by decide) (by decide) hk1 hF hP1 hD1
  have hP : va_P D pv_cl [(h0, .inr (1, pv_m 1 q))] _ := hP
  have hD : va_D A [(h0, .inr (1, pv_m 1 q))] := hD
  refine W.widen (k := 0) (n := 0) (Nat.le_of_ble_eq_true rfl) (Nat.le_of_ble_eq_true rfl) ?_
  exact W.iret (v := 0) hx hb hr (fun t ht hW => ⟨⟨0, 1, rfl, rfl, pv_m 1 q, rfl, (by rw [ht]; exact hP.sub [0] rfl), va_K.moved hW.alike (hK.sub [] rfl), hD.sub [0] (by decide) rfl⟩, hS.F ht⟩) hS.2.2 dX13_exponentAt_18

theorem dX13_derive_0 : decode cX13_derive 0 = .ok (.aload_n 0, 1) := by decide +kernel
theorem dX13_derive_1 : decode cX13_derive 1 = .ok (.iconst 0, 1) := by decide +kernel
theorem dX13_derive_2 : decode cX13_derive 2 = .ok (.putfield 122, 3) := by decide +kernel
theorem dX13_derive_5 : decode cX13_derive 5 = .ok (.aload_n 0, 1) := by decide +kernel
theorem dX13_derive_6 : decode cX13_derive 6 = .ok (.iload_n 1, 1) := by decide +kernel
theorem dX13_derive_7 : decode cX13_derive 7 = .ok (.invokevirtual 132, 3) := by decide +kernel
theorem dX13_derive_10 : decode cX13_derive 10 = .ok (.ifCond .ne 9, 3) := by decide +kernel
theorem dX13_derive_13 : decode cX13_derive 13 = .ok (.aload_n 0, 1) := by decide +kernel
theorem dX13_derive_14 : decode cX13_derive 14 = .ok (.iconst 1, 1) := by decide +kernel
theorem dX13_derive_15 : decode cX13_derive 15 = .ok (.invokevirtual 185, 3) := by decide +kernel
theorem dX13_derive_18 : decode cX13_derive 18 = .ok (.ireturn, 1) := by decide +kernel
set_option maxHeartbeats 4000000 in
set_option maxRecDepth 100000 in
/-- derive on a fresh object: code 1 -/
theorem c_X13_derive (l : Launch) (hfl : l.stackTraces = false) (D : va_G) (sz : Nat) (h0 : Nat) (q : Nat → Nat) (p0 : Int32) (p1 : Int32) : Met l yX13_derive (Cond.code yX13_derive cX13_derive 5 (some .int) :: pv_W) ({ frames := 2, cells := 0, slots := 0, locals := 43 } : Room) (va_Pc [.ref h0, .int p0, .int p1] (pv_P D [] [(h0, .inr (1, pv_m 0 q))] (va_A [(h0, .inr (1, pv_m 0 q))] sz) sz)) (va_Qi (fun r (u : Int32) => u = 1) (fun (u : Int32) t => ∃ fs : List Value, fs[0]? = some (.int u) ∧ va_P D pv_cl [(h0, .inr (1, fs))] t.heap ∧ va_K D pv_cl [] t ∧ va_D (va_A [(h0, .inr (1, pv_m 0 q))] sz) [(h0, .inr (1, fs))]) (va_A [(h0, .inr (1, pv_m 0 q))] sz)) 0 0 (va_A [(h0, .inr (1, pv_m 0 q))] sz) := by
  refine Met.ofW (cc := cX13_derive) (maxL := 5) (ret := (some .int)) (by decide) rfl ?_
  intro p e s m args below meth c s₁ B hml hv
  obtain ⟨rfl, hsz, hE, hP, hK, hD0⟩ := hv
  have hx := B.exec
  have hb := B.bytes
  have hr := B.returns
  have hts := fun (w : Cond) (h : w ∈ pv_W) => atoms_spec (ws := Cond.code yX13_derive cX13_derive 5 (some .int) :: pv_W) B.pre w (List.mem_cons_of_mem _ h)
  have hg := fun {w : Cond} (h : w ∈ lw_tbl) (g : goodWord w = true) => hts w (pv_in h g)
  have hown : s.vm.findClass RX13 = some m.cls := findClass_of_methodNamed B.named
  have hlocks := B.notSynchronized
  subst hsz
  have hD := hD0.self (sz := s.heap.size)
  generalize hAe : va_A [(h0, .inr (1, pv_m 0 q))] s.heap.size = A at hD hE ⊢
  have hA : ∀ q : Nat, s.heap.size ≤ q → A q := fun q h => by rw [← hAe]; exact Or.inr h
  have hS : va_S A s.heap s.heap [] := va_S.rf
  have hP : va_P D pv_cl [(h0, .inr (1, pv_m 0 q))] s.heap := hP
  have hl := lv_entry ([.ref h0, .int p0, .int p1]) (n := 5) (Nat.le_of_ble_eq_true rfl)
  rw [lg_entry_eq]
  generalize (lg_sl ([.ref h0, .int p0, .int p1]) ++ List.replicate (5 - (lg_sl ([.ref h0, .int p0, .int p1])).length) Slot.unset).toArray = ls at hl ⊢
  have hl : lv_has ls 5 [(0, .ref h0), (1, .int p0), (2, .int p1)] := hl
  refine lv_aload_n hx hb dX13_derive_0 rfl (lv_at hl 0 rfl) ?_
  refine lv_iconst (v := 0) hx hb dX13_derive_1 (by decide) ?_
  refine va_put (own := RX13) (D := D) (ci := 1) (v := .int 0) (ty := .int) (C := RX13) (T := TX13) (N := 45) hx hb hts inF13 tyX13 tyX13_ok nmX13 hown hK hP hD hS 0 rfl rfl 0 (by decide) (hg w8_205 rfl) (fun _ h9 => h9) rfl (by decide +kernel) rfl rfl (Nat.le_of_ble_eq_true rfl) dX13_derive_2 (fun H locs hP hD hS => ?_)
  have hP : va_P D pv_cl [(h0, .inr (1, pv_m 0 q))] _ := hP
  have hD : va_D A [(h0, .inr (1, pv_m 0 q))] := hD
  refine lv_aload_n hx hb dX13_derive_5 rfl (lv_at hl 0 rfl) ?_
  refine lv_iload_n hx hb dX13_derive_6 rfl (lv_at hl 1 rfl) ?_
  have hF := pv_new hA hS.1
  refine va_calli (va_runV (As := [.int p0]) (rest := []) ⟨hx, hb, hml, hown, hts⟩ (c_X13_is l hfl D _ h0 q p0) (cwV 1 hts (pv_gV w9_168 w9_170 wp5_13 w1_10 w9_171) rfl rfl rfl (by decide +kernel) ⟨Nat.le_of_ble_eq_true rfl, Nat.le_of_ble_eq_true rfl⟩) (pv_pV hE hS hF (hP.sub [0] rfl) (hK.sub [] rfl) (hD.sub [0] (by decide) rfl) (va_recv (ci := 1) (q0 := 0) hK hP rfl rfl)) rfl rfl hl.1 rfl (lv_room (Nat.le_of_ble_eq_true rfl)) dX13_derive_7 ⟨Nat.le_of_ble_eq_true rfl, Nat.le_of_ble_eq_true rfl⟩) hS (fun q _ h => hF q h) hF (fun r_0 u t H1 locs1 ht hvm hw hB hz1 hk1 hS => ?_)
  refine W.widen (k := 0) (n := 0) (Nat.le_of_ble_eq_true rfl) (Nat.le_of_ble_eq_true rfl) ?_
  have hP := pv_keep hP rfl hk1
  obtain rfl := hw
  refine lv_if_ne (tgt := 19) hx hb dX13_derive_10 (by decide) (fun c_2 => absurd (by decide) c_2) (fun _ => ?_)
  refine lv_aload_n hx hb dX13_derive_13 rfl (lv_at hl 0 rfl) ?_
  refine lv_iconst (v := 1) hx hb dX13_derive_14 (by decide) ?_
  have hF := va_free (wc := [(h0, .inr (1, pv_m 0 q))]) hD hS hA [0] rfl
  refine va_calli (va_runV (As := [.int 1]) (rest := []) ⟨hx, hb, hml, hown, hts⟩ (c_X13_fails l hfl D _ h0 q 1) (cwV 1 hts (pv_gV w9_113 w9_115 wp5_9 w1_10 w9_116) rfl rfl rfl (by decide +kernel) ⟨Nat.le_of_ble_eq_true rfl, Nat.le_of_ble_eq_true rfl⟩) (pv_pV hE hS hF (hP.sub [0] rfl) (hK.sub [] rfl) (hD.sub [0] (by decide) rfl) (va_recv (ci := 1) (q0 := 0) hK hP rfl rfl)) rfl rfl hl.1 rfl (lv_room (Nat.le_of_ble_eq_true rfl)) dX13_derive_15 ⟨Nat.le_of_ble_eq_true rfl, Nat.le_of_ble_eq_true rfl⟩) hS (fun q _ h => hF q h) hF (fun r_2 u t H1 locs1 ht hvm hw hB hz1 hk1 hS => ?_)
  refine W.widen (k := 0) (n := 0) (Nat.le_of_ble_eq_true rfl) (Nat.le_of_ble_eq_true rfl) ?_
  obtain rfl := hw
  obtain ⟨hP1, hK1, hD1⟩ := hB
  rw [ht] at hP1
  have hK1 := va_K.moved hvm.symm hK1
  obtain ⟨hP, hD⟩ := va_join (wr := []) (w1 := [(h0, .inr (1, pv_m 1 q))]) hP hD [0] [] rfl rfl (by decide) (by decide) hk1 hF hP1 hD1
  have hP : va_P D pv_cl [(h0, .inr (1, pv_m 1 q))] _ := hP
  have hD : va_D A [(h0, .inr (1, pv_m 1 q))] := hD
  refine W.widen (k := 0) (n := 0) (Nat.le_of_ble_eq_true rfl) (Nat.le_of_ble_eq_true rfl) ?_
  exact W.iret (v := 0) hx hb hr (fun t ht hW => ⟨⟨0, 1, rfl, rfl, pv_m 1 q, rfl, (by rw [ht]; exact hP.sub [0] rfl), va_K.moved hW.alike (hK.sub [] rfl), hD.sub [0] (by decide) rfl⟩, hS.F ht⟩) hS.2.2 dX13_derive_18

theorem dX13_integrate_0 : decode cX13_integrate 0 = .ok (.aload_n 0, 1) := by decide +kernel
theorem dX13_integrate_1 : decode cX13_integrate 1 = .ok (.iconst 0, 1) := by decide +kernel
theorem dX13_integrate_2 : decode cX13_integrate 2 = .ok (.putfield 122, 3) := by decide +kernel
theorem dX13_integrate_5 : decode cX13_integrate 5 = .ok (.aload_n 0, 1) := by decide +kernel
theorem dX13_integrate_6 : decode cX13_integrate 6 = .ok (.iload_n 1, 1) := by decide +kernel
theorem dX13_integrate_7 : decode cX13_integrate 7 = .ok (.invokevirtual 132, 3) := by decide +kernel
theorem dX13_integrate_10 : decode cX13_integrate 10 = .ok (.ifCond .ne 9, 3) := by decide +kernel
theorem dX13_integrate_13 : decode cX13_integrate 13 = .ok (.aload_n 0, 1) := by decide +kernel
theorem dX13_integrate_14 : decode cX13_integrate 14 = .ok (.iconst 1, 1) := by decide +kernel
theorem dX13_integrate_15 : decode cX13_integrate 15 = .ok (.invokevirtual 185, 3) := by decide +kernel
theorem dX13_integrate_18 : decode cX13_integrate 18 = .ok (.ireturn, 1) := by decide +kernel
set_option maxHeartbeats 4000000 in
set_option maxRecDepth 100000 in
/-- integrate on a fresh object: code 1 -/
theorem c_X13_integrate (l : Launch) (hfl : l.stackTraces = false) (D : va_G) (sz : Nat) (h0 : Nat) (q : Nat → Nat) (p0 : Int32) (p1 : Int32) : Met l yX13_integrate (Cond.code yX13_integrate cX13_integrate 11 (some .int) :: pv_W) ({ frames := 2, cells := 0, slots := 0, locals := 43 } : Room) (va_Pc [.ref h0, .int p0, .int p1] (pv_P D [] [(h0, .inr (1, pv_m 0 q))] (va_A [(h0, .inr (1, pv_m 0 q))] sz) sz)) (va_Qi (fun r (u : Int32) => u = 1) (fun (u : Int32) t => ∃ fs : List Value, fs[0]? = some (.int u) ∧ va_P D pv_cl [(h0, .inr (1, fs))] t.heap ∧ va_K D pv_cl [] t ∧ va_D (va_A [(h0, .inr (1, pv_m 0 q))] sz) [(h0, .inr (1, fs))]) (va_A [(h0, .inr (1, pv_m 0 q))] sz)) 0 0 (va_A [(h0, .inr (1, pv_m 0 q))] sz) := by
  refine Met.ofW (cc := cX13_integrate) (maxL := 11) (ret := (some .int)) (by decide) rfl ?_
  intro p e s m args below meth c s₁ B hml hv
  obtain ⟨rfl, hsz, hE, hP, hK, hD0⟩ := hv
  have hx := B.exec
  have hb := B.bytes
  have hr := B.returns
  have hts := fun (w : Cond) (h : w ∈ pv_W) => atoms_spec (ws := Cond.code yX13_integrate cX13_integrate 11 (some .int) :: pv_W) B.pre w (List.mem_cons_of_mem _ h)
  have hg := fun {w : Cond} (h : w ∈ lw_tbl) (g : goodWord w = true) => hts w (pv_in h g)
  have hown : s.vm.findClass RX13 = some m.cls := findClass_of_methodNamed B.named
  have hlocks := B.notSynchronized
  subst hsz
  have hD := hD0.self (sz := s.heap.size)
  generalize hAe : va_A [(h0, .inr (1, pv_m 0 q))] s.heap.size = A at hD hE ⊢
  have hA : ∀ q : Nat, s.heap.size ≤ q → A q := fun q h => by rw [← hAe]; exact Or.inr h
  have hS : va_S A s.heap s.heap [] := va_S.rf
  have hP : va_P D pv_cl [(h0, .inr (1, pv_m 0 q))] s.heap := hP
  have hl := lv_entry ([.ref h0, .int p0, .int p1]) (n := 11) (Nat.le_of_ble_eq_true rfl)
  rw [lg_entry_eq]
  generalize (lg_sl ([.ref h0, .int p0, .int p1]) ++ List.replicate (11 - (lg_sl ([.ref h0, .int p0, .int p1])).length) Slot.unset).toArray = ls at hl ⊢
  have hl : lv_has ls 11 [(0, .ref h0), (1, .int p0), (2, .int p1)] := hl
  refine lv_aload_n hx hb dX13_integrate_0 rfl (lv_at hl 0 rfl) ?_
  refine lv_iconst (v := 0) hx hb dX13_integrate_1 (by decide) ?_
  refine va_put (own := RX13) (D := D) (ci := 1) (v := .int 0) (ty := .int) (C := RX13) (T := TX13) (N := 45) hx hb hts inF13 tyX13 tyX13_ok nmX13 hown hK hP hD hS 0 rfl rfl 0 (by decide) (hg w8_205 rfl) (fun _ h9 => h9) rfl (by decide +kernel) rfl rfl (Nat.le_of_ble_eq_true rfl) dX13_integrate_2 (fun H locs hP hD hS => ?_)
  have hP : va_P D pv_cl [(h0, .inr (1, pv_m 0 q))] _ := hP
  have hD : va_D A [(h0, .inr (1, pv_m 0 q))] := hD
  refine lv_aload_n hx hb dX13_integrate_5 rfl (lv_at hl 0 rfl) ?_
  refine lv_iload_n hx hb dX13_integrate_6 rfl (lv_at hl 1 rfl) ?_
  have hF := pv_new hA hS.1
  refine va_calli (va_runV (As := [.int p0]) (rest := []) ⟨hx, hb, hml, hown, hts⟩ (c_X13_is l hfl D _ h0 q p0) (cwV 1 hts (pv_gV w9_168 w9_170 wp5_13 w1_10 w9_171) rfl rfl rfl (by decide +kernel) ⟨Nat.le_of_ble_eq_true rfl, Nat.le_of_ble_eq_true rfl⟩) (pv_pV hE hS hF (hP.sub [0] rfl) (hK.sub [] rfl) (hD.sub [0] (by decide) rfl) (va_recv (ci := 1) (q0 := 0) hK hP rfl rfl)) rfl rfl hl.1 rfl (lv_room (Nat.le_of_ble_eq_true rfl)) dX13_integrate_7 ⟨Nat.le_of_ble_eq_true rfl, Nat.le_of_ble_eq_true rfl⟩) hS (fun q _ h => hF q h) hF (fun r_0 u t H1 locs1 ht hvm hw hB hz1 hk1 hS => ?_)
  refine W.widen (k := 0) (n := 0) (Nat.le_of_ble_eq_true rfl) (Nat.le_of_ble_eq_true rfl) ?_
  have hP := pv_keep hP rfl hk1
  obtain rfl := hw
  refine lv_if_ne (tgt := 19) hx hb dX13_integrate_10 (by decide) (fun c_2 => absurd (by decide) c_2) (fun _ => ?_)
  refine lv_aload_n hx hb dX13_integrate_13 rfl (lv_at hl 0 rfl) ?_
  refine lv_iconst (v := 1) hx hb dX13_integrate_14 (by decide) ?_
  have hF := va_free (wc := [(h0, .inr (1, pv_m 0 q))]) hD hS hA [0] rfl
  refine va_calli (va_runV (As := [.int 1]) (rest := []) ⟨hx, hb, hml, hown, hts⟩ (c_X13_fails l hfl D _ h0 q 1) (cwV 1 hts (pv_gV w9_113 w9_115 wp5_9 w1_10 w9_116) rfl rfl rfl (by decide +kernel) ⟨Nat.le_of_ble_eq_true rfl, Nat.le_of_ble_eq_true rfl⟩) (pv_pV hE hS hF (hP.sub [0] rfl) (hK.sub [] rfl) (hD.sub [0] (by decide) rfl) (va_recv (ci := 1) (q0 := 0) hK hP rfl rfl)) rfl rfl hl.1 rfl (lv_room (Nat.le_of_ble_eq_true rfl)) dX13_integrate_15 ⟨Nat.le_of_ble_eq_true rfl, Nat.le_of_ble_eq_true rfl⟩) hS (fun q _ h => hF q h) hF (fun r_2 u t H1 locs1 ht hvm hw hB hz1 hk1 hS => ?_)
  refine W.widen (k := 0) (n := 0) (Nat.le_of_ble_eq_true rfl) (Nat.le_of_ble_eq_true rfl) ?_
  obtain rfl := hw
  obtain ⟨hP1, hK1, hD1⟩ := hB
  rw [ht] at hP1
  have hK1 := va_K.moved hvm.symm hK1
  obtain ⟨hP, hD⟩ := va_join (wr := []) (w1 := [(h0, .inr (1, pv_m 1 q))]) hP hD [0] [] rfl rfl (by decide) (by decide) hk1 hF hP1 hD1
  have hP : va_P D pv_cl [(h0, .inr (1, pv_m 1 q))] _ := hP
  have hD : va_D A [(h0, .inr (1, pv_m 1 q))] := hD
  refine W.widen (k := 0) (n := 0) (Nat.le_of_ble_eq_true rfl) (Nat.le_of_ble_eq_true rfl) ?_
  exact W.iret (v := 0) hx hb hr (fun t ht hW => ⟨⟨0, 1, rfl, rfl, pv_m 1 q, rfl, (by rw [ht]; exact hP.sub [0] rfl), va_K.moved hW.alike (hK.sub [] rfl), hD.sub [0] (by decide) rfl⟩, hS.F ht⟩) hS.2.2 dX13_integrate_18

theorem dX13_substitute_0 : decode cX13_substitute 0 = .ok (.aload_n 0, 1) := by decide +kernel
theorem dX13_substitute_1 : decode cX13_substitute 1 = .ok (.iconst 0, 1) := by decide +kernel
theorem dX13_substitute_2 : decode cX13_substitute 2 = .ok (.putfield 122, 3) := by decide +kernel
theorem dX13_substitute_5 : decode cX13_substitute 5 = .ok (.aload_n 0, 1) := by decide +kernel
theorem dX13_substitute_6 : decode cX13_substitute 6 = .ok (.iload_n 1, 1) := by decide +kernel
theorem dX13_substitute_7 : decode cX13_substitute 7 = .ok (.iload_n 3, 1) := by decide +kernel
theorem dX13_substitute_8 : decode cX13_substitute 8 = .ok (.invokevirtual 218, 3) := by decide +kernel
theorem dX13_substitute_11 : decode cX13_substitute 11 = .ok (.ifCond .ne 9, 3) := by decide +kernel
theorem dX13_substitute_14 : decode cX13_substitute 14 = .ok (.aload_n 0, 1) := by decide +kernel
theorem dX13_substitute_15 : decode cX13_substitute 15 = .ok (.iconst 1, 1) := by decide +kernel
theorem dX13_substitute_16 : decode cX13_substitute 16 = .ok (.invokevirtual 185, 3) := by decide +kernel
theorem dX13_substitute_19 : decode cX13_substitute 19 = .ok (.ireturn, 1) := by decide +kernel
set_option maxHeartbeats 4000000 in
set_option maxRecDepth 100000 in
/-- substitute on a fresh object: code 1 -/
theorem c_X13_substitute (l : Launch) (hfl : l.stackTraces = false) (D : va_G) (sz : Nat) (h0 : Nat) (q : Nat → Nat) (p0 : Int32) (p1 : Int32) (p2 : Int32) : Met l yX13_substitute (Cond.code yX13_substitute cX13_substitute 9 (some .int) :: pv_W) ({ frames := 3, cells := 0, slots := 0, locals := 65 } : Room) (va_Pc [.ref h0, .int p0, .int p1, .int p2] (pv_P D [] [(h0, .inr (1, pv_m 0 q))] (va_A [(h0, .inr (1, pv_m 0 q))] sz) sz)) (va_Qi (fun r (u : Int32) => u = 1) (fun (u : Int32) t => ∃ fs : List Value, fs[0]? = some (.int u) ∧ va_P D pv_cl [(h0, .inr (1, fs))] t.heap ∧ va_K D pv_cl [] t ∧ va_D (va_A [(h0, .inr (1, pv_m 0 q))] sz) [(h0, .inr (1, fs))]) (va_A [(h0, .inr (1, pv_m 0 q))] sz)) 0 0 (va_A [(h0, .inr (1, pv_m 0 q))] sz) := by
  refine Met.ofW (cc := cX13_substitute) (maxL := 9) (ret := (some .int)) (by decide) rfl ?_
  intro p e s m args below meth c s₁ B hml hv
  obtain ⟨rfl, hsz, hE, hP, hK, hD0⟩ := hv
  have hx := B.exec
  have hb := B.bytes
  have hr := B.returns
  have hts := fun (w : Cond) (h : w ∈ pv_W) => atoms_spec (ws := Cond.code yX13_substitute cX13_substitute 9 (some .int) :: pv_W) B.pre w (List.mem_cons_of_mem _ h)
  have hg := fun {w : Cond} (h : w ∈ lw_tbl) (g : goodWord w = true) => hts w (pv_in h g)
  have hown : s.vm.findClass RX13 = some m.cls := findClass_of_methodNamed B.named
  have hlocks := B.notSynchronized
  subst hsz
  have hD := hD0.self (sz := s.heap.size)
  generalize hAe : va_A [(h0, .inr (1, pv_m 0 q))] s.heap.size = A at hD hE ⊢
  have hA : ∀ q : Nat, s.heap.size ≤ q → A q := fun q h => by rw [← hAe]; exact Or.inr h
  have hS : va_S A s.heap s.heap [] := va_S.rf
  have hP : va_P D pv_cl [(h0, .inr (1, pv_m 0 q))] s.heap := hP
  have hl := lv_entry ([.ref h0, .int p0, .int p1, .int p2]) (n := 9) (Nat.le_of_ble_eq_true rfl)
  rw [lg_entry_eq]
  generalize (lg_sl ([.ref h0, .int p0, .int p1, .int p2]) ++ List.replicate (9 - (lg_sl ([.ref h0, .int p0, .int p1, .int p2])).length) Slot.unset).toArray = ls at hl ⊢
  have hl : lv_has ls 9 [(0, .ref h0), (1, .int p0), (2, .int p1), (3, .int p2)] := hl
  refine lv_aload_n hx hb dX13_substitute_0 rfl (lv_at hl 0 rfl) ?_
  refine lv_iconst (v := 0) hx hb dX13_substitute_1 (by decide) ?_
  refine va_put (own := RX13) (D := D) (ci := 1) (v := .int 0) (ty := .int) (C := RX13) (T := TX13) (N := 45) hx hb hts inF13 tyX13 tyX13_ok nmX13 hown hK hP hD hS 0 rfl rfl 0 (by decide) (hg w8_205 rfl) (fun _ h9 => h9) rfl (by decide +kernel) rfl rfl (Nat.le_of_ble_eq_true rfl) dX13_substitute_2 (fun H locs hP hD hS => ?_)
  have hP : va_P D pv_cl [(h0, .inr (1, pv_m 0 q))] _ := hP
  have hD : va_D A [(h0, .inr (1, pv_m 0 q))] := hD
  refine lv_aload_n hx hb dX13_substitute_5 rfl (lv_at hl 0 rfl) ?_
  refine lv_iload_n hx hb dX13_substitute_6 rfl (lv_at hl 1 rfl) ?_
  refine lv_iload_n hx hb dX13_substitute_7 rfl (lv_at hl 3 rfl) ?_
  have hF := pv_new hA hS.1
  refine va_calli (va_runV (As := [.int p0, .int p2]) (rest := []) ⟨hx, hb, hml, hown, hts⟩ (c_X13_are l hfl D _ h0 q p0 p2) (cwV 2 hts (pv_gV w9_164 w9_166 wp5_12 w1_10 w9_167) rfl rfl rfl (by decide +kernel) ⟨Nat.le_of_ble_eq_true rfl, Nat.le_of_ble_eq_true rfl⟩) (pv_pV hE hS hF (hP.sub [0] rfl) (hK.sub [] rfl) (hD.sub [0] (by decide) rfl) (va_recv (ci := 1) (q0 := 0) hK hP rfl rfl)) rfl rfl hl.1 rfl (lv_room (Nat.le_of_ble_eq_true rfl)) dX13_substitute_8 ⟨Nat.le_of_ble_eq_true rfl, Nat.le_of_ble_eq_true rfl⟩) hS (fun q _ h => hF q h) hF (fun r_0 u t H1 locs1 ht hvm hw hB hz1 hk1 hS => ?_)
  refine W.widen (k := 0) (n := 0) (Nat.le_of_ble_eq_true rfl) (Nat.le_of_ble_eq_true rfl) ?_
  have hP := pv_keep hP rfl hk1
  obtain rfl := hw
  refine lv_if_ne (tgt := 20) hx hb dX13_substitute_11 (by decide) (fun c_2 => absurd (by decide) c_2) (fun _ => ?_)
  refine lv_aload_n hx hb dX13_substitute_14 rfl (lv_at hl 0 rfl) ?_
  refine lv_iconst (v := 1) hx hb dX13_substitute_15 (by decide) ?_
  have hF := va_free (wc := [(h0, .inr (1, pv_m 0 q))]) hD hS hA [0] rfl
  refine va_calli (va_runV (As := [.int 1]) (rest := []) ⟨hx, hb, hml, hown, hts⟩ (c_X13_fails l hfl D _ h0 q 1) (cwV 1 hts (pv_gV w9_113 w9_115 wp5_9 w1_10 w9_116) rfl rfl rfl (by decide +kernel) ⟨Nat.le_of_ble_eq_true rfl, Nat.le_of_ble_eq_true rfl⟩) (pv_pV hE hS hF (hP.sub [0] rfl) (hK.sub [] rfl) (hD.sub [0] (by decide) rfl) (va_recv (ci := 1) (q0 := 0) hK hP rfl rfl)) rfl rfl hl.1 rfl (lv_room (Nat.le_of_ble_eq_true rfl)) dX13_substitute_16 ⟨Nat.le_of_ble_eq_true rfl, Nat.le_of_ble_eq_true rfl⟩) hS (fun q _ h => hF q h) hF (fun r_2 u t H1 locs1 ht hvm hw hB hz1 hk1 hS => ?_)
  refine W.widen (k := 0) (n := 0) (Nat.le_of_ble_eq_true rfl) (Nat.le_of_ble_eq_true rfl) ?_
  obtain rfl := hw
  obtain ⟨hP1, hK1, hD1⟩ := hB
  rw [ht] at hP1
  have hK1 := va_K.moved hvm.symm hK1
  obtain ⟨hP, hD⟩ := va_join (wr := []) (w1 := [(h0, .inr (1, pv_m 1 q))]) hP hD [0] [] rfl rfl (by decide) (by decide) hk1 hF hP1 hD1
  have hP : va_P D pv_cl [(h0, .inr (1, pv_m 1 q))] _ := hP
  have hD : va_D A [(h0, .inr (1, pv_m 1 q))] := hD
  refine W.widen (k := 0) (n := 0) (Nat.le_of_ble_eq_true rfl) (Nat.le_of_ble_eq_true rfl) ?_
  exact W.iret (v := 0) hx hb hr (fun t ht hW => ⟨⟨0, 1, rfl, rfl, pv_m 1 q, rfl, (by rw [ht]; exact hP.sub [0] rfl), va_K.moved hW.alike (hK.sub [] rfl), hD.sub [0] (by decide) rfl⟩, hS.F ht⟩) hS.2.2 dX13_substitute_19

theorem dX13_value_0 : decode cX13_value 0 = .ok (.aload_n 0, 1) := by decide +kernel
theorem dX13_value_1 : decode cX13_value 1 = .ok (.iconst 0, 1) := by decide +kernel
theorem dX13_value_2 : decode cX13_value 2 = .ok (.putfield 122, 3) := by decide +kernel
theorem dX13_value_5 : decode cX13_value 5 = .ok (.aload_n 0, 1) := by decide +kernel
theorem dX13_value_6 : decode cX13_value 6 = .ok (.iload_n 1, 1) := by decide +kernel
theorem dX13_value_7 : decode cX13_value 7 = .ok (.invokevirtual 132, 3) := by decide +kernel
theorem dX13_value_10 : decode cX13_value 10 = .ok (.ifCond .ne 9, 3) := by decide +kernel
theorem dX13_value_13 : decode cX13_value 13 = .ok (.aload_n 0, 1) := by decide +kernel
theorem dX13_value_14 : decode cX13_value 14 = .ok (.iconst 1, 1) := by decide +kernel
theorem dX13_value_15 : decode cX13_value 15 = .ok (.invokevirtual 185, 3) := by decide +kernel
theorem dX13_value_18 : decode cX13_value 18 = .ok (.ireturn, 1) := by decide +kernel
set_option maxHeartbeats 4000000 in
set_option maxRecDepth 100000 in
/-- value on a fresh object: code 1 -/
theorem c_X13_value (l : Launch) (hfl : l.stackTraces = false) (D : va_G) (sz : Nat) (h0 : Nat) (q : Nat → Nat) (p0 : Int32) (p1 : Int32) (p2 : Int32) (p3 : Int32) : Met l yX13_value (Cond.code yX13_value cX13_value 12 (some .int) :: pv_W) ({ frames := 2, cells := 0, slots := 0, locals := 43 } : Room) (va_Pc [.ref h0, .int p0, .int p1, .int p2, .int p3] (pv_P D [] [(h0, .inr (1, pv_m 0 q))] (va_A [(h0, .inr (1, pv_m 0 q))] sz) sz)) (va_Qi (fun r (u : Int32) => u = 1) (fun (u : Int32) t => ∃ fs : List Value, fs[0]? = some (.int u) ∧ va_P D pv_cl [(h0, .inr (1, fs))] t.heap ∧ va_K D pv_cl [] t ∧ va_D (va_A [(h0, .inr (1, pv_m 0 q))] sz) [(h0, .inr (1, fs))]) (va_A [(h0, .inr (1, pv_m 0 q))] sz)) 0 0 (va_A [(h0, .inr (1, pv_m 0 q))] sz) := by
  refine Met.ofW (cc := cX13_value) (maxL := 12) (ret := (some .int)) (by decide) rfl ?_
  intro p e s m args below meth c s₁ B hml hv
  obtain ⟨rfl, hsz, hE, hP, hK, hD0⟩ := hv
  have hx := B.exec
  have hb := B.bytes
  have hr := B.returns
  have hts := fun (w : Cond) (h : w ∈ pv_W) => atoms_spec (ws := Cond.code yX13_value cX13_value 12 (some .int) :: pv_W) B.pre w (List.mem_cons_of_mem _ h)
  have hg := fun {w : Cond} (h : w ∈ lw_tbl) (g : goodWord w = true) => hts w (pv_in h g)
  have hown : s.vm.findClass RX13 = some m.cls := findClass_of_methodNamed B.named
  have hlocks := B.notSynchronized
  subst hsz
  have hD := hD0.self (sz := s.heap.size)
  generalize hAe : va_A [(h0, .inr (1, pv_m 0 q))] s.heap.size = A at hD hE ⊢
  have hA : ∀ q : Nat, s.heap.size ≤ q → A q := fun q h => by rw [← hAe]; exact Or.inr h
  have hS : va_S A s.heap s.heap [] := va_S.rf
  have hP : va_P D pv_cl [(h0, .inr (1, pv_m 0 q))] s.heap := hP
  have hl := lv_entry ([.ref h0, .int p0, .int p1, .int p2, .int p3]) (n := 12) (Nat.le_of_ble_eq_true rfl)
  rw [lg_entry_eq]
  generalize (lg_sl ([.ref h0, .int p0, .int p1, .int p2, .int p3]) ++ List.replicate (12 - (lg_sl ([.ref h0, .int p0, .int p1, .int p2, .int p3])).length) Slot.unset).toArray = ls at hl ⊢
  have hl : lv_has ls 12 [(0, .ref h0), (1, .int p0), (2, .int p1), (3, .int p2), (4, .int p3)] := hl
  refine lv_aload_n hx hb dX13_value_0 rfl (lv_at hl 0 rfl) ?_
  refine lv_iconst (v := 0) hx hb dX13_value_1 (by decide) ?_
  refine va_put (own := RX13) (D := D) (ci := 1) (v := .int 0) (ty := .int) (C := RX13) (T := TX13) (N := 45) hx hb hts inF13 tyX13 tyX13_ok nmX13 hown hK hP hD hS 0 rfl rfl 0 (by decide) (hg w8_205 rfl) (fun _ h9 => h9) rfl (by decide +kernel) rfl rfl (Nat.le_of_ble_eq_true rfl) dX13_value_2 (fun H locs hP hD hS => ?_)
  have hP : va_P D pv_cl [(h0, .inr (1, pv_m 0 q))] _ := hP
  have hD : va_D A [(h0, .inr (1, pv_m 0 q))] := hD
  refine lv_aload_n hx hb dX13_value_5 rfl (lv_at hl 0 rfl) ?_
  refine lv_iload_n hx hb dX13_value_6 rfl (lv_at hl 1 rfl) ?_
  have hF := pv_new hA hS.1
  refine va_calli (va_runV (As := [.int p0]) (rest := []) ⟨hx, hb, hml, hown, hts⟩ (c_X13_is l hfl D _ h0 q p0) (cwV 1 hts (pv_gV w9_168 w9_170 wp5_13 w1_10 w9_171) rfl rfl rfl (by decide +kernel) ⟨Nat.le_of_ble_eq_true rfl, Nat.le_of_ble_eq_true rfl⟩) (pv_pV hE hS hF (hP.sub [0] rfl) (hK.sub [] rfl) (hD.sub [0] (by decide) rfl) (va_recv (ci := 1) (q0 := 0) hK hP rfl rfl)) rfl rfl hl.1 rfl (lv_room (Nat.le_of_ble_eq_true rfl)) dX13_value_7 ⟨Nat.le_of_ble_eq_true rfl, Nat.le_of_ble_eq_true rfl⟩) hS (fun q _ h => hF q h) hF (fun r_0 u t H1 locs1 ht hvm hw hB hz1 hk1 hS => ?_)
  refine W.widen (k := 0) (n := 0) (Nat.le_of_ble_eq_true rfl) (Nat.le_of_ble_eq_true rfl) ?_
  have hP := pv_keep hP rfl hk1
  obtain rfl := hw
  refine lv_if_ne (tgt := 19) hx hb dX13_value_10 (by decide) (fun c_2 => absurd (by decide) c_2) (fun _ => ?_)
  refine lv_aload_n hx hb dX13_value_13 rfl (lv_at hl 0 rfl) ?_
  refine lv_iconst (v := 1) hx hb dX13_value_14 (by decide) ?_
  have hF := va_free (wc := [(h0, .inr (1, pv_m 0 q))]) hD hS hA [0] rfl
  refine va_calli (va_runV (As := [.int 1]) (rest := []) ⟨hx, hb, hml, hown, hts⟩ (c_X13_fails l hfl D _ h0 q 1) (cwV 1 hts (pv_gV w9_113 w9_115 wp5_9 w1_10 w9_116) rfl rfl rfl (by decide +kernel) ⟨Nat.le_of_ble_eq_true rfl, Nat.le_of_ble_eq_true rfl⟩) (pv_pV hE hS hF (hP.sub [0] rfl) (hK.sub [] rfl) (hD.sub [0] (by decide) rfl) (va_recv (ci := 1) (q0 := 0) hK hP rfl rfl)) rfl rfl hl.1 rfl (lv_room (Nat.le_of_ble_eq_true rfl)) dX13_value_15 ⟨Nat.le_of_ble_eq_true rfl, Nat.le_of_ble_eq_true rfl⟩) hS (fun q _ h => hF q h) hF (fun r_2 u t H1 locs1 ht hvm hw hB hz1 hk1 hS => ?_)
  refine W.widen (k := 0) (n := 0) (Nat.le_of_ble_eq_true rfl) (Nat.le_of_ble_eq_true rfl) ?_
  obtain rfl := hw
  obtain ⟨hP1, hK1, hD1⟩ := hB
  rw [ht] at hP1
  have hK1 := va_K.moved hvm.symm hK1
  obtain ⟨hP, hD⟩ := va_join (wr := []) (w1 := [(h0, .inr (1, pv_m 1 q))]) hP hD [0] [] rfl rfl (by decide) (by decide) hk1 hF hP1 hD1
  have hP : va_P D pv_cl [(h0, .inr (1, pv_m 1 q))] _ := hP
  have hD : va_D A [(h0, .inr (1, pv_m 1 q))] := hD
  refine W.widen (k := 0) (n := 0) (Nat.le_of_ble_eq_true rfl) (Nat.le_of_ble_eq_true rfl) ?_
  exact W.iret (v := 0) hx hb hr (fun t ht hW => ⟨⟨0, 1, rfl, rfl, pv_m 1 q, rfl, (by rw [ht]; exact hP.sub [0] rfl), va_K.moved hW.alike (hK.sub [] rfl), hD.sub [0] (by decide) rfl⟩, hS.F ht⟩) hS.2.2 dX13_value_18

theorem dX13_content_0 : decode cX13_content 0 = .ok (.aload_n 0, 1) := by decide +kernel
theorem dX13_content_1 : decode cX13_content 1 = .ok (.aload_n 0, 1) := by decide +kernel
theorem dX13_content_2 : decode cX13_content 2 = .ok (.iload_n 1, 1) := by decide +kernel
theorem dX13_content_3 : decode cX13_content 3 = .ok (.invokevirtual 132, 3) := by decide +kernel
theorem dX13_content_6 : decode cX13_content 6 = .ok (.ifCond .ne 7, 3) := by decide +kernel
theorem dX13_content_9 : decode cX13_content 9 = .ok (.iconst 1, 1) := by decide +kernel
theorem dX13_content_10 : decode cX13_content 10 = .ok (.goto 17, 3) := by decide +kernel
theorem dX13_content_27 : decode cX13_content 27 = .ok (.putfield 122, 3) := by decide +kernel
theorem dX13_content_30 : decode cX13_content 30 = .ok (.aload_n 0, 1) := by decide +kernel
theorem dX13_content_31 : decode cX13_content 31 = .ok (.getfield 122, 3) := by decide +kernel
theorem dX13_content_34 : decode cX13_content 34 = .ok (.ifCond .le 7, 3) := by decide +kernel
theorem dX13_content_37 : decode cX13_content 37 = .ok (.lconst 0, 1) := by decide +kernel
theorem dX13_content_38 : decode cX13_content 38 = .ok (.goto 8, 3) := by decide +kernel
theorem dX13_content_46 : decode cX13_content 46 = .ok (.lreturn, 1) := by decide +kernel
set_option maxHeartbeats 4000000 in
set_option maxRecDepth 100000 in
/-- content on a fresh object: code 1 -/
theorem c_X13_content (l : Launch) (hfl : l.stackTraces = false) (D : va_G) (sz : Nat) (h0 : Nat) (q : Nat → Nat) (p0 : Int32) : Met l yX13_content (Cond.code yX13_content cX13_content 2 (some .long) :: pv_W) ({ frames := 2, cells := 0, slots := 0, locals := 43 } : Room) (va_Pc [.ref h0, .int p0] (pv_P D [] [(h0, .inr (1, pv_m 0 q))] (va_A [(h0, .inr (1, pv_m 0 q))] sz) sz)) (va_Ql (fun r (u : Int32) => u = 1) (fun (u : Int32) t => ∃ fs : List Value, fs[0]? = some (.int u) ∧ va_P D pv_cl [(h0, .inr (1, fs))] t.heap ∧ va_K D pv_cl [] t ∧ va_D (va_A [(h0, .inr (1, pv_m 0 q))] sz) [(h0, .inr (1, fs))]) (va_A [(h0, .inr (1, pv_m 0 q))] sz)) 0 0 (va_A [(h0, .inr (1, pv_m 0 q))] sz) := by
  refine Met.ofW (cc := cX13_content) (maxL := 2) (ret := (some .long)) (by decide) rfl ?_
  intro p e s m args below meth c s₁ B hml hv
  obtain ⟨rfl, hsz, hE, hP, hK, hD0⟩ := hv
  have hx := B.exec
  have hb := B.bytes
  have hr := B.returns
  have hts := fun (w : Cond) (h : w ∈ pv_W) => atoms_spec (ws := Cond.code yX13_content cX13_content 2 (some .long) :: pv_W) B.pre w (List.mem_cons_of_mem _ h)
  have hg := fun {w : Cond} (h : w ∈ lw_tbl) (g : goodWord w = true) => hts w (pv_in h g)
  have hown : s.vm.findClass RX13 = some m.cls := findClass_of_methodNamed B.named
  have hlocks := B.notSynchronized
  subst hsz
  have hD := hD0.self (sz := s.heap.size)
  generalize hAe : va_A [(h0, .inr (1, pv_m 0 q))] s.heap.size = A at hD hE ⊢
  have hA : ∀ q : Nat, s.heap.size ≤ q → A q := fun q h => by rw [← hAe]; exact Or.inr h
  have hS : va_S A s.heap s.heap [] := va_S.rf
  have hP : va_P D pv_cl [(h0, .inr (1, pv_m 0 q))] s.heap := hP
  have hl := lv_entry ([.ref h0, .int p0]) (n := 2) (Nat.le_of_ble_eq_true rfl)
  rw [lg_entry_eq]
  generalize (lg_sl ([.ref h0, .int p0]) ++ List.replicate (2 - (lg_sl ([.ref h0, .int p0])).length) Slot.unset).toArray = ls at hl ⊢
  have hl : lv_has ls 2 [(0, .ref h0), (1, .int p0)] := hl
  refine lv_aload_n hx hb dX13_content_0 rfl (lv_at hl 0 rfl) ?_
  refine lv_aload_n hx hb dX13_content_1 rfl (lv_at hl 0 rfl) ?_
  refine lv_iload_n hx hb dX13_content_2 rfl (lv_at hl 1 rfl) ?_
  have hF := pv_new hA hS.1
  refine va_calli (va_runV (As := [.int p0]) (rest := [.ref h0]) ⟨hx, hb, hml, hown, hts⟩ (c_X13_is l hfl D _ h0 q p0) (cwV 1 hts (pv_gV w9_168 w9_170 wp5_13 w1_10 w9_171) rfl rfl rfl (by decide +kernel) ⟨Nat.le_of_ble_eq_true rfl, Nat.le_of_ble_eq_true rfl⟩) (pv_pV hE hS hF (hP.sub [0] rfl) (hK.sub [] rfl) (hD.sub [0] (by decide) rfl) (va_recv (ci := 1) (q0 := 0) hK hP rfl rfl)) rfl rfl hl.1 rfl (lv_room (Nat.le_of_ble_eq_true rfl)) dX13_content_3 ⟨Nat.le_of_ble_eq_true rfl, Nat.le_of_ble_eq_true rfl⟩) hS (fun q _ h => hF q h) hF (fun r_0 u t H1 locs1 ht hvm hw hB hz1 hk1 hS => ?_)
  refine W.widen (k := 0) (n := 0) (Nat.le_of_ble_eq_true rfl) (Nat.le_of_ble_eq_true rfl) ?_
  have hP := pv_keep hP rfl hk1
  obtain rfl := hw
  refine lv_if_ne (tgt := 13) hx hb dX13_content_6 (by decide) (fun c_2 => absurd (by decide) c_2) (fun _ => ?_)
  refine lv_iconst (v := 1) hx hb dX13_content_9 (by decide) ?_
  refine lv_goto (tgt := 27) hx hb dX13_content_10 (by decide) ?_
  refine va_put (own := RX13) (D := D) (ci := 1) (v := .int 1) (ty := .int) (C := RX13) (T := TX13) (N := 45) hx hb hts inF13 tyX13 tyX13_ok nmX13 hown hK hP hD hS 0 rfl rfl 0 (by decide) (hg w8_205 rfl) (fun _ h9 => h9) rfl (by decide +kernel) rfl rfl (Nat.le_of_ble_eq_true rfl) dX13_content_27 (fun H locs hP hD hS => ?_)
  have hP : va_P D pv_cl [(h0, .inr (1, pv_m 1 q))] _ := hP
  have hD : va_D A [(h0, .inr (1, pv_m 1 q))] := hD
  refine lv_aload_n hx hb dX13_content_30 rfl (lv_at hl 0 rfl) ?_
  refine va_get (own := RX13) (D := D) (ci := 1) (v := .int 1) (C := RX13) (T := TX13) (N := 45) hx hb hts inF13 hown hK hP 0 rfl rfl 0 (by decide) (hg w8_205 rfl) (fun _ h9 => h9) rfl dX13_content_31 ?_
  refine lv_if_le (tgt := 41) hx hb dX13_content_34 (by decide) (fun c_3 => absurd c_3 (by decide)) (fun _ => ?_)
  refine lv_lconst (v := 0) hx hb dX13_content_37 (by decide) ?_
  refine lv_goto (tgt := 46) hx hb dX13_content_38 (by decide) ?_
  refine W.widen (k := 0) (n := 0) (Nat.le_of_ble_eq_true rfl) (Nat.le_of_ble_eq_true rfl) ?_
  exact W.lret (v := 0) hx hb hr (fun t ht hW => ⟨⟨0, 1, rfl, rfl, pv_m 1 q, rfl, (by rw [ht]; exact hP.sub [0] rfl), va_K.moved hW.alike (hK.sub [] rfl), hD.sub [0] (by decide) rfl⟩, hS.F ht⟩) hS.2.2 dX13_content_46

theorem dX13_primitive_0 : decode cX13_primitive 0 = .ok (.aload_n 0, 1) := by decide +kernel
theorem dX13_primitive_1 : decode cX13_primitive 1 = .ok (.iconst 0, 1) := by decide +kernel
theorem dX13_primitive_2 : decode cX13_primitive 2 = .ok (.putfield 122, 3) := by decide +kernel
theorem dX13_primitive_5 : decode cX13_primitive 5 = .ok (.aload_n 0, 1) := by decide +kernel
theorem dX13_primitive_6 : decode cX13_primitive 6 = .ok (.iload_n 1, 1) := by decide +kernel
theorem dX13_primitive_7 : decode cX13_primitive 7 = .ok (.invokevirtual 132, 3) := by decide +kernel
theorem dX13_primitive_10 : decode cX13_primitive 10 = .ok (.ifCond .ne 9, 3) := by decide +kernel
theorem dX13_primitive_13 : decode cX13_primitive 13 = .ok (.aload_n 0, 1) := by decide +kernel
theorem dX13_primitive_14 : decode cX13_primitive 14 = .ok (.iconst 1, 1) := by decide +kernel
theorem dX13_primitive_15 : decode cX13_primitive 15 = .ok (.invokevirtual 185, 3) := by decide +kernel
theorem dX13_primitive_18 : decode cX13_primitive 18 = .ok (.ireturn, 1) := by decide +kernel
set_option maxHeartbeats 4000000 in
set_option maxRecDepth 100000 in
/-- primitive on a fresh object: code 1 -/
theorem c_X13_primitive (l : Launch) (hfl : l.stackTraces = false) (D : va_G) (sz : Nat) (h0 : Nat) (q : Nat → Nat) (p0 : Int32) : Met l yX13_primitive (Cond.code yX13_primitive cX13_primitive 7 (some .int) :: pv_W) ({ frames := 2, cells := 0, slots := 0, locals := 43 } : Room) (va_Pc [.ref h0, .int p0] (pv_P D [] [(h0, .inr (1, pv_m 0 q))] (va_A [(h0, .inr (1, pv_m 0 q))] sz) sz)) (va_Qi (fun r (u : Int32) => u = 1) (fun (u : Int32) t => ∃ fs : List Value, fs[0]? = some (.int u) ∧ va_P D pv_cl [(h0, .inr (1, fs))] t.heap ∧ va_K D pv_cl [] t ∧ va_D (va_A [(h0, .inr (1, pv_m 0 q))] sz) [(h0, .inr (1, fs))]) (va_A [(h0, .inr (1, pv_m 0 q))] sz)) 0 0 (va_A [(h0, .inr (1, pv_m 0 q))] sz) := by
  refine Met.ofW (cc := cX13_primitive) (maxL := 7) (ret := (some .int)) (by decide) rfl ?_
  intro p e s m args below meth c s₁ B hml hv
  obtain ⟨rfl, hsz, hE, hP, hK, hD0⟩ := hv
  have hx := B.exec
  have hb := B.bytes
  have hr := B.returns
  have hts := fun (w : Cond) (h : w ∈ pv_W) => atoms_spec (ws := Cond.code yX13_primitive cX13_primitive 7 (some .int) :: pv_W) B.pre w (List.mem_cons_of_mem _ h)
  have hg := fun {w : Cond} (h : w ∈ lw_tbl) (g : goodWord w = true) => hts w (pv_in h g)
  have hown : s.vm.findClass RX13 = some m.cls := findClass_of_methodNamed B.named
  have hlocks := B.notSynchronized
  subst hsz
  have hD := hD0.self (sz := s.heap.size)
  generalize hAe : va_A [(h0, .inr (1, pv_m 0 q))] s.heap.size = A at hD hE ⊢
  have hA : ∀ q : Nat, s.heap.size ≤ q → A q := fun q h => by rw [← hAe]; exact Or.inr h
  have hS : va_S A s.heap s.heap [] := va_S.rf
  have hP : va_P D pv_cl [(h0, .inr (1, pv_m 0 q))] s.heap := hP
  have hl := lv_entry ([.ref h0, .int p0]) (n := 7) (Nat.le_of_ble_eq_true rfl)
  rw [lg_entry_eq]
  generalize (lg_sl ([.ref h0, .int p0]) ++ List.replicate (7 - (lg_sl ([.ref h0, .int p0])).length) Slot.unset).toArray = ls at hl ⊢
  have hl : lv_has ls 7 [(0, .ref h0), (1, .int p0)] := hl
  refine lv_aload_n hx hb dX13_primitive_0 rfl (lv_at hl 0 rfl) ?_
  refine lv_iconst (v := 0) hx hb dX13_primitive_1 (by decide) ?_
  refine va_put (own := RX13) (D := D) (ci := 1) (v := .int 0) (ty := .int) (C := RX13) (T := TX13) (N := 45) hx hb hts inF13 tyX13 tyX13_ok nmX13 hown hK hP hD hS 0 rfl rfl 0 (by decide) (hg w8_205 rfl) (fun _ h9 => h9) rfl (by decide +kernel) rfl rfl (Nat.le_of_ble_eq_true rfl) dX13_primitive_2 (fun H locs hP hD hS => ?_)
  have hP : va_P D pv_cl [(h0, .inr (1, pv_m 0 q))] _ := hP
  have hD : va_D A [(h0, .inr (1, pv_m 0 q))] := hD
  refine lv_aload_n hx hb dX13_primitive_5 rfl (lv_at hl 0 rfl) ?_
  refine lv_iload_n hx hb dX13_primitive_6 rfl (lv_at hl 1 rfl) ?_
  have hF := pv_new hA hS.1
  refine va_calli (va_runV (As := [.int p0]) (rest := []) ⟨hx, hb, hml, hown, hts⟩ (c_X13_is l hfl D _ h0 q p0) (cwV 1 hts (pv_gV w9_168 w9_170 wp5_13 w1_10 w9_171) rfl rfl rfl (by decide +kernel) ⟨Nat.le_of_ble_eq_true rfl, Nat.le_of_ble_eq_true rfl⟩) (pv_pV hE hS hF (hP.sub [0] rfl) (hK.sub [] rfl) (hD.sub [0] (by decide) rfl) (va_recv (ci := 1) (q0 := 0) hK hP rfl rfl)) rfl rfl hl.1 rfl (lv_room (Nat.le_of_ble_eq_true rfl)) dX13_primitive_7 ⟨Nat.le_of_ble_eq_true rfl, Nat.le_of_ble_eq_true rfl⟩) hS (fun q _ h => hF q h) hF (fun r_0 u t H1 locs1 ht hvm hw hB hz1 hk1 hS => ?_)
  refine W.widen (k := 0) (n := 0) (Nat.le_of_ble_eq_true rfl) (Nat.le_of_ble_eq_true rfl) ?_
  have hP := pv_keep hP rfl hk1
  obtain rfl := hw
  refine lv_if_ne (tgt := 19) hx hb dX13_primitive_10 (by decide) (fun c_2 => absurd (by decide) c_2) (fun _ => ?_)
  refine lv_aload_n hx hb dX13_primitive_13 rfl (lv_at hl 0 rfl) ?_
  refine lv_iconst (v := 1) hx hb dX13_primitive_14 (by decide) ?_
  have hF := va_free (wc := [(h0, .inr (1, pv_m 0 q))]) hD hS hA [0] rfl
  refine va_calli (va_runV (As := [.int 1]) (rest := []) ⟨hx, hb, hml, hown, hts⟩ (c_X13_fails l hfl D _ h0 q 1) (cwV 1 hts (pv_gV w9_113 w9_115 wp5_9 w1_10 w9_116) rfl rfl rfl (by decide +kernel) ⟨Nat.le_of_ble_eq_true rfl, Nat.le_of_ble_eq_true rfl⟩) (pv_pV hE hS hF (hP.sub [0] rfl) (hK.sub [] rfl) (hD.sub [0] (by decide) rfl) (va_recv (ci := 1) (q0 := 0) hK hP rfl rfl)) rfl rfl hl.1 rfl (lv_room (Nat.le_of_ble_eq_true rfl)) dX13_primitive_15 ⟨Nat.le_of_ble_eq_true rfl, Nat.le_of_ble_eq_true rfl⟩) hS (fun q _ h => hF q h) hF (fun r_2 u t H1 locs1 ht hvm hw hB hz1 hk1 hS => ?_)
  refine W.widen (k := 0) (n := 0) (Nat.le_of_ble_eq_true rfl) (Nat.le_of_ble_eq_true rfl) ?_
  obtain rfl := hw
  obtain ⟨hP1, hK1, hD1⟩ := hB
  rw [ht] at hP1
  have hK1 := va_K.moved hvm.symm hK1
  obtain ⟨hP, hD⟩ := va_join (wr := []) (w1 := [(h0, .inr (1, pv_m 1 q))]) hP hD [0] [] rfl rfl (by decide) (by decide) hk1 hF hP1 hD1
  have hP : va_P D pv_cl [(h0, .inr (1, pv_m 1 q))] _ := hP
  have hD : va_D A [(h0, .inr (1, pv_m 1 q))] := hD
  refine W.widen (k := 0) (n := 0) (Nat.le_of_ble_eq_true rfl) (Nat.le_of_ble_eq_true rfl) ?_
  exact W.iret (v := 0) hx hb hr (fun t ht hW => ⟨⟨0, 1, rfl, rfl, pv_m 1 q, rfl, (by rw [ht]; exact hP.sub [0] rfl), va_K.moved hW.alike (hK.sub [] rfl), hD.sub [0] (by decide) rfl⟩, hS.F ht⟩) hS.2.2 dX13_primitive_18

theorem dX13_modulo_0 : decode cX13_modulo 0 = .ok (.aload_n 0, 1) := by decide +kernel
theorem dX13_modulo_1 : decode cX13_modulo 1 = .ok (.iconst 0, 1) := by decide +kernel
theorem dX13_modulo_2 : decode cX13_modulo 2 = .ok (.putfield 122, 3) := by decide +kernel
theorem dX13_modulo_5 : decode cX13_modulo 5 = .ok (.aload_n 0, 1) := by decide +kernel
theorem dX13_modulo_6 : decode cX13_modulo 6 = .ok (.iload_n 1, 1) := by decide +kernel
theorem dX13_modulo_7 : decode cX13_modulo 7 = .ok (.invokevirtual 132, 3) := by decide +kernel
theorem dX13_modulo_10 : decode cX13_modulo 10 = .ok (.ifCond .ne 9, 3) := by decide +kernel
theorem dX13_modulo_13 : decode cX13_modulo 13 = .ok (.aload_n 0, 1) := by decide +kernel
theorem dX13_modulo_14 : decode cX13_modulo 14 = .ok (.iconst 1, 1) := by decide +kernel
theorem dX13_modulo_15 : decode cX13_modulo 15 = .ok (.invokevirtual 185, 3) := by decide +kernel
theorem dX13_modulo_18 : decode cX13_modulo 18 = .ok (.ireturn, 1) := by decide +kernel
set_option maxHeartbeats 4000000 in
set_option maxRecDepth 100000 in
/-- modulo on a fresh object: code 1 -/
theorem c_X13_modulo (l : Launch) (hfl : l.stackTraces = false) (D : va_G) (sz : Nat) (h0 : Nat) (q : Nat → Nat) (p0 : Int32) (p1 : Int32) : Met l yX13_modulo (Cond.code yX13_modulo cX13_modulo 4 (some .int) :: pv_W) ({ frames := 2, cells := 0, slots := 0, locals := 43 } : Room) (va_Pc [.ref h0, .int p0, .int p1] (pv_P D [] [(h0, .inr (1, pv_m 0 q))] (va_A [(h0, .inr (1, pv_m 0 q))] sz) sz)) (va_Qi (fun r (u : Int32) => u = 1) (fun (u : Int32) t => ∃ fs : List Value, fs[0]? = some (.int u) ∧ va_P D pv_cl [(h0, .inr (1, fs))] t.heap ∧ va_K D pv_cl [] t ∧ va_D (va_A [(h0, .inr (1, pv_m 0 q))] sz) [(h0, .inr (1, fs))]) (va_A [(h0, .inr (1, pv_m 0 q))] sz)) 0 0 (va_A [(h0, .inr (1, pv_m 0 q))] sz) := by
  refine Met.ofW (cc := cX13_modulo) (maxL := 4) (ret := (some .int)) (by decide) rfl ?_
  intro p e s m args below meth c s₁ B hml hv
  obtain ⟨rfl, hsz, hE, hP, hK, hD0⟩ := hv
  have hx := B.exec
  have hb := B.bytes
  have hr := B.returns
  have hts := fun (w : Cond) (h : w ∈ pv_W) => atoms_spec (ws := Cond.code yX13_modulo cX13_modulo 4 (some .int) :: pv_W) B.pre w (List.mem_cons_of_mem _ h)
  have hg := fun {w : Cond} (h : w ∈ lw_tbl) (g : goodWord w = true) => hts w (pv_in h g)
  have hown : s.vm.findClass RX13 = some m.cls := findClass_of_methodNamed B.named
  have hlocks := B.notSynchronized
  subst hsz
  have hD := hD0.self (sz := s.heap.size)
  generalize hAe : va_A [(h0, .inr (1, pv_m 0 q))] s.heap.size = A at hD hE ⊢
  have hA : ∀ q : Nat, s.heap.size ≤ q → A q := fun q h => by rw [← hAe]; exact Or.inr h
  have hS : va_S A s.heap s.heap [] := va_S.rf
  have hP : va_P D pv_cl [(h0, .inr (1, pv_m 0 q))] s.heap := hP
  have hl := lv_entry ([.ref h0, .int p0, .int p1]) (n := 4) (Nat.le_of_ble_eq_true rfl)
  rw [lg_entry_eq]
  generalize (lg_sl ([.ref h0, .int p0, .int p1]) ++ List.replicate (4 - (lg_sl ([.ref h0, .int p0, .int p1])).length) Slot.unset).toArray = ls at hl ⊢
  have hl : lv_has ls 4 [(0, .ref h0), (1, .int p0), (2, .int p1)] := hl
  refine lv_aload_n hx hb dX13_modulo_0 rfl (lv_at hl 0 rfl) ?_
  refine lv_iconst (v := 0) hx hb dX13_modulo_1 (by decide) ?_
  refine va_put (own := RX13) (D := D) (ci := 1) (v := .int 0) (ty := .int) (C := RX13) (T := TX13) (N := 45) hx hb hts inF13 tyX13 tyX13_ok nmX13 hown hK hP hD hS 0 rfl rfl 0 (by decide) (hg w8_205 rfl) (fun _ h9 => h9) rfl (by decide +kernel) rfl rfl (Nat.le_of_ble_eq_true rfl) dX13_modulo_2 (fun H locs hP hD hS => ?_)
  have hP : va_P D pv_cl [(h0, .inr (1, pv_m 0 q))] _ := hP
  have hD : va_D A [(h0, .inr (1, pv_m 0 q))] := hD
  refine lv_aload_n hx hb dX13_modulo_5 rfl (lv_at hl 0 rfl) ?_
  refine lv_iload_n hx hb dX13_modulo_6 rfl (lv_at hl 1 rfl) ?_
  have hF := pv_new hA hS.1
  refine va_calli (va_runV (As := [.int p0]) (rest := []) ⟨hx, hb, hml, hown, hts⟩ (c_X13_is l hfl D _ h0 q p0) (cwV 1 hts (pv_gV w9_168 w9_170 wp5_13 w1_10 w9_171) rfl rfl rfl (by decide +kernel) ⟨Nat.le_of_ble_eq_true rfl, Nat.le_of_ble_eq_true rfl⟩) (pv_pV hE hS hF (hP.sub [0] rfl) (hK.sub [] rfl) (hD.sub [0] (by decide) rfl) (va_recv (ci := 1) (q0 := 0) hK hP rfl rfl)) rfl rfl hl.1 rfl (lv_room (Nat.le_of_ble_eq_true rfl)) dX13_modulo_7 ⟨Nat.le_of_ble_eq_true rfl, Nat.le_of_ble_eq_true rfl⟩) hS (fun q _ h => hF q h) hF (fun r_0 u t H1 locs1 ht hvm hw hB hz1 hk1 hS => ?_)
  refine W.widen (k := 0) (n := 0) (Nat.le_of_ble_eq_true rfl) (Nat.le_of_ble_eq_true rfl) ?_
  have hP := pv_keep hP rfl hk1
  obtain rfl := hw
  refine lv_if_ne (tgt := 19) hx hb dX13_modulo_10 (by decide) (fun c_2 => absurd (by decide) c_2) (fun _ => ?_)
  refine lv_aload_n hx hb dX13_modulo_13 rfl (lv_at hl 0 rfl) ?_
  refine lv_iconst (v := 1) hx hb dX13_modulo_14 (by decide) ?_
  have hF := va_free (wc := [(h0, .inr (1, pv_m 0 q))]) hD hS hA [0] rfl
  refine va_calli (va_runV (As := [.int 1]) (rest := []) ⟨hx, hb, hml, hown, hts⟩ (c_X13_fails l hfl D _ h0 q 1) (cwV 1 hts (pv_gV w9_113 w9_115 wp5_9 w1_10 w9_116) rfl rfl rfl (by decide +kernel) ⟨Nat.le_of_ble_eq_true rfl, Nat.le_of_ble_eq_true rfl⟩) (pv_pV hE hS hF (hP.sub [0] rfl) (hK.sub [] rfl) (hD.sub [0] (by decide) rfl) (va_recv (ci := 1) (q0 := 0) hK hP rfl rfl)) rfl rfl hl.1 rfl (lv_room (Nat.le_of_ble_eq_true rfl)) dX13_modulo_15 ⟨Nat.le_of_ble_eq_true rfl, Nat.le_of_ble_eq_true rfl⟩) hS (fun q _ h => hF q h) hF (fun r_2 u t H1 locs1 ht hvm hw hB hz1 hk1 hS => ?_)
  refine W.widen (k := 0) (n := 0) (Nat.le_of_ble_eq_true rfl) (Nat.le_of_ble_eq_true rfl) ?_
  obtain rfl := hw
  obtain ⟨hP1, hK1, hD1⟩ := hB
  rw [ht] at hP1
  have hK1 := va_K.moved hvm.symm hK1
  obtain ⟨hP, hD⟩ := va_join (wr := []) (w1 := [(h0, .inr (1, pv_m 1 q))]) hP hD [0] [] rfl rfl (by decide) (by decide) hk1 hF hP1 hD1
  have hP : va_P D pv_cl [(h0, .inr (1, pv_m 1 q))] _ := hP
  have hD : va_D A [(h0, .inr (1, pv_m 1 q))] := hD
  refine W.widen (k := 0) (n := 0) (Nat.le_of_ble_eq_true rfl) (Nat.le_of_ble_eq_true rfl) ?_
  exact W.iret (v := 0) hx hb hr (fun t ht hW => ⟨⟨0, 1, rfl, rfl, pv_m 1 q, rfl, (by rw [ht]; exact hP.sub [0] rfl), va_K.moved hW.alike (hK.sub [] rfl), hD.sub [0] (by decide) rfl⟩, hS.F ht⟩) hS.2.2 dX13_modulo_18

theorem dX13_quotient_0 : decode cX13_quotient 0 = .ok (.aload_n 0, 1) := by decide +kernel
theorem dX13_quotient_1 : decode cX13_quotient 1 = .ok (.iload_n 1, 1) := by decide +kernel
theorem dX13_quotient_2 : decode cX13_quotient 2 = .ok (.iload_n 2, 1) := by decide +kernel
theorem dX13_quotient_3 : decode cX13_quotient 3 = .ok (.iconst 1, 1) := by decide +kernel
theorem dX13_quotient_4 : decode cX13_quotient 4 = .ok (.invokevirtual 303, 3) := by decide +kernel
theorem w10_82 : (Jvm.Cond.methodLink "PolyforgeModel" (303 : Nat) ({ cls := "PolyforgeModel", name := "divided", desc := "(IIZ)I" } : Jvm.MethodName)) ∈ lw_tbl := pv_t10 (pv_mg 82 rfl)
theorem w10_85 : (Jvm.Cond.code ({ cls := "PolyforgeModel", name := "divided", desc := "(IIZ)I" } : Jvm.MethodName) prog_14_method_67_code (4 : Nat) (Option.some Jvm.ClassFile.FieldType.int)) ∈ lw_tbl := pv_t10 (pv_mg 85 rfl)
theorem wp6_7 : Cond.selects "PolyforgeModel" ⟨"PolyforgeModel", "divided", "(IIZ)I"⟩ ⟨"PolyforgeModel", "divided", "(IIZ)I"⟩ ∈ lw_tbl := pv_mg 87 rfl
theorem w10_84 : (Jvm.Cond.instanceMethod ({ cls := "PolyforgeModel", name := "divided", desc := "(IIZ)I" } : Jvm.MethodName)) ∈ lw_tbl := pv_t10 (pv_mg 84 rfl)
theorem dX13_quotient_7 : decode cX13_quotient 7 = .ok (.ireturn, 1) := by decide +kernel
set_option maxHeartbeats 4000000 in
set_option maxRecDepth 100000 in
/-- quotient on a fresh object: code 1 -/
theorem c_X13_quotient (l : Launch) (hfl : l.stackTraces = false) (D : va_G) (sz : Nat) (h0 : Nat) (q : Nat → Nat) (p0 : Int32) (p1 : Int32) : Met l yX13_quotient (Cond.code yX13_quotient cX13_quotient 3 (some .int) :: pv_W) ({ frames := 4, cells := 0, slots := 0, locals := 88 } : Room) (va_Pc [.ref h0, .int p0, .int p1] (pv_P D [] [(h0, .inr (1, pv_m 0 q))] (va_A [(h0, .inr (1, pv_m 0 q))] sz) sz)) (va_Qi (fun r (u : Int32) => u = 1) (fun (u : Int32) t => ∃ fs : List Value, fs[0]? = some (.int u) ∧ va_P D pv_cl [(h0, .inr (1, fs))] t.heap ∧ va_K D pv_cl [] t ∧ va_D (va_A [(h0, .inr (1, pv_m 0 q))] sz) [(h0, .inr (1, fs))]) (va_A [(h0, .inr (1, pv_m 0 q))] sz)) 0 0 (va_A [(h0, .inr (1, pv_m 0 q))] sz) := by
  refine Met.ofW (cc := cX13_quotient) (maxL := 3) (ret := (some .int)) (by decide) rfl ?_
  intro p e s m args below meth c s₁ B hml hv
  obtain ⟨rfl, hsz, hE, hP, hK, hD0⟩ := hv
  have hx := B.exec
  have hb := B.bytes
  have hr := B.returns
  have hts := fun (w : Cond) (h : w ∈ pv_W) => atoms_spec (ws := Cond.code yX13_quotient cX13_quotient 3 (some .int) :: pv_W) B.pre w (List.mem_cons_of_mem _ h)
  have hg := fun {w : Cond} (h : w ∈ lw_tbl) (g : goodWord w = true) => hts w (pv_in h g)
  have hown : s.vm.findClass RX13 = some m.cls := findClass_of_methodNamed B.named
  have hlocks := B.notSynchronized
  subst hsz
  have hD := hD0.self (sz := s.heap.size)
  generalize hAe : va_A [(h0, .inr (1, pv_m 0 q))] s.heap.size = A at hD hE ⊢
  have hA : ∀ q : Nat, s.heap.size ≤ q → A q := fun q h => by rw [← hAe]; exact Or.inr h
  have hS : va_S A s.heap s.heap [] := va_S.rf
  have hP : va_P D pv_cl [(h0, .inr (1, pv_m 0 q))] s.heap := hP
  have hl := lv_entry ([.ref h0, .int p0, .int p1]) (n := 3) (Nat.le_of_ble_eq_true rfl)
  rw [lg_entry_eq]
  generalize (lg_sl ([.ref h0, .int p0, .int p1]) ++ List.replicate (3 - (lg_sl ([.ref h0, .int p0, .int p1])).length) Slot.unset).toArray = ls at hl ⊢
  have hl : lv_has ls 3 [(0, .ref h0), (1, .int p0), (2, .int p1)] := hl
  refine lv_aload_n hx hb dX13_quotient_0 rfl (lv_at hl 0 rfl) ?_
  refine lv_iload_n hx hb dX13_quotient_1 rfl (lv_at hl 1 rfl) ?_
  refine lv_iload_n hx hb dX13_quotient_2 rfl (lv_at hl 2 rfl) ?_
  refine lv_iconst (v := 1) hx hb dX13_quotient_3 (by decide) ?_
  have hF := va_free (wc := [(h0, .inr (1, pv_m 0 q))]) hD hS hA [0] rfl
  refine va_calli (va_runV (As := [.int p0, .int p1, .int 1]) (rest := []) ⟨hx, hb, hml, hown, hts⟩ (c_X13_divided l hfl D _ h0 q p0 p1 1) (cwV 3 hts (pv_gV w10_82 w10_84 wp6_7 w1_10 w10_85) rfl rfl rfl (by decide +kernel) ⟨Nat.le_of_ble_eq_true rfl, Nat.le_of_ble_eq_true rfl⟩) (pv_pV hE hS hF (hP.sub [0] rfl) (hK.sub [] rfl) (hD.sub [0] (by decide) rfl) (va_recv (ci := 1) (q0 := 0) hK hP rfl rfl)) rfl rfl hl.1 rfl (lv_room (Nat.le_of_ble_eq_true rfl)) dX13_quotient_4 ⟨Nat.le_of_ble_eq_true rfl, Nat.le_of_ble_eq_true rfl⟩) hS (fun q _ h => hF q h) hF (fun r_0 u t H1 locs1 ht hvm hw hB hz1 hk1 hS => ?_)
  refine W.widen (k := 0) (n := 0) (Nat.le_of_ble_eq_true rfl) (Nat.le_of_ble_eq_true rfl) ?_
  subst hw
  obtain ⟨fs_2, hf_3, hP1, hK1, hD1⟩ := hB
  rw [ht] at hP1
  have hK1 := va_K.moved hvm.symm hK1
  obtain ⟨hP, hD⟩ := va_join (wr := []) (w1 := [(h0, .inr (1, fs_2))]) hP hD [0] [] rfl rfl (by decide) (by decide) hk1 hF hP1 hD1
  have hP : va_P D pv_cl [(h0, .inr (1, fs_2))] _ := hP
  have hD : va_D A [(h0, .inr (1, fs_2))] := hD
  refine W.widen (k := 0) (n := 0) (Nat.le_of_ble_eq_true rfl) (Nat.le_of_ble_eq_true rfl) ?_
  exact W.iret (v := r_0) hx hb hr (fun t ht hW => ⟨⟨r_0, 1, rfl, rfl, fs_2, hf_3, (by rw [ht]; exact hP.sub [0] rfl), va_K.moved hW.alike (hK.sub [] rfl), hD.sub [0] (by decide) rfl⟩, hS.F ht⟩) hS.2.2 dX13_quotient_7

theorem dX13_remainder_0 : decode cX13_remainder 0 = .ok (.aload_n 0, 1) := by decide +kernel
theorem dX13_remainder_1 : decode cX13_remainder 1 = .ok (.iload_n 1, 1) := by decide +kernel
theorem dX13_remainder_2 : decode cX13_remainder 2 = .ok (.iload_n 2, 1) := by decide +kernel
theorem dX13_remainder_3 : decode cX13_remainder 3 = .ok (.iconst 0, 1) := by decide +kernel
theorem dX13_remainder_4 : decode cX13_remainder 4 = .ok (.invokevirtual 303, 3) := by decide +kernel
theorem dX13_remainder_7 : decode cX13_remainder 7 = .ok (.ireturn, 1) := by decide +kernel
set_option maxHeartbeats 4000000 in
set_option maxRecDepth 100000 in
/-- remainder on a fresh object: code 1 -/
theorem c_X13_remainder (l : Launch) (hfl : l.stackTraces = false) (D : va_G) (sz : Nat) (h0 : Nat) (q : Nat → Nat) (p0 : Int32) (p1 : Int32) : Met l yX13_remainder (Cond.code yX13_remainder cX13_remainder 3 (some .int) :: pv_W) ({ frames := 4, cells := 0, slots := 0, locals := 88 } : Room) (va_Pc [.ref h0, .int p0, .int p1] (pv_P D [] [(h0, .inr (1, pv_m 0 q))] (va_A [(h0, .inr (1, pv_m 0 q))] sz) sz)) (va_Qi (fun r (u : Int32) => u = 1) (fun (u : Int32) t => ∃ fs : List Value, fs[0]? = some (.int u) ∧ va_P D pv_cl [(h0, .inr (1, fs))] t.heap ∧ va_K D pv_cl [] t ∧ va_D (va_A [(h0, .inr (1, pv_m 0 q))] sz) [(h0, .inr (1, fs))]) (va_A [(h0, .inr (1, pv_m 0 q))] sz)) 0 0 (va_A [(h0, .inr (1, pv_m 0 q))] sz) := by
  refine Met.ofW (cc := cX13_remainder) (maxL := 3) (ret := (some .int)) (by decide) rfl ?_
  intro p e s m args below meth c s₁ B hml hv
  obtain ⟨rfl, hsz, hE, hP, hK, hD0⟩ := hv
  have hx := B.exec
  have hb := B.bytes
  have hr := B.returns
  have hts := fun (w : Cond) (h : w ∈ pv_W) => atoms_spec (ws := Cond.code yX13_remainder cX13_remainder 3 (some .int) :: pv_W) B.pre w (List.mem_cons_of_mem _ h)
  have hg := fun {w : Cond} (h : w ∈ lw_tbl) (g : goodWord w = true) => hts w (pv_in h g)
  have hown : s.vm.findClass RX13 = some m.cls := findClass_of_methodNamed B.named
  have hlocks := B.notSynchronized
  subst hsz
  have hD := hD0.self (sz := s.heap.size)
  generalize hAe : va_A [(h0, .inr (1, pv_m 0 q))] s.heap.size = A at hD hE ⊢
  have hA : ∀ q : Nat, s.heap.size ≤ q → A q := fun q h => by rw [← hAe]; exact Or.inr h
  have hS : va_S A s.heap s.heap [] := va_S.rf
  have hP : va_P D pv_cl [(h0, .inr (1, pv_m 0 q))] s.heap := hP
  have hl := lv_entry ([.ref h0, .int p0, .int p1]) (n := 3) (Nat.le_of_ble_eq_true rfl)
  rw [lg_entry_eq]
  generalize (lg_sl ([.ref h0, .int p0, .int p1]) ++ List.replicate (3 - (lg_sl ([.ref h0, .int p0, .int p1])).length) Slot.unset).toArray = ls at hl ⊢
  have hl : lv_has ls 3 [(0, .ref h0), (1, .int p0), (2, .int p1)] := hl
  refine lv_aload_n hx hb dX13_remainder_0 rfl (lv_at hl 0 rfl) ?_
  refine lv_iload_n hx hb dX13_remainder_1 rfl (lv_at hl 1 rfl) ?_
  refine lv_iload_n hx hb dX13_remainder_2 rfl (lv_at hl 2 rfl) ?_
  refine lv_iconst (v := 0) hx hb dX13_remainder_3 (by decide) ?_
  have hF := va_free (wc := [(h0, .inr (1, pv_m 0 q))]) hD hS hA [0] rfl
  refine va_calli (va_runV (As := [.int p0, .int p1, .int 0]) (rest := []) ⟨hx, hb, hml, hown, hts⟩ (c_X13_divided l hfl D _ h0 q p0 p1 0) (cwV 3 hts (pv_gV w10_82 w10_84 wp6_7 w1_10 w10_85) rfl rfl rfl (by decide +kernel) ⟨Nat.le_of_ble_eq_true rfl, Nat.le_of_ble_eq_true rfl⟩) (pv_pV hE hS hF (hP.sub [0] rfl) (hK.sub [] rfl) (hD.sub [0] (by decide) rfl) (va_recv (ci := 1) (q0 := 0) hK hP rfl rfl)) rfl rfl hl.1 rfl (lv_room (Nat.le_of_ble_eq_true rfl)) dX13_remainder_4 ⟨Nat.le_of_ble_eq_true rfl, Nat.le_of_ble_eq_true rfl⟩) hS (fun q _ h => hF q h) hF (fun r_0 u t H1 locs1 ht hvm hw hB hz1 hk1 hS => ?_)
  refine W.widen (k := 0) (n := 0) (Nat.le_of_ble_eq_true rfl) (Nat.le_of_ble_eq_true rfl) ?_
  subst hw
  obtain ⟨fs_2, hf_3, hP1, hK1, hD1⟩ := hB
  rw [ht] at hP1
  have hK1 := va_K.moved hvm.symm hK1
  obtain ⟨hP, hD⟩ := va_join (wr := []) (w1 := [(h0, .inr (1, fs_2))]) hP hD [0] [] rfl rfl (by decide) (by decide) hk1 hF hP1 hD1
  have hP : va_P D pv_cl [(h0, .inr (1, fs_2))] _ := hP
  have hD : va_D A [(h0, .inr (1, fs_2))] := hD
  refine W.widen (k := 0) (n := 0) (Nat.le_of_ble_eq_true rfl) (Nat.le_of_ble_eq_true rfl) ?_
  exact W.iret (v := r_0) hx hb hr (fun t ht hW => ⟨⟨r_0, 1, rfl, rfl, fs_2, hf_3, (by rw [ht]; exact hP.sub [0] rfl), va_K.moved hW.alike (hK.sub [] rfl), hD.sub [0] (by decide) rfl⟩, hS.F ht⟩) hS.2.2 dX13_remainder_7

theorem dX13_divisor_0 : decode cX13_divisor 0 = .ok (.aload_n 0, 1) := by decide +kernel
theorem dX13_divisor_1 : decode cX13_divisor 1 = .ok (.iconst 0, 1) := by decide +kernel
theorem dX13_divisor_2 : decode cX13_divisor 2 = .ok (.putfield 122, 3) := by decide +kernel
theorem dX13_divisor_5 : decode cX13_divisor 5 = .ok (.aload_n 0, 1) := by decide +kernel
theorem dX13_divisor_6 : decode cX13_divisor 6 = .ok (.iload_n 1, 1) := by decide +kernel
theorem dX13_divisor_7 : decode cX13_divisor 7 = .ok (.iload_n 2, 1) := by decide +kernel
theorem dX13_divisor_8 : decode cX13_divisor 8 = .ok (.invokevirtual 218, 3) := by decide +kernel
theorem dX13_divisor_11 : decode cX13_divisor 11 = .ok (.ifCond .ne 9, 3) := by decide +kernel
theorem dX13_divisor_14 : decode cX13_divisor 14 = .ok (.aload_n 0, 1) := by decide +kernel
theorem dX13_divisor_15 : decode cX13_divisor 15 = .ok (.iconst 1, 1) := by decide +kernel
theorem dX13_divisor_16 : decode cX13_divisor 16 = .ok (.invokevirtual 185, 3) := by decide +kernel
theorem dX13_divisor_19 : decode cX13_divisor 19 = .ok (.ireturn, 1) := by decide +kernel
set_option maxHeartbeats 4000000 in
set_option maxRecDepth 100000 in
/-- divisor on a fresh object: code 1 -/
theorem c_X13_divisor (l : Launch) (hfl : l.stackTraces = false) (D : va_G) (sz : Nat) (h0 : Nat) (q : Nat → Nat) (p0 : Int32) (p1 : Int32) : Met l yX13_divisor (Cond.code yX13_divisor cX13_divisor 6 (some .int) :: pv_W) ({ frames := 3, cells := 0, slots := 0, locals := 65 } : Room) (va_Pc [.ref h0, .int p0, .int p1] (pv_P D [] [(h0, .inr (1, pv_m 0 q))] (va_A [(h0, .inr (1, pv_m 0 q))] sz) sz)) (va_Qi (fun r (u : Int32) => u = 1) (fun (u : Int32) t => ∃ fs : List Value, fs[0]? = some (.int u) ∧ va_P D pv_cl [(h0, .inr (1, fs))] t.heap ∧ va_K D pv_cl [] t ∧ va_D (va_A [(h0, .inr (1, pv_m 0 q))] sz) [(h0, .inr (1, fs))]) (va_A [(h0, .inr (1, pv_m 0 q))] sz)) 0 0 (va_A [(h0, .inr (1, pv_m 0 q))] sz) := by
  refine Met.ofW (cc := cX13_divisor) (maxL := 6) (ret := (some .int)) (by decide) rfl ?_
  intro p e s m args below meth c s₁ B hml hv
  obtain ⟨rfl, hsz, hE, hP, hK, hD0⟩ := hv
  have hx := B.exec
  have hb := B.bytes
  have hr := B.returns
  have hts := fun (w : Cond) (h : w ∈ pv_W) => atoms_spec (ws := Cond.code yX13_divisor cX13_divisor 6 (some .int) :: pv_W) B.pre w (List.mem_cons_of_mem _ h)
  have hg := fun {w : Cond} (h : w ∈ lw_tbl) (g : goodWord w = true) => hts w (pv_in h g)
  have hown : s.vm.findClass RX13 = some m.cls := findClass_of_methodNamed B.named
  have hlocks := B.notSynchronized
  subst hsz
  have hD := hD0.self (sz := s.heap.size)
  generalize hAe : va_A [(h0, .inr (1, pv_m 0 q))] s.heap.size = A at hD hE ⊢
  have hA : ∀ q : Nat, s.heap.size ≤ q → A q := fun q h => by rw [← hAe]; exact Or.inr h
  have hS : va_S A s.heap s.heap [] := va_S.rf
  have hP : va_P D pv_cl [(h0, .inr (1, pv_m 0 q))] s.heap := hP
  have hl := lv_entry ([.ref h0, .int p0, .int p1]) (n := 6) (Nat.le_of_ble_eq_true rfl)
  rw [lg_entry_eq]
  generalize (lg_sl ([.ref h0, .int p0, .int p1]) ++ List.replicate (6 - (lg_sl ([.ref h0, .int p0, .int p1])).length) Slot.unset).toArray = ls at hl ⊢
  have hl : lv_has ls 6 [(0, .ref h0), (1, .int p0), (2, .int p1)] := hl
  refine lv_aload_n hx hb dX13_divisor_0 rfl (lv_at hl 0 rfl) ?_
  refine lv_iconst (v := 0) hx hb dX13_divisor_1 (by decide) ?_
  refine va_put (own := RX13) (D := D) (ci := 1) (v := .int 0) (ty := .int) (C := RX13) (T := TX13) (N := 45) hx hb hts inF13 tyX13 tyX13_ok nmX13 hown hK hP hD hS 0 rfl rfl 0 (by decide) (hg w8_205 rfl) (fun _ h9 => h9) rfl (by decide +kernel) rfl rfl (Nat.le_of_ble_eq_true rfl) dX13_divisor_2 (fun H locs hP hD hS => ?_)
  have hP : va_P D pv_cl [(h0, .inr (1, pv_m 0 q))] _ := hP
  have hD : va_D A [(h0, .inr (1, pv_m 0 q))] := hD
  refine lv_aload_n hx hb dX13_divisor_5 rfl (lv_at hl 0 rfl) ?_
  refine lv_iload_n hx hb dX13_divisor_6 rfl (lv_at hl 1 rfl) ?_
  refine lv_iload_n hx hb dX13_divisor_7 rfl (lv_at hl 2 rfl) ?_
  have hF := pv_new hA hS.1
  refine va_calli (va_runV (As := [.int p0, .int p1]) (rest := []) ⟨hx, hb, hml, hown, hts⟩ (c_X13_are l hfl D _ h0 q p0 p1) (cwV 2 hts (pv_gV w9_164 w9_166 wp5_12 w1_10 w9_167) rfl rfl rfl (by decide +kernel) ⟨Nat.le_of_ble_eq_true rfl, Nat.le_of_ble_eq_true rfl⟩) (pv_pV hE hS hF (hP.sub [0] rfl) (hK.sub [] rfl) (hD.sub [0] (by decide) rfl) (va_recv (ci := 1) (q0 := 0) hK hP rfl rfl)) rfl rfl hl.1 rfl (lv_room (Nat.le_of_ble_eq_true rfl)) dX13_divisor_8 ⟨Nat.le_of_ble_eq_true rfl, Nat.le_of_ble_eq_true rfl⟩) hS (fun q _ h => hF q h) hF (fun r_0 u t H1 locs1 ht hvm hw hB hz1 hk1 hS => ?_)
  refine W.widen (k := 0) (n := 0) (Nat.le_of_ble_eq_true rfl) (Nat.le_of_ble_eq_true rfl) ?_
  have hP := pv_keep hP rfl hk1
  obtain rfl := hw
  refine lv_if_ne (tgt := 20) hx hb dX13_divisor_11 (by decide) (fun c_2 => absurd (by decide) c_2) (fun _ => ?_)
  refine lv_aload_n hx hb dX13_divisor_14 rfl (lv_at hl 0 rfl) ?_
  refine lv_iconst (v := 1) hx hb dX13_divisor_15 (by decide) ?_
  have hF := va_free (wc := [(h0, .inr (1, pv_m 0 q))]) hD hS hA [0] rfl
  refine va_calli (va_runV (As := [.int 1]) (rest := []) ⟨hx, hb, hml, hown, hts⟩ (c_X13_fails l hfl D _ h0 q 1) (cwV 1 hts (pv_gV w9_113 w9_115 wp5_9 w1_10 w9_116) rfl rfl rfl (by decide +kernel) ⟨Nat.le_of_ble_eq_true rfl, Nat.le_of_ble_eq_true rfl⟩) (pv_pV hE hS hF (hP.sub [0] rfl) (hK.sub [] rfl) (hD.sub [0] (by decide) rfl) (va_recv (ci := 1) (q0 := 0) hK hP rfl rfl)) rfl rfl hl.1 rfl (lv_room (Nat.le_of_ble_eq_true rfl)) dX13_divisor_16 ⟨Nat.le_of_ble_eq_true rfl, Nat.le_of_ble_eq_true rfl⟩) hS (fun q _ h => hF q h) hF (fun r_2 u t H1 locs1 ht hvm hw hB hz1 hk1 hS => ?_)
  refine W.widen (k := 0) (n := 0) (Nat.le_of_ble_eq_true rfl) (Nat.le_of_ble_eq_true rfl) ?_
  obtain rfl := hw
  obtain ⟨hP1, hK1, hD1⟩ := hB
  rw [ht] at hP1
  have hK1 := va_K.moved hvm.symm hK1
  obtain ⟨hP, hD⟩ := va_join (wr := []) (w1 := [(h0, .inr (1, pv_m 1 q))]) hP hD [0] [] rfl rfl (by decide) (by decide) hk1 hF hP1 hD1
  have hP : va_P D pv_cl [(h0, .inr (1, pv_m 1 q))] _ := hP
  have hD : va_D A [(h0, .inr (1, pv_m 1 q))] := hD
  refine W.widen (k := 0) (n := 0) (Nat.le_of_ble_eq_true rfl) (Nat.le_of_ble_eq_true rfl) ?_
  exact W.iret (v := 0) hx hb hr (fun t ht hW => ⟨⟨0, 1, rfl, rfl, pv_m 1 q, rfl, (by rw [ht]; exact hP.sub [0] rfl), va_K.moved hW.alike (hK.sub [] rfl), hD.sub [0] (by decide) rfl⟩, hS.F ht⟩) hS.2.2 dX13_divisor_19

theorem dX13_factorAt_0 : decode cX13_factorAt 0 = .ok (.aload_n 0, 1) := by decide +kernel
theorem dX13_factorAt_1 : decode cX13_factorAt 1 = .ok (.iload_n 1, 1) := by decide +kernel
theorem dX13_factorAt_2 : decode cX13_factorAt 2 = .ok (.invokevirtual 331, 3) := by decide +kernel
theorem w10_149 : (Jvm.Cond.methodLink "PolyforgeModel" (331 : Nat) ({ cls := "PolyforgeModel", name := "factors", desc := "(I)I" } : Jvm.MethodName)) ∈ lw_tbl := pv_t10 (pv_mg 149 rfl)
theorem w10_126 : (Jvm.Cond.code ({ cls := "PolyforgeModel", name := "factors", desc := "(I)I" } : Jvm.MethodName) prog_14_method_75_code (2 : Nat) (Option.some Jvm.ClassFile.FieldType.int)) ∈ lw_tbl := pv_t10 (pv_mg 126 rfl)
theorem w10_125 : (Jvm.Cond.selects "PolyforgeModel" ({ cls := "PolyforgeModel", name := "factors", desc := "(I)I" } : Jvm.MethodName) ({ cls := "PolyforgeModel", name := "factors", desc := "(I)I" } : Jvm.MethodName)) ∈ lw_tbl := pv_t10 (pv_mg 125 rfl)
theorem w10_124 : (Jvm.Cond.instanceMethod ({ cls := "PolyforgeModel", name := "factors", desc := "(I)I" } : Jvm.MethodName)) ∈ lw_tbl := pv_t10 (pv_mg 124 rfl)
theorem dX13_factorAt_5 : decode cX13_factorAt 5 = .ok (.istore_n 3, 1) := by decide +kernel
theorem dX13_factorAt_6 : decode cX13_factorAt 6 = .ok (.aload_n 0, 1) := by decide +kernel
theorem dX13_factorAt_7 : decode cX13_factorAt 7 = .ok (.getfield 122, 3) := by decide +kernel
theorem dX13_factorAt_10 : decode cX13_factorAt 10 = .ok (.ifCond .le 5, 3) := by decide +kernel
theorem dX13_factorAt_13 : decode cX13_factorAt 13 = .ok (.iconst 0, 1) := by decide +kernel
theorem dX13_factorAt_14 : decode cX13_factorAt 14 = .ok (.ireturn, 1) := by decide +kernel
set_option maxHeartbeats 4000000 in
set_option maxRecDepth 100000 in
/-- factorAt on a fresh object: code 1 -/
theorem c_X13_factorAt (l : Launch) (hfl : l.stackTraces = false) (D : va_G) (sz : Nat) (h0 : Nat) (q : Nat → Nat) (p0 : Int32) (p1 : Int32) : Met l yX13_factorAt (Cond.code yX13_factorAt cX13_factorAt 4 (some .int) :: pv_W) ({ frames := 3, cells := 0, slots := 0, locals := 64 } : Room) (va_Pc [.ref h0, .int p0, .int p1] (pv_P D [] [(h0, .inr (1, pv_m 0 q))] (va_A [(h0, .inr (1, pv_m 0 q))] sz) sz)) (va_Qi (fun r (u : Int32) => u = 1) (fun (u : Int32) t => ∃ fs : List Value, fs[0]? = some (.int u) ∧ va_P D pv_cl [(h0, .inr (1, fs))] t.heap ∧ va_K D pv_cl [] t ∧ va_D (va_A [(h0, .inr (1, pv_m 0 q))] sz) [(h0, .inr (1, fs))]) (va_A [(h0, .inr (1, pv_m 0 q))] sz)) 0 0 (va_A [(h0, .inr (1, pv_m 0 q))] sz) := by
  refine Met.ofW (cc := cX13_factorAt) (maxL := 4) (ret := (some .int)) (by decide) rfl ?_
  intro p e s m args below meth c s₁ B hml hv
  obtain ⟨rfl, hsz, hE, hP, hK, hD0⟩ := hv
  have hx := B.exec
  have hb := B.bytes
  have hr := B.returns
  have hts := fun (w : Cond) (h : w ∈ pv_W) => atoms_spec (ws := Cond.code yX13_factorAt cX13_factorAt 4 (some .int) :: pv_W) B.pre w (List.mem_cons_of_mem _ h)
  have hg := fun {w : Cond} (h : w ∈ lw_tbl) (g : goodWord w = true) => hts w (pv_in h g)
  have hown : s.vm.findClass RX13 = some m.cls := findClass_of_methodNamed B.named
  have hlocks := B.notSynchronized
  subst hsz
  have hD := hD0.self (sz := s.heap.size)
  generalize hAe : va_A [(h0, .inr (1, pv_m 0 q))] s.heap.size = A at hD hE ⊢
  have hA : ∀ q : Nat, s.heap.size ≤ q → A q := fun q h => by rw [← hAe]; exact Or.inr h
  have hS : va_S A s.heap s.heap [] := va_S.rf
  have hP : va_P D pv_cl [(h0, .inr (1, pv_m 0 q))] s.heap := hP
  have hl := lv_entry ([.ref h0, .int p0, .int p1]) (n := 4) (Nat.le_of_ble_eq_true rfl)
  rw [lg_entry_eq]
  generalize (lg_sl ([.ref h0, .int p0, .int p1]) ++ List.replicate (4 - (lg_sl ([.ref h0, .int p0, .int p1])).length) Slot.unset).toArray = ls at hl ⊢
  have hl : lv_has ls 4 [(0, .ref h0), (1, .int p0), (2, .int p1)] := hl
  refine lv_aload_n hx hb dX13_factorAt_0 rfl (lv_at hl 0 rfl) ?_
  refine lv_iload_n hx hb dX13_factorAt_1 rfl (lv_at hl 1 rfl) ?_
  have hF := va_free (wc := [(h0, .inr (1, pv_m 0 q))]) hD hS hA [0] rfl
  refine va_calli (va_runV (As := [.int p0]) (rest := []) ⟨hx, hb, hml, hown, hts⟩ (c_X13_factors l hfl D _ h0 q p0) (cwV 1 hts (pv_gV w10_149 w10_124 w10_125 w1_10 w10_126) rfl rfl rfl (by decide +kernel) ⟨Nat.le_of_ble_eq_true rfl, Nat.le_of_ble_eq_true rfl⟩) (pv_pV hE hS hF (hP.sub [0] rfl) (hK.sub [] rfl) (hD.sub [0] (by decide) rfl) (va_recv (ci := 1) (q0 := 0) hK hP rfl rfl)) rfl rfl hl.1 rfl (lv_room (Nat.le_of_ble_eq_true rfl)) dX13_factorAt_2 ⟨Nat.le_of_ble_eq_true rfl, Nat.le_of_ble_eq_true rfl⟩) hS (fun q _ h => hF q h) hF (fun r_0 u t H1 locs1 ht hvm hw hB hz1 hk1 hS => ?_)
  refine W.widen (k := 0) (n := 0) (Nat.le_of_ble_eq_true rfl) (Nat.le_of_ble_eq_true rfl) ?_
  subst hw
  obtain ⟨fs_2, hf_3, hP1, hK1, hD1⟩ := hB
  rw [ht] at hP1
  have hK1 := va_K.moved hvm.symm hK1
  obtain ⟨hP, hD⟩ := va_join (wr := []) (w1 := [(h0, .inr (1, fs_2))]) hP hD [0] [] rfl rfl (by decide) (by decide) hk1 hF hP1 hD1
  have hP : va_P D pv_cl [(h0, .inr (1, fs_2))] _ := hP
  have hD : va_D A [(h0, .inr (1, fs_2))] := hD
  refine lv_istore_n (lv' := [(3, .int r_0), (0, .ref h0), (1, .int p0), (2, .int p1)]) hx hb dX13_factorAt_5 rfl hl (by decide) rfl (fun ls hl => ?_)
  refine lv_aload_n hx hb dX13_factorAt_6 rfl (lv_at hl 1 rfl) ?_
  refine va_get (own := RX13) (D := D) (ci := 1) (v := .int 1) (C := RX13) (T := TX13) (N := 45) hx hb hts inF13 hown hK hP 0 rfl rfl 0 (by decide) (hg w8_205 rfl) (fun _ h9 => h9) hf_3 dX13_factorAt_7 ?_
  refine lv_if_le (tgt := 15) hx hb dX13_factorAt_10 (by decide) (fun c_4 => absurd c_4 (by decide)) (fun _ => ?_)
  refine lv_iconst (v := 0) hx hb dX13_factorAt_13 (by decide) ?_
  refine W.widen (k := 0) (n := 0) (Nat.le_of_ble_eq_true rfl) (Nat.le_of_ble_eq_true rfl) ?_
  exact W.iret (v := 0) hx hb hr (fun t ht hW => ⟨⟨0, 1, rfl, rfl, fs_2, hf_3, (by rw [ht]; exact hP.sub [0] rfl), va_K.moved hW.alike (hK.sub [] rfl), hD.sub [0] (by decide) rfl⟩, hS.F ht⟩) hS.2.2 dX13_factorAt_14

theorem dX13_multiplicity_0 : decode cX13_multiplicity 0 = .ok (.aload_n 0, 1) := by decide +kernel
theorem dX13_multiplicity_1 : decode cX13_multiplicity 1 = .ok (.iload_n 1, 1) := by decide +kernel
theorem dX13_multiplicity_2 : decode cX13_multiplicity 2 = .ok (.invokevirtual 331, 3) := by decide +kernel
theorem dX13_multiplicity_5 : decode cX13_multiplicity 5 = .ok (.istore_n 3, 1) := by decide +kernel
theorem dX13_multiplicity_6 : decode cX13_multiplicity 6 = .ok (.aload_n 0, 1) := by decide +kernel
theorem dX13_multiplicity_7 : decode cX13_multiplicity 7 = .ok (.getfield 122, 3) := by decide +kernel
theorem dX13_multiplicity_10 : decode cX13_multiplicity 10 = .ok (.ifCond .le 5, 3) := by decide +kernel
theorem dX13_multiplicity_13 : decode cX13_multiplicity 13 = .ok (.iconst 0, 1) := by decide +kernel
theorem dX13_multiplicity_14 : decode cX13_multiplicity 14 = .ok (.ireturn, 1) := by decide +kernel
set_option maxHeartbeats 4000000 in
set_option maxRecDepth 100000 in
/-- multiplicity on a fresh object: code 1 -/
theorem c_X13_multiplicity (l : Launch) (hfl : l.stackTraces = false) (D : va_G) (sz : Nat) (h0 : Nat) (q : Nat → Nat) (p0 : Int32) (p1 : Int32) : Met l yX13_multiplicity (Cond.code yX13_multiplicity cX13_multiplicity 4 (some .int) :: pv_W) ({ frames := 3, cells := 0, slots := 0, locals := 64 } : Room) (va_Pc [.ref h0, .int p0, .int p1] (pv_P D [] [(h0, .inr (1, pv_m 0 q))] (va_A [(h0, .inr (1, pv_m 0 q))] sz) sz)) (va_Qi (fun r (u : Int32) => u = 1) (fun (u : Int32) t => ∃ fs : List Value, fs[0]? = some (.int u) ∧ va_P D pv_cl [(h0, .inr (1, fs))] t.heap ∧ va_K D pv_cl [] t ∧ va_D (va_A [(h0, .inr (1, pv_m 0 q))] sz) [(h0, .inr (1, fs))]) (va_A [(h0, .inr (1, pv_m 0 q))] sz)) 0 0 (va_A [(h0, .inr (1, pv_m 0 q))] sz) := by
  refine Met.ofW (cc := cX13_multiplicity) (maxL := 4) (ret := (some .int)) (by decide) rfl ?_
  intro p e s m args below meth c s₁ B hml hv
  obtain ⟨rfl, hsz, hE, hP, hK, hD0⟩ := hv
  have hx := B.exec
  have hb := B.bytes
  have hr := B.returns
  have hts := fun (w : Cond) (h : w ∈ pv_W) => atoms_spec (ws := Cond.code yX13_multiplicity cX13_multiplicity 4 (some .int) :: pv_W) B.pre w (List.mem_cons_of_mem _ h)
  have hg := fun {w : Cond} (h : w ∈ lw_tbl) (g : goodWord w = true) => hts w (pv_in h g)
  have hown : s.vm.findClass RX13 = some m.cls := findClass_of_methodNamed B.named
  have hlocks := B.notSynchronized
  subst hsz
  have hD := hD0.self (sz := s.heap.size)
  generalize hAe : va_A [(h0, .inr (1, pv_m 0 q))] s.heap.size = A at hD hE ⊢
  have hA : ∀ q : Nat, s.heap.size ≤ q → A q := fun q h => by rw [← hAe]; exact Or.inr h
  have hS : va_S A s.heap s.heap [] := va_S.rf
  have hP : va_P D pv_cl [(h0, .inr (1, pv_m 0 q))] s.heap := hP
  have hl := lv_entry ([.ref h0, .int p0, .int p1]) (n := 4) (Nat.le_of_ble_eq_true rfl)
  rw [lg_entry_eq]
  generalize (lg_sl ([.ref h0, .int p0, .int p1]) ++ List.replicate (4 - (lg_sl ([.ref h0, .int p0, .int p1])).length) Slot.unset).toArray = ls at hl ⊢
  have hl : lv_has ls 4 [(0, .ref h0), (1, .int p0), (2, .int p1)] := hl
  refine lv_aload_n hx hb dX13_multiplicity_0 rfl (lv_at hl 0 rfl) ?_
  refine lv_iload_n hx hb dX13_multiplicity_1 rfl (lv_at hl 1 rfl) ?_
  have hF := va_free (wc := [(h0, .inr (1, pv_m 0 q))]) hD hS hA [0] rfl
  refine va_calli (va_runV (As := [.int p0]) (rest := []) ⟨hx, hb, hml, hown, hts⟩ (c_X13_factors l hfl D _ h0 q p0) (cwV 1 hts (pv_gV w10_149 w10_124 w10_125 w1_10 w10_126) rfl rfl rfl (by decide +kernel) ⟨Nat.le_of_ble_eq_true rfl, Nat.le_of_ble_eq_true rfl⟩) (pv_pV hE hS hF (hP.sub [0] rfl) (hK.sub [] rfl) (hD.sub [0] (by decide) rfl) (va_recv (ci := 1) (q0 := 0) hK hP rfl rfl)) rfl rfl hl.1 rfl (lv_room (Nat.le_of_ble_eq_true rfl)) dX13_multiplicity_2 ⟨Nat.le_of_ble_eq_true rfl, Nat.le_of_ble_eq_true rfl⟩) hS (fun q _ h => hF q h) hF (fun r_0 u t H1 locs1 ht hvm hw hB hz1 hk1 hS => ?_)
  refine W.widen (k := 0) (n := 0) (Nat.le_of_ble_eq_true rfl) (Nat.le_of_ble_eq_true rfl) ?_
  subst hw
  obtain ⟨fs_2, hf_3, hP1, hK1, hD1⟩ := hB
  rw [ht] at hP1
  have hK1 := va_K.moved hvm.symm hK1
  obtain ⟨hP, hD⟩ := va_join (wr := []) (w1 := [(h0, .inr (1, fs_2))]) hP hD [0] [] rfl rfl (by decide) (by decide) hk1 hF hP1 hD1
  have hP : va_P D pv_cl [(h0, .inr (1, fs_2))] _ := hP
  have hD : va_D A [(h0, .inr (1, fs_2))] := hD
  refine lv_istore_n (lv' := [(3, .int r_0), (0, .ref h0), (1, .int p0), (2, .int p1)]) hx hb dX13_multiplicity_5 rfl hl (by decide) rfl (fun ls hl => ?_)
  refine lv_aload_n hx hb dX13_multiplicity_6 rfl (lv_at hl 1 rfl) ?_
  refine va_get (own := RX13) (D := D) (ci := 1) (v := .int 1) (C := RX13) (T := TX13) (N := 45) hx hb hts inF13 hown hK hP 0 rfl rfl 0 (by decide) (hg w8_205 rfl) (fun _ h9 => h9) hf_3 dX13_multiplicity_7 ?_
  refine lv_if_le (tgt := 15) hx hb dX13_multiplicity_10 (by decide) (fun c_4 => absurd c_4 (by decide)) (fun _ => ?_)
  refine lv_iconst (v := 0) hx hb dX13_multiplicity_13 (by decide) ?_
  refine W.widen (k := 0) (n := 0) (Nat.le_of_ble_eq_true rfl) (Nat.le_of_ble_eq_true rfl) ?_
  exact W.iret (v := 0) hx hb hr (fun t ht hW => ⟨⟨0, 1, rfl, rfl, fs_2, hf_3, (by rw [ht]; exact hP.sub [0] rfl), va_K.moved hW.alike (hK.sub [] rfl), hD.sub [0] (by decide) rfl⟩, hS.F ht⟩) hS.2.2 dX13_multiplicity_14

theorem dX13_isIrreducible_0 : decode cX13_isIrreducible 0 = .ok (.aload_n 0, 1) := by decide +kernel
theorem dX13_isIrreducible_1 : decode cX13_isIrreducible 1 = .ok (.iload_n 1, 1) := by decide +kernel
theorem dX13_isIrreducible_2 : decode cX13_isIrreducible 2 = .ok (.invokevirtual 331, 3) := by decide +kernel
theorem dX13_isIrreducible_5 : decode cX13_isIrreducible 5 = .ok (.istore_n 2, 1) := by decide +kernel
theorem dX13_isIrreducible_6 : decode cX13_isIrreducible 6 = .ok (.aload_n 0, 1) := by decide +kernel
theorem dX13_isIrreducible_7 : decode cX13_isIrreducible 7 = .ok (.getfield 122, 3) := by decide +kernel
theorem dX13_isIrreducible_10 : decode cX13_isIrreducible 10 = .ok (.ifCond .ne 22, 3) := by decide +kernel
theorem dX13_isIrreducible_32 : decode cX13_isIrreducible 32 = .ok (.iconst 0, 1) := by decide +kernel
theorem dX13_isIrreducible_33 : decode cX13_isIrreducible 33 = .ok (.ireturn, 1) := by decide +kernel
set_option maxHeartbeats 4000000 in
set_option maxRecDepth 100000 in
/-- isIrreducible on a fresh object: code 1 -/
theorem c_X13_isIrreducible (l : Launch) (hfl : l.stackTraces = false) (D : va_G) (sz : Nat) (h0 : Nat) (q : Nat → Nat) (p0 : Int32) : Met l yX13_isIrreducible (Cond.code yX13_isIrreducible cX13_isIrreducible 3 (some .boolean) :: pv_W) ({ frames := 3, cells := 0, slots := 0, locals := 64 } : Room) (va_Pc [.ref h0, .int p0] (pv_P D [] [(h0, .inr (1, pv_m 0 q))] (va_A [(h0, .inr (1, pv_m 0 q))] sz) sz)) (va_Qi (fun r (u : Int32) => u = 1) (fun (u : Int32) t => ∃ fs : List Value, fs[0]? = some (.int u) ∧ va_P D pv_cl [(h0, .inr (1, fs))] t.heap ∧ va_K D pv_cl [] t ∧ va_D (va_A [(h0, .inr (1, pv_m 0 q))] sz) [(h0, .inr (1, fs))]) (va_A [(h0, .inr (1, pv_m 0 q))] sz)) 0 0 (va_A [(h0, .inr (1, pv_m 0 q))] sz) := by
  refine Met.ofW (cc := cX13_isIrreducible) (maxL := 3) (ret := (some .boolean)) (by decide) rfl ?_
  intro p e s m args below meth c s₁ B hml hv
  obtain ⟨rfl, hsz, hE, hP, hK, hD0⟩ := hv
  have hx := B.exec
  have hb := B.bytes
  have hr := B.returns
  have hts := fun (w : Cond) (h : w ∈ pv_W) => atoms_spec (ws := Cond.code yX13_isIrreducible cX13_isIrreducible 3 (some .boolean) :: pv_W) B.pre w (List.mem_cons_of_mem _ h)
  have hg := fun {w : Cond} (h : w ∈ lw_tbl) (g : goodWord w = true) => hts w (pv_in h g)
  have hown : s.vm.findClass RX13 = some m.cls := findClass_of_methodNamed B.named
  have hlocks := B.notSynchronized
  subst hsz
  have hD := hD0.self (sz := s.heap.size)
  generalize hAe : va_A [(h0, .inr (1, pv_m 0 q))] s.heap.size = A at hD hE ⊢
  have hA : ∀ q : Nat, s.heap.size ≤ q → A q := fun q h => by rw [← hAe]; exact Or.inr h
  have hS : va_S A s.heap s.heap [] := va_S.rf
  have hP : va_P D pv_cl [(h0, .inr (1, pv_m 0 q))] s.heap := hP
  have hl := lv_entry ([.ref h0, .int p0]) (n := 3) (Nat.le_of_ble_eq_true rfl)
  rw [lg_entry_eq]
  generalize (lg_sl ([.ref h0, .int p0]) ++ List.replicate (3 - (lg_sl ([.ref h0, .int p0])).length) Slot.unset).toArray = ls at hl ⊢
  have hl : lv_has ls 3 [(0, .ref h0), (1, .int p0)] := hl
  refine lv_aload_n hx hb dX13_isIrreducible_0 rfl (lv_at hl 0 rfl) ?_
  refine lv_iload_n hx hb dX13_isIrreducible_1 rfl (lv_at hl 1 rfl) ?_
  have hF := va_free (wc := [(h0, .inr (1, pv_m 0 q))]) hD hS hA [0] rfl
  refine va_calli (va_runV (As := [.int p0]) (rest := []) ⟨hx, hb, hml, hown, hts⟩ (c_X13_factors l hfl D _ h0 q p0) (cwV 1 hts (pv_gV w10_149 w10_124 w10_125 w1_10 w10_126) rfl rfl rfl (by decide +kernel) ⟨Nat.le_of_ble_eq_true rfl, Nat.le_of_ble_eq_true rfl⟩) (pv_pV hE hS hF (hP.sub [0] rfl) (hK.sub [] rfl) (hD.sub [0] (by decide) rfl) (va_recv (ci := 1) (q0 := 0) hK hP rfl rfl)) rfl rfl hl.1 rfl (lv_room (Nat.le_of_ble_eq_true rfl)) dX13_isIrreducible_2 ⟨Nat.le_of_ble_eq_true rfl, Nat.le_of_ble_eq_true rfl⟩) hS (fun q _ h => hF q h) hF (fun r_0 u t H1 locs1 ht hvm hw hB hz1 hk1 hS => ?_)
  refine W.widen (k := 0) (n := 0) (Nat.le_of_ble_eq_true rfl) (Nat.le_of_ble_eq_true rfl) ?_
  subst hw
  obtain ⟨fs_2, hf_3, hP1, hK1, hD1⟩ := hB
  rw [ht] at hP1
  have hK1 := va_K.moved hvm.symm hK1
  obtain ⟨hP, hD⟩ := va_join (wr := []) (w1 := [(h0, .inr (1, fs_2))]) hP hD [0] [] rfl rfl (by decide) (by decide) hk1 hF hP1 hD1
  have hP : va_P D pv_cl [(h0, .inr (1, fs_2))] _ := hP
  have hD : va_D A [(h0, .inr (1, fs_2))] := hD
  refine lv_istore_n (lv' := [(2, .int r_0), (0, .ref h0), (1, .int p0)]) hx hb dX13_isIrreducible_5 rfl hl (by decide) rfl (fun ls hl => ?_)
  refine lv_aload_n hx hb dX13_isIrreducible_6 rfl (lv_at hl 1 rfl) ?_
  refine va_get (own := RX13) (D := D) (ci := 1) (v := .int 1) (C := RX13) (T := TX13) (N := 45) hx hb hts inF13 hown hK hP 0 rfl rfl 0 (by decide) (hg w8_205 rfl) (fun _ h9 => h9) hf_3 dX13_isIrreducible_7 ?_
  refine lv_if_ne (tgt := 32) hx hb dX13_isIrreducible_10 (by decide) (fun _ => ?_) (fun c_4 => absurd c_4 (by decide))
  refine lv_iconst (v := 0) hx hb dX13_isIrreducible_32 (by decide) ?_
  refine W.widen (k := 0) (n := 0) (Nat.le_of_ble_eq_true rfl) (Nat.le_of_ble_eq_true rfl) ?_
  exact W.zret (v := 0) (ty := .boolean) hx hb hr rfl (fun t ht hW => ⟨⟨0, 1, rfl, rfl, fs_2, hf_3, (by rw [ht]; exact hP.sub [0] rfl), va_K.moved hW.alike (hK.sub [] rfl), hD.sub [0] (by decide) rfl⟩, hS.F ht⟩) hS.2.2 dX13_isIrreducible_33

theorem dX13_roots_0 : decode cX13_roots 0 = .ok (.aload_n 0, 1) := by decide +kernel
theorem dX13_roots_1 : decode cX13_roots 1 = .ok (.iconst 0, 1) := by decide +kernel
theorem dX13_roots_2 : decode cX13_roots 2 = .ok (.putfield 122, 3) := by decide +kernel
theorem dX13_roots_5 : decode cX13_roots 5 = .ok (.aload_n 0, 1) := by decide +kernel
theorem dX13_roots_6 : decode cX13_roots 6 = .ok (.iload_n 1, 1) := by decide +kernel
theorem dX13_roots_7 : decode cX13_roots 7 = .ok (.invokevirtual 132, 3) := by decide +kernel
theorem dX13_roots_10 : decode cX13_roots 10 = .ok (.ifCond .ne 9, 3) := by decide +kernel
theorem dX13_roots_13 : decode cX13_roots 13 = .ok (.aload_n 0, 1) := by decide +kernel
theorem dX13_roots_14 : decode cX13_roots 14 = .ok (.iconst 1, 1) := by decide +kernel
theorem dX13_roots_15 : decode cX13_roots 15 = .ok (.invokevirtual 185, 3) := by decide +kernel
theorem dX13_roots_18 : decode cX13_roots 18 = .ok (.ireturn, 1) := by decide +kernel
set_option maxHeartbeats 4000000 in
set_option maxRecDepth 100000 in
/-- roots on a fresh object: code 1 -/
theorem c_X13_roots (l : Launch) (hfl : l.stackTraces = false) (D : va_G) (sz : Nat) (h0 : Nat) (q : Nat → Nat) (p0 : Int32) : Met l yX13_roots (Cond.code yX13_roots cX13_roots 5 (some .int) :: pv_W) ({ frames := 2, cells := 0, slots := 0, locals := 43 } : Room) (va_Pc [.ref h0, .int p0] (pv_P D [] [(h0, .inr (1, pv_m 0 q))] (va_A [(h0, .inr (1, pv_m 0 q))] sz) sz)) (va_Qi (fun r (u : Int32) => u = 1) (fun (u : Int32) t => ∃ fs : List Value, fs[0]? = some (.int u) ∧ va_P D pv_cl [(h0, .inr (1, fs))] t.heap ∧ va_K D pv_cl [] t ∧ va_D (va_A [(h0, .inr (1, pv_m 0 q))] sz) [(h0, .inr (1, fs))]) (va_A [(h0, .inr (1, pv_m 0 q))] sz)) 0 0 (va_A [(h0, .inr (1, pv_m 0 q))] sz) := by
  refine Met.ofW (cc := cX13_roots) (maxL := 5) (ret := (some .int)) (by decide) rfl ?_
  intro p e s m args below meth c s₁ B hml hv
  obtain ⟨rfl, hsz, hE, hP, hK, hD0⟩ := hv
  have hx := B.exec
  have hb := B.bytes
  have hr := B.returns
  have hts := fun (w : Cond) (h : w ∈ pv_W) => atoms_spec (ws := Cond.code yX13_roots cX13_roots 5 (some .int) :: pv_W) B.pre w (List.mem_cons_of_mem _ h)
  have hg := fun {w : Cond} (h : w ∈ lw_tbl) (g : goodWord w = true) => hts w (pv_in h g)
  have hown : s.vm.findClass RX13 = some m.cls := findClass_of_methodNamed B.named
  have hlocks := B.notSynchronized
  subst hsz
  have hD := hD0.self (sz := s.heap.size)
  generalize hAe : va_A [(h0, .inr (1, pv_m 0 q))] s.heap.size = A at hD hE ⊢
  have hA : ∀ q : Nat, s.heap.size ≤ q → A q := fun q h => by rw [← hAe]; exact Or.inr h
  have hS : va_S A s.heap s.heap [] := va_S.rf
  have hP : va_P D pv_cl [(h0, .inr (1, pv_m 0 q))] s.heap := hP
  have hl := lv_entry ([.ref h0, .int p0]) (n := 5) (Nat.le_of_ble_eq_true rfl)
  rw [lg_entry_eq]
  generalize (lg_sl ([.ref h0, .int p0]) ++ List.replicate (5 - (lg_sl ([.ref h0, .int p0])).length) Slot.unset).toArray = ls at hl ⊢
  have hl : lv_has ls 5 [(0, .ref h0), (1, .int p0)] := hl
  refine lv_aload_n hx hb dX13_roots_0 rfl (lv_at hl 0 rfl) ?_
  refine lv_iconst (v := 0) hx hb dX13_roots_1 (by decide) ?_
  refine va_put (own := RX13) (D := D) (ci := 1) (v := .int 0) (ty := .int) (C := RX13) (T := TX13) (N := 45) hx hb hts inF13 tyX13 tyX13_ok nmX13 hown hK hP hD hS 0 rfl rfl 0 (by decide) (hg w8_205 rfl) (fun _ h9 => h9) rfl (by decide +kernel) rfl rfl (Nat.le_of_ble_eq_true rfl) dX13_roots_2 (fun H locs hP hD hS => ?_)
  have hP : va_P D pv_cl [(h0, .inr (1, pv_m 0 q))] _ := hP
  have hD : va_D A [(h0, .inr (1, pv_m 0 q))] := hD
  refine lv_aload_n hx hb dX13_roots_5 rfl (lv_at hl 0 rfl) ?_
  refine lv_iload_n hx hb dX13_roots_6 rfl (lv_at hl 1 rfl) ?_
  have hF := pv_new hA hS.1
  refine va_calli (va_runV (As := [.int p0]) (rest := []) ⟨hx, hb, hml, hown, hts⟩ (c_X13_is l hfl D _ h0 q p0) (cwV 1 hts (pv_gV w9_168 w9_170 wp5_13 w1_10 w9_171) rfl rfl rfl (by decide +kernel) ⟨Nat.le_of_ble_eq_true rfl, Nat.le_of_ble_eq_true rfl⟩) (pv_pV hE hS hF (hP.sub [0] rfl) (hK.sub [] rfl) (hD.sub [0] (by decide) rfl) (va_recv (ci := 1) (q0 := 0) hK hP rfl rfl)) rfl rfl hl.1 rfl (lv_room (Nat.le_of_ble_eq_true rfl)) dX13_roots_7 ⟨Nat.le_of_ble_eq_true rfl, Nat.le_of_ble_eq_true rfl⟩) hS (fun q _ h => hF q h) hF (fun r_0 u t H1 locs1 ht hvm hw hB hz1 hk1 hS => ?_)
  refine W.widen (k := 0) (n := 0) (Nat.le_of_ble_eq_true rfl) (Nat.le_of_ble_eq_true rfl) ?_
  have hP := pv_keep hP rfl hk1
  obtain rfl := hw
  refine lv_if_ne (tgt := 19) hx hb dX13_roots_10 (by decide) (fun c_2 => absurd (by decide) c_2) (fun _ => ?_)
  refine lv_aload_n hx hb dX13_roots_13 rfl (lv_at hl 0 rfl) ?_
  refine lv_iconst (v := 1) hx hb dX13_roots_14 (by decide) ?_
  have hF := va_free (wc := [(h0, .inr (1, pv_m 0 q))]) hD hS hA [0] rfl
  refine va_calli (va_runV (As := [.int 1]) (rest := []) ⟨hx, hb, hml, hown, hts⟩ (c_X13_fails l hfl D _ h0 q 1) (cwV 1 hts (pv_gV w9_113 w9_115 wp5_9 w1_10 w9_116) rfl rfl rfl (by decide +kernel) ⟨Nat.le_of_ble_eq_true rfl, Nat.le_of_ble_eq_true rfl⟩) (pv_pV hE hS hF (hP.sub [0] rfl) (hK.sub [] rfl) (hD.sub [0] (by decide) rfl) (va_recv (ci := 1) (q0 := 0) hK hP rfl rfl)) rfl rfl hl.1 rfl (lv_room (Nat.le_of_ble_eq_true rfl)) dX13_roots_15 ⟨Nat.le_of_ble_eq_true rfl, Nat.le_of_ble_eq_true rfl⟩) hS (fun q _ h => hF q h) hF (fun r_2 u t H1 locs1 ht hvm hw hB hz1 hk1 hS => ?_)
  refine W.widen (k := 0) (n := 0) (Nat.le_of_ble_eq_true rfl) (Nat.le_of_ble_eq_true rfl) ?_
  obtain rfl := hw
  obtain ⟨hP1, hK1, hD1⟩ := hB
  rw [ht] at hP1
  have hK1 := va_K.moved hvm.symm hK1
  obtain ⟨hP, hD⟩ := va_join (wr := []) (w1 := [(h0, .inr (1, pv_m 1 q))]) hP hD [0] [] rfl rfl (by decide) (by decide) hk1 hF hP1 hD1
  have hP : va_P D pv_cl [(h0, .inr (1, pv_m 1 q))] _ := hP
  have hD : va_D A [(h0, .inr (1, pv_m 1 q))] := hD
  refine W.widen (k := 0) (n := 0) (Nat.le_of_ble_eq_true rfl) (Nat.le_of_ble_eq_true rfl) ?_
  exact W.iret (v := 0) hx hb hr (fun t ht hW => ⟨⟨0, 1, rfl, rfl, pv_m 1 q, rfl, (by rw [ht]; exact hP.sub [0] rfl), va_K.moved hW.alike (hK.sub [] rfl), hD.sub [0] (by decide) rfl⟩, hS.F ht⟩) hS.2.2 dX13_roots_18

theorem dX13_resultant_0 : decode cX13_resultant 0 = .ok (.aload_n 0, 1) := by decide +kernel
theorem dX13_resultant_1 : decode cX13_resultant 1 = .ok (.iconst 0, 1) := by decide +kernel
theorem dX13_resultant_2 : decode cX13_resultant 2 = .ok (.putfield 122, 3) := by decide +kernel
theorem dX13_resultant_5 : decode cX13_resultant 5 = .ok (.aload_n 0, 1) := by decide +kernel
theorem dX13_resultant_6 : decode cX13_resultant 6 = .ok (.iload_n 1, 1) := by decide +kernel
theorem dX13_resultant_7 : decode cX13_resultant 7 = .ok (.iload_n 2, 1) := by decide +kernel
theorem dX13_resultant_8 : decode cX13_resultant 8 = .ok (.invokevirtual 218, 3) := by decide +kernel
theorem dX13_resultant_11 : decode cX13_resultant 11 = .ok (.ifCond .ne 9, 3) := by decide +kernel
theorem dX13_resultant_14 : decode cX13_resultant 14 = .ok (.aload_n 0, 1) := by decide +kernel
theorem dX13_resultant_15 : decode cX13_resultant 15 = .ok (.iconst 1, 1) := by decide +kernel
theorem dX13_resultant_16 : decode cX13_resultant 16 = .ok (.invokevirtual 185, 3) := by decide +kernel
theorem dX13_resultant_19 : decode cX13_resultant 19 = .ok (.ireturn, 1) := by decide +kernel
set_option maxHeartbeats 4000000 in
set_option maxRecDepth 100000 in
/-- resultant on a fresh object: code 1 -/
theorem c_X13_resultant (l : Launch) (hfl : l.stackTraces = false) (D : va_G) (sz : Nat) (h0 : Nat) (q : Nat → Nat) (p0 : Int32) (p1 : Int32) : Met l yX13_resultant (Cond.code yX13_resultant cX13_resultant 9 (some .int) :: pv_W) ({ frames := 3, cells := 0, slots := 0, locals := 65 } : Room) (va_Pc [.ref h0, .int p0, .int p1] (pv_P D [] [(h0, .inr (1, pv_m 0 q))] (va_A [(h0, .inr (1, pv_m 0 q))] sz) sz)) (va_Qi (fun r (u : Int32) => u = 1) (fun (u : Int32) t => ∃ fs : List Value, fs[0]? = some (.int u) ∧ va_P D pv_cl [(h0, .inr (1, fs))] t.heap ∧ va_K D pv_cl [] t ∧ va_D (va_A [(h0, .inr (1, pv_m 0 q))] sz) [(h0, .inr (1, fs))]) (va_A [(h0, .inr (1, pv_m 0 q))] sz)) 0 0 (va_A [(h0, .inr (1, pv_m 0 q))] sz) := by
  refine Met.ofW (cc := cX13_resultant) (maxL := 9) (ret := (some .int)) (by decide) rfl ?_
  intro p e s m args below meth c s₁ B hml hv
  obtain ⟨rfl, hsz, hE, hP, hK, hD0⟩ := hv
  have hx := B.exec
  have hb := B.bytes
  have hr := B.returns
  have hts := fun (w : Cond) (h : w ∈ pv_W) => atoms_spec (ws := Cond.code yX13_resultant cX13_resultant 9 (some .int) :: pv_W) B.pre w (List.mem_cons_of_mem _ h)
  have hg := fun {w : Cond} (h : w ∈ lw_tbl) (g : goodWord w = true) => hts w (pv_in h g)
  have hown : s.vm.findClass RX13 = some m.cls := findClass_of_methodNamed B.named
  have hlocks := B.notSynchronized
  subst hsz
  have hD := hD0.self (sz := s.heap.size)
  generalize hAe : va_A [(h0, .inr (1, pv_m 0 q))] s.heap.size = A at hD hE ⊢
  have hA : ∀ q : Nat, s.heap.size ≤ q → A q := fun q h => by rw [← hAe]; exact Or.inr h
  have hS : va_S A s.heap s.heap [] := va_S.rf
  have hP : va_P D pv_cl [(h0, .inr (1, pv_m 0 q))] s.heap := hP
  have hl := lv_entry ([.ref h0, .int p0, .int p1]) (n := 9) (Nat.le_of_ble_eq_true rfl)
  rw [lg_entry_eq]
  generalize (lg_sl ([.ref h0, .int p0, .int p1]) ++ List.replicate (9 - (lg_sl ([.ref h0, .int p0, .int p1])).length) Slot.unset).toArray = ls at hl ⊢
  have hl : lv_has ls 9 [(0, .ref h0), (1, .int p0), (2, .int p1)] := hl
  refine lv_aload_n hx hb dX13_resultant_0 rfl (lv_at hl 0 rfl) ?_
  refine lv_iconst (v := 0) hx hb dX13_resultant_1 (by decide) ?_
  refine va_put (own := RX13) (D := D) (ci := 1) (v := .int 0) (ty := .int) (C := RX13) (T := TX13) (N := 45) hx hb hts inF13 tyX13 tyX13_ok nmX13 hown hK hP hD hS 0 rfl rfl 0 (by decide) (hg w8_205 rfl) (fun _ h9 => h9) rfl (by decide +kernel) rfl rfl (Nat.le_of_ble_eq_true rfl) dX13_resultant_2 (fun H locs hP hD hS => ?_)
  have hP : va_P D pv_cl [(h0, .inr (1, pv_m 0 q))] _ := hP
  have hD : va_D A [(h0, .inr (1, pv_m 0 q))] := hD
  refine lv_aload_n hx hb dX13_resultant_5 rfl (lv_at hl 0 rfl) ?_
  refine lv_iload_n hx hb dX13_resultant_6 rfl (lv_at hl 1 rfl) ?_
  refine lv_iload_n hx hb dX13_resultant_7 rfl (lv_at hl 2 rfl) ?_
  have hF := pv_new hA hS.1
  refine va_calli (va_runV (As := [.int p0, .int p1]) (rest := []) ⟨hx, hb, hml, hown, hts⟩ (c_X13_are l hfl D _ h0 q p0 p1) (cwV 2 hts (pv_gV w9_164 w9_166 wp5_12 w1_10 w9_167) rfl rfl rfl (by decide +kernel) ⟨Nat.le_of_ble_eq_true rfl, Nat.le_of_ble_eq_true rfl⟩) (pv_pV hE hS hF (hP.sub [0] rfl) (hK.sub [] rfl) (hD.sub [0] (by decide) rfl) (va_recv (ci := 1) (q0 := 0) hK hP rfl rfl)) rfl rfl hl.1 rfl (lv_room (Nat.le_of_ble_eq_true rfl)) dX13_resultant_8 ⟨Nat.le_of_ble_eq_true rfl, Nat.le_of_ble_eq_true rfl⟩) hS (fun q _ h => hF q h) hF (fun r_0 u t H1 locs1 ht hvm hw hB hz1 hk1 hS => ?_)
  refine W.widen (k := 0) (n := 0) (Nat.le_of_ble_eq_true rfl) (Nat.le_of_ble_eq_true rfl) ?_
  have hP := pv_keep hP rfl hk1
  obtain rfl := hw
  refine lv_if_ne (tgt := 20) hx hb dX13_resultant_11 (by decide) (fun c_2 => absurd (by decide) c_2) (fun _ => ?_)
  refine lv_aload_n hx hb dX13_resultant_14 rfl (lv_at hl 0 rfl) ?_
  refine lv_iconst (v := 1) hx hb dX13_resultant_15 (by decide) ?_
  have hF := va_free (wc := [(h0, .inr (1, pv_m 0 q))]) hD hS hA [0] rfl
  refine va_calli (va_runV (As := [.int 1]) (rest := []) ⟨hx, hb, hml, hown, hts⟩ (c_X13_fails l hfl D _ h0 q 1) (cwV 1 hts (pv_gV w9_113 w9_115 wp5_9 w1_10 w9_116) rfl rfl rfl (by decide +kernel) ⟨Nat.le_of_ble_eq_true rfl, Nat.le_of_ble_eq_true rfl⟩) (pv_pV hE hS hF (hP.sub [0] rfl) (hK.sub [] rfl) (hD.sub [0] (by decide) rfl) (va_recv (ci := 1) (q0 := 0) hK hP rfl rfl)) rfl rfl hl.1 rfl (lv_room (Nat.le_of_ble_eq_true rfl)) dX13_resultant_16 ⟨Nat.le_of_ble_eq_true rfl, Nat.le_of_ble_eq_true rfl⟩) hS (fun q _ h => hF q h) hF (fun r_2 u t H1 locs1 ht hvm hw hB hz1 hk1 hS => ?_)
  refine W.widen (k := 0) (n := 0) (Nat.le_of_ble_eq_true rfl) (Nat.le_of_ble_eq_true rfl) ?_
  obtain rfl := hw
  obtain ⟨hP1, hK1, hD1⟩ := hB
  rw [ht] at hP1
  have hK1 := va_K.moved hvm.symm hK1
  obtain ⟨hP, hD⟩ := va_join (wr := []) (w1 := [(h0, .inr (1, pv_m 1 q))]) hP hD [0] [] rfl rfl (by decide) (by decide) hk1 hF hP1 hD1
  have hP : va_P D pv_cl [(h0, .inr (1, pv_m 1 q))] _ := hP
  have hD : va_D A [(h0, .inr (1, pv_m 1 q))] := hD
  refine W.widen (k := 0) (n := 0) (Nat.le_of_ble_eq_true rfl) (Nat.le_of_ble_eq_true rfl) ?_
  exact W.iret (v := 0) hx hb hr (fun t ht hW => ⟨⟨0, 1, rfl, rfl, pv_m 1 q, rfl, (by rw [ht]; exact hP.sub [0] rfl), va_K.moved hW.alike (hK.sub [] rfl), hD.sub [0] (by decide) rfl⟩, hS.F ht⟩) hS.2.2 dX13_resultant_19

theorem dX13_resultantByDeterminant_0 : decode cX13_resultantByDeterminant 0 = .ok (.aload_n 0, 1) := by decide +kernel
theorem dX13_resultantByDeterminant_1 : decode cX13_resultantByDeterminant 1 = .ok (.iload_n 1, 1) := by decide +kernel
theorem dX13_resultantByDeterminant_2 : decode cX13_resultantByDeterminant 2 = .ok (.iload_n 2, 1) := by decide +kernel
theorem dX13_resultantByDeterminant_3 : decode cX13_resultantByDeterminant 3 = .ok (.invokevirtual 340, 3) := by decide +kernel
theorem w10_177 : (Jvm.Cond.methodLink "PolyforgeModel" (340 : Nat) ({ cls := "PolyforgeModel", name := "resultant", desc := "(II)I" } : Jvm.MethodName)) ∈ lw_tbl := pv_t10 (pv_mg 177 rfl)
theorem w10_168 : (Jvm.Cond.code ({ cls := "PolyforgeModel", name := "resultant", desc := "(II)I" } : Jvm.MethodName) prog_14_method_82_code (9 : Nat) (Option.some Jvm.ClassFile.FieldType.int)) ∈ lw_tbl := pv_t10 (pv_mg 168 rfl)
theorem w10_167 : (Jvm.Cond.selects "PolyforgeModel" ({ cls := "PolyforgeModel", name := "resultant", desc := "(II)I" } : Jvm.MethodName) ({ cls := "PolyforgeModel", name := "resultant", desc := "(II)I" } : Jvm.MethodName)) ∈ lw_tbl := pv_t10 (pv_mg 167 rfl)
theorem w10_166 : (Jvm.Cond.instanceMethod ({ cls := "PolyforgeModel", name := "resultant", desc := "(II)I" } : Jvm.MethodName)) ∈ lw_tbl := pv_t10 (pv_mg 166 rfl)
theorem dX13_resultantByDeterminant_6 : decode cX13_resultantByDeterminant 6 = .ok (.ireturn, 1) := by decide +kernel
set_option maxHeartbeats 4000000 in
set_option maxRecDepth 100000 in
/-- resultantByDeterminant on a fresh object: code 1 -/
theorem c_X13_resultantByDeterminant (l : Launch) (hfl : l.stackTraces = false) (D : va_G) (sz : Nat) (h0 : Nat) (q : Nat → Nat) (p0 : Int32) (p1 : Int32) : Met l yX13_resultantByDeterminant (Cond.code yX13_resultantByDeterminant cX13_resultantByDeterminant 3 (some .int) :: pv_W) ({ frames := 4, cells := 0, slots := 0, locals := 93 } : Room) (va_Pc [.ref h0, .int p0, .int p1] (pv_P D [] [(h0, .inr (1, pv_m 0 q))] (va_A [(h0, .inr (1, pv_m 0 q))] sz) sz)) (va_Qi (fun r (u : Int32) => u = 1) (fun (u : Int32) t => ∃ fs : List Value, fs[0]? = some (.int u) ∧ va_P D pv_cl [(h0, .inr (1, fs))] t.heap ∧ va_K D pv_cl [] t ∧ va_D (va_A [(h0, .inr (1, pv_m 0 q))] sz) [(h0, .inr (1, fs))]) (va_A [(h0, .inr (1, pv_m 0 q))] sz)) 0 0 (va_A [(h0, .inr (1, pv_m 0 q))] sz) := by
  refine Met.ofW (cc := cX13_resultantByDeterminant) (maxL := 3) (ret := (some .int)) (by decide) rfl ?_
  intro p e s m args below meth c s₁ B hml hv
  obtain ⟨rfl, hsz, hE, hP, hK, hD0⟩ := hv
  have hx := B.exec
  have hb := B.bytes
  have hr := B.returns
  have hts := fun (w : Cond) (h : w ∈ pv_W) => atoms_spec (ws := Cond.code yX13_resultantByDeterminant cX13_resultantByDeterminant 3 (some .int) :: pv_W) B.pre w (List.mem_cons_of_mem _ h)
  have hg := fun {w : Cond} (h : w ∈ lw_tbl) (g : goodWord w = true) => hts w (pv_in h g)
  have hown : s.vm.findClass RX13 = some m.cls := findClass_of_methodNamed B.named
  have hlocks := B.notSynchronized
  subst hsz
  have hD := hD0.self (sz := s.heap.size)
  generalize hAe : va_A [(h0, .inr (1, pv_m 0 q))] s.heap.size = A at hD hE ⊢
  have hA : ∀ q : Nat, s.heap.size ≤ q → A q := fun q h => by rw [← hAe]; exact Or.inr h
  have hS : va_S A s.heap s.heap [] := va_S.rf
  have hP : va_P D pv_cl [(h0, .inr (1, pv_m 0 q))] s.heap := hP
  have hl := lv_entry ([.ref h0, .int p0, .int p1]) (n := 3) (Nat.le_of_ble_eq_true rfl)
  rw [lg_entry_eq]
  generalize (lg_sl ([.ref h0, .int p0, .int p1]) ++ List.replicate (3 - (lg_sl ([.ref h0, .int p0, .int p1])).length) Slot.unset).toArray = ls at hl ⊢
  have hl : lv_has ls 3 [(0, .ref h0), (1, .int p0), (2, .int p1)] := hl
  refine lv_aload_n hx hb dX13_resultantByDeterminant_0 rfl (lv_at hl 0 rfl) ?_
  refine lv_iload_n hx hb dX13_resultantByDeterminant_1 rfl (lv_at hl 1 rfl) ?_
  refine lv_iload_n hx hb dX13_resultantByDeterminant_2 rfl (lv_at hl 2 rfl) ?_
  have hF := va_free (wc := [(h0, .inr (1, pv_m 0 q))]) hD hS hA [0] rfl
  refine va_calli (va_runV (As := [.int p0, .int p1]) (rest := []) ⟨hx, hb, hml, hown, hts⟩ (c_X13_resultant l hfl D _ h0 q p0 p1) (cwV 2 hts (pv_gV w10_177 w10_166 w10_167 w1_10 w10_168) rfl rfl rfl (by decide +kernel) ⟨Nat.le_of_ble_eq_true rfl, Nat.le_of_ble_eq_true rfl⟩) (pv_pV hE hS hF (hP.sub [0] rfl) (hK.sub [] rfl) (hD.sub [0] (by decide) rfl) (va_recv (ci := 1) (q0 := 0) hK hP rfl rfl)) rfl rfl hl.1 rfl (lv_room (Nat.le_of_ble_eq_true rfl)) dX13_resultantByDeterminant_3 ⟨Nat.le_of_ble_eq_true rfl, Nat.le_of_ble_eq_true rfl⟩) hS (fun q _ h => hF q h) hF (fun r_0 u t H1 locs1 ht hvm hw hB hz1 hk1 hS => ?_)
  refine W.widen (k := 0) (n := 0) (Nat.le_of_ble_eq_true rfl) (Nat.le_of_ble_eq_true rfl) ?_
  subst hw
  obtain ⟨fs_2, hf_3, hP1, hK1, hD1⟩ := hB
  rw [ht] at hP1
  have hK1 := va_K.moved hvm.symm hK1
  obtain ⟨hP, hD⟩ := va_join (wr := []) (w1 := [(h0, .inr (1, fs_2))]) hP hD [0] [] rfl rfl (by decide) (by decide) hk1 hF hP1 hD1
  have hP : va_P D pv_cl [(h0, .inr (1, fs_2))] _ := hP
  have hD : va_D A [(h0, .inr (1, fs_2))] := hD
  refine W.widen (k := 0) (n := 0) (Nat.le_of_ble_eq_true rfl) (Nat.le_of_ble_eq_true rfl) ?_
  exact W.iret (v := r_0) hx hb hr (fun t ht hW => ⟨⟨r_0, 1, rfl, rfl, fs_2, hf_3, (by rw [ht]; exact hP.sub [0] rfl), va_K.moved hW.alike (hK.sub [] rfl), hD.sub [0] (by decide) rfl⟩, hS.F ht⟩) hS.2.2 dX13_resultantByDeterminant_6

theorem dX13_series_0 : decode cX13_series 0 = .ok (.aload_n 0, 1) := by decide +kernel
theorem dX13_series_1 : decode cX13_series 1 = .ok (.iconst 0, 1) := by decide +kernel
theorem dX13_series_2 : decode cX13_series 2 = .ok (.putfield 122, 3) := by decide +kernel
theorem dX13_series_5 : decode cX13_series 5 = .ok (.aload_n 0, 1) := by decide +kernel
theorem dX13_series_6 : decode cX13_series 6 = .ok (.iload_n 1, 1) := by decide +kernel
theorem dX13_series_7 : decode cX13_series 7 = .ok (.iload_n 2, 1) := by decide +kernel
theorem dX13_series_8 : decode cX13_series 8 = .ok (.invokevirtual 218, 3) := by decide +kernel
theorem dX13_series_11 : decode cX13_series 11 = .ok (.ifCond .ne 9, 3) := by decide +kernel
theorem dX13_series_14 : decode cX13_series 14 = .ok (.aload_n 0, 1) := by decide +kernel
theorem dX13_series_15 : decode cX13_series 15 = .ok (.iconst 1, 1) := by decide +kernel
theorem dX13_series_16 : decode cX13_series 16 = .ok (.invokevirtual 185, 3) := by decide +kernel
theorem dX13_series_19 : decode cX13_series 19 = .ok (.ireturn, 1) := by decide +kernel
set_option maxHeartbeats 4000000 in
set_option maxRecDepth 100000 in
/-- series on a fresh object: code 1 -/
theorem c_X13_series (l : Launch) (hfl : l.stackTraces = false) (D : va_G) (sz : Nat) (h0 : Nat) (q : Nat → Nat) (p0 : Int32) (p1 : Int32) (p2 : Int32) : Met l yX13_series (Cond.code yX13_series cX13_series 13 (some .int) :: pv_W) ({ frames := 3, cells := 0, slots := 0, locals := 65 } : Room) (va_Pc [.ref h0, .int p0, .int p1, .int p2] (pv_P D [] [(h0, .inr (1, pv_m 0 q))] (va_A [(h0, .inr (1, pv_m 0 q))] sz) sz)) (va_Qi (fun r (u : Int32) => u = 1) (fun (u : Int32) t => ∃ fs : List Value, fs[0]? = some (.int u) ∧ va_P D pv_cl [(h0, .inr (1, fs))] t.heap ∧ va_K D pv_cl [] t ∧ va_D (va_A [(h0, .inr (1, pv_m 0 q))] sz) [(h0, .inr (1, fs))]) (va_A [(h0, .inr (1, pv_m 0 q))] sz)) 0 0 (va_A [(h0, .inr (1, pv_m 0 q))] sz) := by
  refine Met.ofW (cc := cX13_series) (maxL := 13) (ret := (some .int)) (by decide) rfl ?_
  intro p e s m args below meth c s₁ B hml hv
  obtain ⟨rfl, hsz, hE, hP, hK, hD0⟩ := hv
  have hx := B.exec
  have hb := B.bytes
  have hr := B.returns
  have hts := fun (w : Cond) (h : w ∈ pv_W) => atoms_spec (ws := Cond.code yX13_series cX13_series 13 (some .int) :: pv_W) B.pre w (List.mem_cons_of_mem _ h)
  have hg := fun {w : Cond} (h : w ∈ lw_tbl) (g : goodWord w = true) => hts w (pv_in h g)
  have hown : s.vm.findClass RX13 = some m.cls := findClass_of_methodNamed B.named
  have hlocks := B.notSynchronized
  subst hsz
  have hD := hD0.self (sz := s.heap.size)
  generalize hAe : va_A [(h0, .inr (1, pv_m 0 q))] s.heap.size = A at hD hE ⊢
  have hA : ∀ q : Nat, s.heap.size ≤ q → A q := fun q h => by rw [← hAe]; exact Or.inr h
  have hS : va_S A s.heap s.heap [] := va_S.rf
  have hP : va_P D pv_cl [(h0, .inr (1, pv_m 0 q))] s.heap := hP
  have hl := lv_entry ([.ref h0, .int p0, .int p1, .int p2]) (n := 13) (Nat.le_of_ble_eq_true rfl)
  rw [lg_entry_eq]
  generalize (lg_sl ([.ref h0, .int p0, .int p1, .int p2]) ++ List.replicate (13 - (lg_sl ([.ref h0, .int p0, .int p1, .int p2])).length) Slot.unset).toArray = ls at hl ⊢
  have hl : lv_has ls 13 [(0, .ref h0), (1, .int p0), (2, .int p1), (3, .int p2)] := hl
  refine lv_aload_n hx hb dX13_series_0 rfl (lv_at hl 0 rfl) ?_
  refine lv_iconst (v := 0) hx hb dX13_series_1 (by decide) ?_
  refine va_put (own := RX13) (D := D) (ci := 1) (v := .int 0) (ty := .int) (C := RX13) (T := TX13) (N := 45) hx hb hts inF13 tyX13 tyX13_ok nmX13 hown hK hP hD hS 0 rfl rfl 0 (by decide) (hg w8_205 rfl) (fun _ h9 => h9) rfl (by decide +kernel) rfl rfl (Nat.le_of_ble_eq_true rfl) dX13_series_2 (fun H locs hP hD hS => ?_)
  have hP : va_P D pv_cl [(h0, .inr (1, pv_m 0 q))] _ := hP
  have hD : va_D A [(h0, .inr (1, pv_m 0 q))] := hD
  refine lv_aload_n hx hb dX13_series_5 rfl (lv_at hl 0 rfl) ?_
  refine lv_iload_n hx hb dX13_series_6 rfl (lv_at hl 1 rfl) ?_
  refine lv_iload_n hx hb dX13_series_7 rfl (lv_at hl 2 rfl) ?_
  have hF := pv_new hA hS.1
  refine va_calli (va_runV (As := [.int p0, .int p1]) (rest := []) ⟨hx, hb, hml, hown, hts⟩ (c_X13_are l hfl D _ h0 q p0 p1) (cwV 2 hts (pv_gV w9_164 w9_166 wp5_12 w1_10 w9_167) rfl rfl rfl (by decide +kernel) ⟨Nat.le_of_ble_eq_true rfl, Nat.le_of_ble_eq_true rfl⟩) (pv_pV hE hS hF (hP.sub [0] rfl) (hK.sub [] rfl) (hD.sub [0] (by decide) rfl) (va_recv (ci := 1) (q0 := 0) hK hP rfl rfl)) rfl rfl hl.1 rfl (lv_room (Nat.le_of_ble_eq_true rfl)) dX13_series_8 ⟨Nat.le_of_ble_eq_true rfl, Nat.le_of_ble_eq_true rfl⟩) hS (fun q _ h => hF q h) hF (fun r_0 u t H1 locs1 ht hvm hw hB hz1 hk1 hS => ?_)
  refine W.widen (k := 0) (n := 0) (Nat.le_of_ble_eq_true rfl) (Nat.le_of_ble_eq_true rfl) ?_
  have hP := pv_keep hP rfl hk1
  obtain rfl := hw
  refine lv_if_ne (tgt := 20) hx hb dX13_series_11 (by decide) (fun c_2 => absurd (by decide) c_2) (fun _ => ?_)
  refine lv_aload_n hx hb dX13_series_14 rfl (lv_at hl 0 rfl) ?_
  refine lv_iconst (v := 1) hx hb dX13_series_15 (by decide) ?_
  have hF := va_free (wc := [(h0, .inr (1, pv_m 0 q))]) hD hS hA [0] rfl
  refine va_calli (va_runV (As := [.int 1]) (rest := []) ⟨hx, hb, hml, hown, hts⟩ (c_X13_fails l hfl D _ h0 q 1) (cwV 1 hts (pv_gV w9_113 w9_115 wp5_9 w1_10 w9_116) rfl rfl rfl (by decide +kernel) ⟨Nat.le_of_ble_eq_true rfl, Nat.le_of_ble_eq_true rfl⟩) (pv_pV hE hS hF (hP.sub [0] rfl) (hK.sub [] rfl) (hD.sub [0] (by decide) rfl) (va_recv (ci := 1) (q0 := 0) hK hP rfl rfl)) rfl rfl hl.1 rfl (lv_room (Nat.le_of_ble_eq_true rfl)) dX13_series_16 ⟨Nat.le_of_ble_eq_true rfl, Nat.le_of_ble_eq_true rfl⟩) hS (fun q _ h => hF q h) hF (fun r_2 u t H1 locs1 ht hvm hw hB hz1 hk1 hS => ?_)
  refine W.widen (k := 0) (n := 0) (Nat.le_of_ble_eq_true rfl) (Nat.le_of_ble_eq_true rfl) ?_
  obtain rfl := hw
  obtain ⟨hP1, hK1, hD1⟩ := hB
  rw [ht] at hP1
  have hK1 := va_K.moved hvm.symm hK1
  obtain ⟨hP, hD⟩ := va_join (wr := []) (w1 := [(h0, .inr (1, pv_m 1 q))]) hP hD [0] [] rfl rfl (by decide) (by decide) hk1 hF hP1 hD1
  have hP : va_P D pv_cl [(h0, .inr (1, pv_m 1 q))] _ := hP
  have hD : va_D A [(h0, .inr (1, pv_m 1 q))] := hD
  refine W.widen (k := 0) (n := 0) (Nat.le_of_ble_eq_true rfl) (Nat.le_of_ble_eq_true rfl) ?_
  exact W.iret (v := 0) hx hb hr (fun t ht hW => ⟨⟨0, 1, rfl, rfl, pv_m 1 q, rfl, (by rw [ht]; exact hP.sub [0] rfl), va_K.moved hW.alike (hK.sub [] rfl), hD.sub [0] (by decide) rfl⟩, hS.F ht⟩) hS.2.2 dX13_series_19

theorem dX13_limit_0 : decode cX13_limit 0 = .ok (.aload_n 0, 1) := by decide +kernel
theorem dX13_limit_1 : decode cX13_limit 1 = .ok (.iconst 0, 1) := by decide +kernel
theorem dX13_limit_2 : decode cX13_limit 2 = .ok (.putfield 122, 3) := by decide +kernel
theorem dX13_limit_5 : decode cX13_limit 5 = .ok (.aload_n 0, 1) := by decide +kernel
theorem dX13_limit_6 : decode cX13_limit 6 = .ok (.iload_n 1, 1) := by decide +kernel
theorem dX13_limit_7 : decode cX13_limit 7 = .ok (.iload_n 2, 1) := by decide +kernel
theorem dX13_limit_8 : decode cX13_limit 8 = .ok (.invokevirtual 218, 3) := by decide +kernel
theorem dX13_limit_11 : decode cX13_limit 11 = .ok (.ifCond .ne 9, 3) := by decide +kernel
theorem dX13_limit_14 : decode cX13_limit 14 = .ok (.aload_n 0, 1) := by decide +kernel
theorem dX13_limit_15 : decode cX13_limit 15 = .ok (.iconst 1, 1) := by decide +kernel
theorem dX13_limit_16 : decode cX13_limit 16 = .ok (.invokevirtual 185, 3) := by decide +kernel
theorem dX13_limit_19 : decode cX13_limit 19 = .ok (.ireturn, 1) := by decide +kernel
set_option maxHeartbeats 4000000 in
set_option maxRecDepth 100000 in
/-- limit on a fresh object: code 1 -/
theorem c_X13_limit (l : Launch) (hfl : l.stackTraces = false) (D : va_G) (sz : Nat) (h0 : Nat) (q : Nat → Nat) (p0 : Int32) (p1 : Int32) (p2 : Int32) : Met l yX13_limit (Cond.code yX13_limit cX13_limit 9 (some .int) :: pv_W) ({ frames := 3, cells := 0, slots := 0, locals := 65 } : Room) (va_Pc [.ref h0, .int p0, .int p1, .int p2] (pv_P D [] [(h0, .inr (1, pv_m 0 q))] (va_A [(h0, .inr (1, pv_m 0 q))] sz) sz)) (va_Qi (fun r (u : Int32) => u = 1) (fun (u : Int32) t => ∃ fs : List Value, fs[0]? = some (.int u) ∧ va_P D pv_cl [(h0, .inr (1, fs))] t.heap ∧ va_K D pv_cl [] t ∧ va_D (va_A [(h0, .inr (1, pv_m 0 q))] sz) [(h0, .inr (1, fs))]) (va_A [(h0, .inr (1, pv_m 0 q))] sz)) 0 0 (va_A [(h0, .inr (1, pv_m 0 q))] sz) := by
  refine Met.ofW (cc := cX13_limit) (maxL := 9) (ret := (some .int)) (by decide) rfl ?_
  intro p e s m args below meth c s₁ B hml hv
  obtain ⟨rfl, hsz, hE, hP, hK, hD0⟩ := hv
  have hx := B.exec
  have hb := B.bytes
  have hr := B.returns
  have hts := fun (w : Cond) (h : w ∈ pv_W) => atoms_spec (ws := Cond.code yX13_limit cX13_limit 9 (some .int) :: pv_W) B.pre w (List.mem_cons_of_mem _ h)
  have hg := fun {w : Cond} (h : w ∈ lw_tbl) (g : goodWord w = true) => hts w (pv_in h g)
  have hown : s.vm.findClass RX13 = some m.cls := findClass_of_methodNamed B.named
  have hlocks := B.notSynchronized
  subst hsz
  have hD := hD0.self (sz := s.heap.size)
  generalize hAe : va_A [(h0, .inr (1, pv_m 0 q))] s.heap.size = A at hD hE ⊢
  have hA : ∀ q : Nat, s.heap.size ≤ q → A q := fun q h => by rw [← hAe]; exact Or.inr h
  have hS : va_S A s.heap s.heap [] := va_S.rf
  have hP : va_P D pv_cl [(h0, .inr (1, pv_m 0 q))] s.heap := hP
  have hl := lv_entry ([.ref h0, .int p0, .int p1, .int p2]) (n := 9) (Nat.le_of_ble_eq_true rfl)
  rw [lg_entry_eq]
  generalize (lg_sl ([.ref h0, .int p0, .int p1, .int p2]) ++ List.replicate (9 - (lg_sl ([.ref h0, .int p0, .int p1, .int p2])).length) Slot.unset).toArray = ls at hl ⊢
  have hl : lv_has ls 9 [(0, .ref h0), (1, .int p0), (2, .int p1), (3, .int p2)] := hl
  refine lv_aload_n hx hb dX13_limit_0 rfl (lv_at hl 0 rfl) ?_
  refine lv_iconst (v := 0) hx hb dX13_limit_1 (by decide) ?_
  refine va_put (own := RX13) (D := D) (ci := 1) (v := .int 0) (ty := .int) (C := RX13) (T := TX13) (N := 45) hx hb hts inF13 tyX13 tyX13_ok nmX13 hown hK hP hD hS 0 rfl rfl 0 (by decide) (hg w8_205 rfl) (fun _ h9 => h9) rfl (by decide +kernel) rfl rfl (Nat.le_of_ble_eq_true rfl) dX13_limit_2 (fun H locs hP hD hS => ?_)
  have hP : va_P D pv_cl [(h0, .inr (1, pv_m 0 q))] _ := hP
  have hD : va_D A [(h0, .inr (1, pv_m 0 q))] := hD
  refine lv_aload_n hx hb dX13_limit_5 rfl (lv_at hl 0 rfl) ?_
  refine lv_iload_n hx hb dX13_limit_6 rfl (lv_at hl 1 rfl) ?_
  refine lv_iload_n hx hb dX13_limit_7 rfl (lv_at hl 2 rfl) ?_
  have hF := pv_new hA hS.1
  refine va_calli (va_runV (As := [.int p0, .int p1]) (rest := []) ⟨hx, hb, hml, hown, hts⟩ (c_X13_are l hfl D _ h0 q p0 p1) (cwV 2 hts (pv_gV w9_164 w9_166 wp5_12 w1_10 w9_167) rfl rfl rfl (by decide +kernel) ⟨Nat.le_of_ble_eq_true rfl, Nat.le_of_ble_eq_true rfl⟩) (pv_pV hE hS hF (hP.sub [0] rfl) (hK.sub [] rfl) (hD.sub [0] (by decide) rfl) (va_recv (ci := 1) (q0 := 0) hK hP rfl rfl)) rfl rfl hl.1 rfl (lv_room (Nat.le_of_ble_eq_true rfl)) dX13_limit_8 ⟨Nat.le_of_ble_eq_true rfl, Nat.le_of_ble_eq_true rfl⟩) hS (fun q _ h => hF q h) hF (fun r_0 u t H1 locs1 ht hvm hw hB hz1 hk1 hS => ?_)
  refine W.widen (k := 0) (n := 0) (Nat.le_of_ble_eq_true rfl) (Nat.le_of_ble_eq_true rfl) ?_
  have hP := pv_keep hP rfl hk1
  obtain rfl := hw
  refine lv_if_ne (tgt := 20) hx hb dX13_limit_11 (by decide) (fun c_2 => absurd (by decide) c_2) (fun _ => ?_)
  refine lv_aload_n hx hb dX13_limit_14 rfl (lv_at hl 0 rfl) ?_
  refine lv_iconst (v := 1) hx hb dX13_limit_15 (by decide) ?_
  have hF := va_free (wc := [(h0, .inr (1, pv_m 0 q))]) hD hS hA [0] rfl
  refine va_calli (va_runV (As := [.int 1]) (rest := []) ⟨hx, hb, hml, hown, hts⟩ (c_X13_fails l hfl D _ h0 q 1) (cwV 1 hts (pv_gV w9_113 w9_115 wp5_9 w1_10 w9_116) rfl rfl rfl (by decide +kernel) ⟨Nat.le_of_ble_eq_true rfl, Nat.le_of_ble_eq_true rfl⟩) (pv_pV hE hS hF (hP.sub [0] rfl) (hK.sub [] rfl) (hD.sub [0] (by decide) rfl) (va_recv (ci := 1) (q0 := 0) hK hP rfl rfl)) rfl rfl hl.1 rfl (lv_room (Nat.le_of_ble_eq_true rfl)) dX13_limit_16 ⟨Nat.le_of_ble_eq_true rfl, Nat.le_of_ble_eq_true rfl⟩) hS (fun q _ h => hF q h) hF (fun r_2 u t H1 locs1 ht hvm hw hB hz1 hk1 hS => ?_)
  refine W.widen (k := 0) (n := 0) (Nat.le_of_ble_eq_true rfl) (Nat.le_of_ble_eq_true rfl) ?_
  obtain rfl := hw
  obtain ⟨hP1, hK1, hD1⟩ := hB
  rw [ht] at hP1
  have hK1 := va_K.moved hvm.symm hK1
  obtain ⟨hP, hD⟩ := va_join (wr := []) (w1 := [(h0, .inr (1, pv_m 1 q))]) hP hD [0] [] rfl rfl (by decide) (by decide) hk1 hF hP1 hD1
  have hP : va_P D pv_cl [(h0, .inr (1, pv_m 1 q))] _ := hP
  have hD : va_D A [(h0, .inr (1, pv_m 1 q))] := hD
  refine W.widen (k := 0) (n := 0) (Nat.le_of_ble_eq_true rfl) (Nat.le_of_ble_eq_true rfl) ?_
  exact W.iret (v := 0) hx hb hr (fun t ht hW => ⟨⟨0, 1, rfl, rfl, pv_m 1 q, rfl, (by rw [ht]; exact hP.sub [0] rfl), va_K.moved hW.alike (hK.sub [] rfl), hD.sub [0] (by decide) rfl⟩, hS.F ht⟩) hS.2.2 dX13_limit_19

theorem dX13_partial_0 : decode cX13_partial 0 = .ok (.aload_n 0, 1) := by decide +kernel
theorem dX13_partial_1 : decode cX13_partial 1 = .ok (.iconst 0, 1) := by decide +kernel
theorem dX13_partial_2 : decode cX13_partial 2 = .ok (.putfield 122, 3) := by decide +kernel
theorem dX13_partial_5 : decode cX13_partial 5 = .ok (.aload_n 0, 1) := by decide +kernel
theorem dX13_partial_6 : decode cX13_partial 6 = .ok (.iload_n 1, 1) := by decide +kernel
theorem dX13_partial_7 : decode cX13_partial 7 = .ok (.iload_n 2, 1) := by decide +kernel
theorem dX13_partial_8 : decode cX13_partial 8 = .ok (.invokevirtual 218, 3) := by decide +kernel
theorem dX13_partial_11 : decode cX13_partial 11 = .ok (.ifCond .ne 9, 3) := by decide +kernel
theorem dX13_partial_14 : decode cX13_partial 14 = .ok (.aload_n 0, 1) := by decide +kernel
theorem dX13_partial_15 : decode cX13_partial 15 = .ok (.iconst 1, 1) := by decide +kernel
theorem dX13_partial_16 : decode cX13_partial 16 = .ok (.invokevirtual 185, 3) := by decide +kernel
theorem dX13_partial_19 : decode cX13_partial 19 = .ok (.ireturn, 1) := by decide +kernel
set_option maxHeartbeats 4000000 in
set_option maxRecDepth 100000 in
/-- partial on a fresh object: code 1 -/
theorem c_X13_partial (l : Launch) (hfl : l.stackTraces = false) (D : va_G) (sz : Nat) (h0 : Nat) (q : Nat → Nat) (p0 : Int32) (p1 : Int32) (p2 : Int32) : Met l yX13_partial (Cond.code yX13_partial cX13_partial 6 (some .int) :: pv_W) ({ frames := 3, cells := 0, slots := 0, locals := 65 } : Room) (va_Pc [.ref h0, .int p0, .int p1, .int p2] (pv_P D [] [(h0, .inr (1, pv_m 0 q))] (va_A [(h0, .inr (1, pv_m 0 q))] sz) sz)) (va_Qi (fun r (u : Int32) => u = 1) (fun (u : Int32) t => ∃ fs : List Value, fs[0]? = some (.int u) ∧ va_P D pv_cl [(h0, .inr (1, fs))] t.heap ∧ va_K D pv_cl [] t ∧ va_D (va_A [(h0, .inr (1, pv_m 0 q))] sz) [(h0, .inr (1, fs))]) (va_A [(h0, .inr (1, pv_m 0 q))] sz)) 0 0 (va_A [(h0, .inr (1, pv_m 0 q))] sz) := by
  refine Met.ofW (cc := cX13_partial) (maxL := 6) (ret := (some .int)) (by decide) rfl ?_
  intro p e s m args below meth c s₁ B hml hv
  obtain ⟨rfl, hsz, hE, hP, hK, hD0⟩ := hv
  have hx := B.exec
  have hb := B.bytes
  have hr := B.returns
  have hts := fun (w : Cond) (h : w ∈ pv_W) => atoms_spec (ws := Cond.code yX13_partial cX13_partial 6 (some .int) :: pv_W) B.pre w (List.mem_cons_of_mem _ h)
  have hg := fun {w : Cond} (h : w ∈ lw_tbl) (g : goodWord w = true) => hts w (pv_in h g)
  have hown : s.vm.findClass RX13 = some m.cls := findClass_of_methodNamed B.named
  have hlocks := B.notSynchronized
  subst hsz
  have hD := hD0.self (sz := s.heap.size)
  generalize hAe : va_A [(h0, .inr (1, pv_m 0 q))] s.heap.size = A at hD hE ⊢
  have hA : ∀ q : Nat, s.heap.size ≤ q → A q := fun q h => by rw [← hAe]; exact Or.inr h
  have hS : va_S A s.heap s.heap [] := va_S.rf
  have hP : va_P D pv_cl [(h0, .inr (1, pv_m 0 q))] s.heap := hP
  have hl := lv_entry ([.ref h0, .int p0, .int p1, .int p2]) (n := 6) (Nat.le_of_ble_eq_true rfl)
  rw [lg_entry_eq]
  generalize (lg_sl ([.ref h0, .int p0, .int p1, .int p2]) ++ List.replicate (6 - (lg_sl ([.ref h0, .int p0, .int p1, .int p2])).length) Slot.unset).toArray = ls at hl ⊢
  have hl : lv_has ls 6 [(0, .ref h0), (1, .int p0), (2, .int p1), (3, .int p2)] := hl
  refine lv_aload_n hx hb dX13_partial_0 rfl (lv_at hl 0 rfl) ?_
  refine lv_iconst (v := 0) hx hb dX13_partial_1 (by decide) ?_
  refine va_put (own := RX13) (D := D) (ci := 1) (v := .int 0) (ty := .int) (C := RX13) (T := TX13) (N := 45) hx hb hts inF13 tyX13 tyX13_ok nmX13 hown hK hP hD hS 0 rfl rfl 0 (by decide) (hg w8_205 rfl) (fun _ h9 => h9) rfl (by decide +kernel) rfl rfl (Nat.le_of_ble_eq_true rfl) dX13_partial_2 (fun H locs hP hD hS => ?_)
  have hP : va_P D pv_cl [(h0, .inr (1, pv_m 0 q))] _ := hP
  have hD : va_D A [(h0, .inr (1, pv_m 0 q))] := hD
  refine lv_aload_n hx hb dX13_partial_5 rfl (lv_at hl 0 rfl) ?_
  refine lv_iload_n hx hb dX13_partial_6 rfl (lv_at hl 1 rfl) ?_
  refine lv_iload_n hx hb dX13_partial_7 rfl (lv_at hl 2 rfl) ?_
  have hF := pv_new hA hS.1
  refine va_calli (va_runV (As := [.int p0, .int p1]) (rest := []) ⟨hx, hb, hml, hown, hts⟩ (c_X13_are l hfl D _ h0 q p0 p1) (cwV 2 hts (pv_gV w9_164 w9_166 wp5_12 w1_10 w9_167) rfl rfl rfl (by decide +kernel) ⟨Nat.le_of_ble_eq_true rfl, Nat.le_of_ble_eq_true rfl⟩) (pv_pV hE hS hF (hP.sub [0] rfl) (hK.sub [] rfl) (hD.sub [0] (by decide) rfl) (va_recv (ci := 1) (q0 := 0) hK hP rfl rfl)) rfl rfl hl.1 rfl (lv_room (Nat.le_of_ble_eq_true rfl)) dX13_partial_8 ⟨Nat.le_of_ble_eq_true rfl, Nat.le_of_ble_eq_true rfl⟩) hS (fun q _ h => hF q h) hF (fun r_0 u t H1 locs1 ht hvm hw hB hz1 hk1 hS => ?_)
  refine W.widen (k := 0) (n := 0) (Nat.le_of_ble_eq_true rfl) (Nat.le_of_ble_eq_true rfl) ?_
  have hP := pv_keep hP rfl hk1
  obtain rfl := hw
  refine lv_if_ne (tgt := 20) hx hb dX13_partial_11 (by decide) (fun c_2 => absurd (by decide) c_2) (fun _ => ?_)
  refine lv_aload_n hx hb dX13_partial_14 rfl (lv_at hl 0 rfl) ?_
  refine lv_iconst (v := 1) hx hb dX13_partial_15 (by decide) ?_
  have hF := va_free (wc := [(h0, .inr (1, pv_m 0 q))]) hD hS hA [0] rfl
  refine va_calli (va_runV (As := [.int 1]) (rest := []) ⟨hx, hb, hml, hown, hts⟩ (c_X13_fails l hfl D _ h0 q 1) (cwV 1 hts (pv_gV w9_113 w9_115 wp5_9 w1_10 w9_116) rfl rfl rfl (by decide +kernel) ⟨Nat.le_of_ble_eq_true rfl, Nat.le_of_ble_eq_true rfl⟩) (pv_pV hE hS hF (hP.sub [0] rfl) (hK.sub [] rfl) (hD.sub [0] (by decide) rfl) (va_recv (ci := 1) (q0 := 0) hK hP rfl rfl)) rfl rfl hl.1 rfl (lv_room (Nat.le_of_ble_eq_true rfl)) dX13_partial_16 ⟨Nat.le_of_ble_eq_true rfl, Nat.le_of_ble_eq_true rfl⟩) hS (fun q _ h => hF q h) hF (fun r_2 u t H1 locs1 ht hvm hw hB hz1 hk1 hS => ?_)
  refine W.widen (k := 0) (n := 0) (Nat.le_of_ble_eq_true rfl) (Nat.le_of_ble_eq_true rfl) ?_
  obtain rfl := hw
  obtain ⟨hP1, hK1, hD1⟩ := hB
  rw [ht] at hP1
  have hK1 := va_K.moved hvm.symm hK1
  obtain ⟨hP, hD⟩ := va_join (wr := []) (w1 := [(h0, .inr (1, pv_m 1 q))]) hP hD [0] [] rfl rfl (by decide) (by decide) hk1 hF hP1 hD1
  have hP : va_P D pv_cl [(h0, .inr (1, pv_m 1 q))] _ := hP
  have hD : va_D A [(h0, .inr (1, pv_m 1 q))] := hD
  refine W.widen (k := 0) (n := 0) (Nat.le_of_ble_eq_true rfl) (Nat.le_of_ble_eq_true rfl) ?_
  exact W.iret (v := 0) hx hb hr (fun t ht hW => ⟨⟨0, 1, rfl, rfl, pv_m 1 q, rfl, (by rw [ht]; exact hP.sub [0] rfl), va_K.moved hW.alike (hK.sub [] rfl), hD.sub [0] (by decide) rfl⟩, hS.F ht⟩) hS.2.2 dX13_partial_19

theorem dX13_addRule_0 : decode cX13_addRule 0 = .ok (.aload_n 0, 1) := by decide +kernel
theorem dX13_addRule_1 : decode cX13_addRule 1 = .ok (.iconst 0, 1) := by decide +kernel
theorem dX13_addRule_2 : decode cX13_addRule 2 = .ok (.putfield 122, 3) := by decide +kernel
theorem dX13_addRule_5 : decode cX13_addRule 5 = .ok (.aload_n 0, 1) := by decide +kernel
theorem dX13_addRule_6 : decode cX13_addRule 6 = .ok (.iload 4, 2) := by decide +kernel
theorem dX13_addRule_8 : decode cX13_addRule 8 = .ok (.invokevirtual 132, 3) := by decide +kernel
theorem dX13_addRule_11 : decode cX13_addRule 11 = .ok (.ifCond .ne 9, 3) := by decide +kernel
theorem dX13_addRule_14 : decode cX13_addRule 14 = .ok (.aload_n 0, 1) := by decide +kernel
theorem dX13_addRule_15 : decode cX13_addRule 15 = .ok (.iconst 1, 1) := by decide +kernel
theorem dX13_addRule_16 : decode cX13_addRule 16 = .ok (.invokevirtual 185, 3) := by decide +kernel
theorem dX13_addRule_19 : decode cX13_addRule 19 = .ok (.ireturn, 1) := by decide +kernel
set_option maxHeartbeats 4000000 in
set_option maxRecDepth 100000 in
/-- addRule on a fresh object: code 1 -/
theorem c_X13_addRule (l : Launch) (hfl : l.stackTraces = false) (D : va_G) (sz : Nat) (h0 : Nat) (q : Nat → Nat) (p0 : Int32) (p1 : Int32) (p2 : Int32) (p3 : Int32) (p4 : Int32) (p5 : Int32) : Met l yX13_addRule (Cond.code yX13_addRule cX13_addRule 8 (some .int) :: pv_W) ({ frames := 2, cells := 0, slots := 0, locals := 43 } : Room) (va_Pc [.ref h0, .int p0, .int p1, .int p2, .int p3, .int p4, .int p5] (pv_P D [] [(h0, .inr (1, pv_m 0 q))] (va_A [(h0, .inr (1, pv_m 0 q))] sz) sz)) (va_Qi (fun r (u : Int32) => u = 1) (fun (u : Int32) t => ∃ fs : List Value, fs[0]? = some (.int u) ∧ va_P D pv_cl [(h0, .inr (1, fs))] t.heap ∧ va_K D pv_cl [] t ∧ va_D (va_A [(h0, .inr (1, pv_m 0 q))] sz) [(h0, .inr (1, fs))]) (va_A [(h0, .inr (1, pv_m 0 q))] sz)) 0 0 (va_A [(h0, .inr (1, pv_m 0 q))] sz) := by
  refine Met.ofW (cc := cX13_addRule) (maxL := 8) (ret := (some .int)) (by decide) rfl ?_
  intro p e s m args below meth c s₁ B hml hv
  obtain ⟨rfl, hsz, hE, hP, hK, hD0⟩ := hv
  have hx := B.exec
  have hb := B.bytes
  have hr := B.returns
  have hts := fun (w : Cond) (h : w ∈ pv_W) => atoms_spec (ws := Cond.code yX13_addRule cX13_addRule 8 (some .int) :: pv_W) B.pre w (List.mem_cons_of_mem _ h)
  have hg := fun {w : Cond} (h : w ∈ lw_tbl) (g : goodWord w = true) => hts w (pv_in h g)
  have hown : s.vm.findClass RX13 = some m.cls := findClass_of_methodNamed B.named
  have hlocks := B.notSynchronized
  subst hsz
  have hD := hD0.self (sz := s.heap.size)
  generalize hAe : va_A [(h0, .inr (1, pv_m 0 q))] s.heap.size = A at hD hE ⊢
  have hA : ∀ q : Nat, s.heap.size ≤ q → A q := fun q h => by rw [← hAe]; exact Or.inr h
  have hS : va_S A s.heap s.heap [] := va_S.rf
  have hP : va_P D pv_cl [(h0, .inr (1, pv_m 0 q))] s.heap := hP
  have hl := lv_entry ([.ref h0, .int p0, .int p1, .int p2, .int p3, .int p4, .int p5]) (n := 8) (Nat.le_of_ble_eq_true rfl)
  rw [lg_entry_eq]
  generalize (lg_sl ([.ref h0, .int p0, .int p1, .int p2, .int p3, .int p4, .int p5]) ++ List.replicate (8 - (lg_sl ([.ref h0, .int p0, .int p1, .int p2, .int p3, .int p4, .int p5])).length) Slot.unset).toArray = ls at hl ⊢
  have hl : lv_has ls 8 [(0, .ref h0), (1, .int p0), (2, .int p1), (3, .int p2), (4, .int p3), (5, .int p4), (6, .int p5)] := hl
  refine lv_aload_n hx hb dX13_addRule_0 rfl (lv_at hl 0 rfl) ?_
  refine lv_iconst (v := 0) hx hb dX13_addRule_1 (by decide) ?_
  refine va_put (own := RX13) (D := D) (ci := 1) (v := .int 0) (ty := .int) (C := RX13) (T := TX13) (N := 45) hx hb hts inF13 tyX13 tyX13_ok nmX13 hown hK hP hD hS 0 rfl rfl 0 (by decide) (hg w8_205 rfl) (fun _ h9 => h9) rfl (by decide +kernel) rfl rfl (Nat.le_of_ble_eq_true rfl) dX13_addRule_2 (fun H locs hP hD hS => ?_)
  have hP : va_P D pv_cl [(h0, .inr (1, pv_m 0 q))] _ := hP
  have hD : va_D A [(h0, .inr (1, pv_m 0 q))] := hD
  refine lv_aload_n hx hb dX13_addRule_5 rfl (lv_at hl 0 rfl) ?_
  refine lv_iload hx hb dX13_addRule_6 (lv_at hl 4 rfl) ?_
  have hF := pv_new hA hS.1
  refine va_calli (va_runV (As := [.int p3]) (rest := []) ⟨hx, hb, hml, hown, hts⟩ (c_X13_is l hfl D _ h0 q p3) (cwV 1 hts (pv_gV w9_168 w9_170 wp5_13 w1_10 w9_171) rfl rfl rfl (by decide +kernel) ⟨Nat.le_of_ble_eq_true rfl, Nat.le_of_ble_eq_true rfl⟩) (pv_pV hE hS hF (hP.sub [0] rfl) (hK.sub [] rfl) (hD.sub [0] (by decide) rfl) (va_recv (ci := 1) (q0 := 0) hK hP rfl rfl)) rfl rfl hl.1 rfl (lv_room (Nat.le_of_ble_eq_true rfl)) dX13_addRule_8 ⟨Nat.le_of_ble_eq_true rfl, Nat.le_of_ble_eq_true rfl⟩) hS (fun q _ h => hF q h) hF (fun r_0 u t H1 locs1 ht hvm hw hB hz1 hk1 hS => ?_)
  refine W.widen (k := 0) (n := 0) (Nat.le_of_ble_eq_true rfl) (Nat.le_of_ble_eq_true rfl) ?_
  have hP := pv_keep hP rfl hk1
  obtain rfl := hw
  refine lv_if_ne (tgt := 20) hx hb dX13_addRule_11 (by decide) (fun c_2 => absurd (by decide) c_2) (fun _ => ?_)
  refine lv_aload_n hx hb dX13_addRule_14 rfl (lv_at hl 0 rfl) ?_
  refine lv_iconst (v := 1) hx hb dX13_addRule_15 (by decide) ?_
  have hF := va_free (wc := [(h0, .inr (1, pv_m 0 q))]) hD hS hA [0] rfl
  refine va_calli (va_runV (As := [.int 1]) (rest := []) ⟨hx, hb, hml, hown, hts⟩ (c_X13_fails l hfl D _ h0 q 1) (cwV 1 hts (pv_gV w9_113 w9_115 wp5_9 w1_10 w9_116) rfl rfl rfl (by decide +kernel) ⟨Nat.le_of_ble_eq_true rfl, Nat.le_of_ble_eq_true rfl⟩) (pv_pV hE hS hF (hP.sub [0] rfl) (hK.sub [] rfl) (hD.sub [0] (by decide) rfl) (va_recv (ci := 1) (q0 := 0) hK hP rfl rfl)) rfl rfl hl.1 rfl (lv_room (Nat.le_of_ble_eq_true rfl)) dX13_addRule_16 ⟨Nat.le_of_ble_eq_true rfl, Nat.le_of_ble_eq_true rfl⟩) hS (fun q _ h => hF q h) hF (fun r_2 u t H1 locs1 ht hvm hw hB hz1 hk1 hS => ?_)
  refine W.widen (k := 0) (n := 0) (Nat.le_of_ble_eq_true rfl) (Nat.le_of_ble_eq_true rfl) ?_
  obtain rfl := hw
  obtain ⟨hP1, hK1, hD1⟩ := hB
  rw [ht] at hP1
  have hK1 := va_K.moved hvm.symm hK1
  obtain ⟨hP, hD⟩ := va_join (wr := []) (w1 := [(h0, .inr (1, pv_m 1 q))]) hP hD [0] [] rfl rfl (by decide) (by decide) hk1 hF hP1 hD1
  have hP : va_P D pv_cl [(h0, .inr (1, pv_m 1 q))] _ := hP
  have hD : va_D A [(h0, .inr (1, pv_m 1 q))] := hD
  refine W.widen (k := 0) (n := 0) (Nat.le_of_ble_eq_true rfl) (Nat.le_of_ble_eq_true rfl) ?_
  exact W.iret (v := 0) hx hb hr (fun t ht hW => ⟨⟨0, 1, rfl, rfl, pv_m 1 q, rfl, (by rw [ht]; exact hP.sub [0] rfl), va_K.moved hW.alike (hK.sub [] rfl), hD.sub [0] (by decide) rfl⟩, hS.F ht⟩) hS.2.2 dX13_addRule_19

theorem dX13_rewrite_0 : decode cX13_rewrite 0 = .ok (.aload_n 0, 1) := by decide +kernel
theorem dX13_rewrite_1 : decode cX13_rewrite 1 = .ok (.iload_n 1, 1) := by decide +kernel
theorem dX13_rewrite_2 : decode cX13_rewrite 2 = .ok (.invokevirtual 451, 3) := by decide +kernel
theorem w11_94 : (Jvm.Cond.methodLink "PolyforgeModel" (451 : Nat) ({ cls := "PolyforgeModel", name := "rewritten", desc := "(I)I" } : Jvm.MethodName)) ∈ lw_tbl := pv_t11 (pv_mg 94 rfl)
theorem w11_97 : (Jvm.Cond.code ({ cls := "PolyforgeModel", name := "rewritten", desc := "(I)I" } : Jvm.MethodName) prog_14_method_121_code (2 : Nat) (Option.some Jvm.ClassFile.FieldType.int)) ∈ lw_tbl := pv_t11 (pv_mg 97 rfl)
theorem wp8_1 : Cond.selects "PolyforgeModel" ⟨"PolyforgeModel", "rewritten", "(I)I"⟩ ⟨"PolyforgeModel", "rewritten", "(I)I"⟩ ∈ lw_tbl := pv_mg 113 rfl
theorem w11_96 : (Jvm.Cond.instanceMethod ({ cls := "PolyforgeModel", name := "rewritten", desc := "(I)I" } : Jvm.MethodName)) ∈ lw_tbl := pv_t11 (pv_mg 96 rfl)
theorem dX13_rewrite_5 : decode cX13_rewrite 5 = .ok (.istore_n 2, 1) := by decide +kernel
theorem dX13_rewrite_6 : decode cX13_rewrite 6 = .ok (.aload_n 0, 1) := by decide +kernel
theorem dX13_rewrite_7 : decode cX13_rewrite 7 = .ok (.getfield 122, 3) := by decide +kernel
theorem dX13_rewrite_10 : decode cX13_rewrite 10 = .ok (.ifCond .le 5, 3) := by decide +kernel
theorem dX13_rewrite_13 : decode cX13_rewrite 13 = .ok (.iconst 0, 1) := by decide +kernel
theorem dX13_rewrite_14 : decode cX13_rewrite 14 = .ok (.ireturn, 1) := by decide +kernel
set_option maxHeartbeats 4000000 in
set_option maxRecDepth 100000 in
/-- rewrite on a fresh object: code 1 -/
theorem c_X13_rewrite (l : Launch) (hfl : l.stackTraces = false) (D : va_G) (sz : Nat) (h0 : Nat) (q : Nat → Nat) (p0 : Int32) : Met l yX13_rewrite (Cond.code yX13_rewrite cX13_rewrite 4 (some .int) :: pv_W) ({ frames := 3, cells := 0, slots := 0, locals := 64 } : Room) (va_Pc [.ref h0, .int p0] (pv_P D [] [(h0, .inr (1, pv_m 0 q))] (va_A [(h0, .inr (1, pv_m 0 q))] sz) sz)) (va_Qi (fun r (u : Int32) => u = 1) (fun (u : Int32) t => ∃ fs : List Value, fs[0]? = some (.int u) ∧ va_P D pv_cl [(h0, .inr (1, fs))] t.heap ∧ va_K D pv_cl [] t ∧ va_D (va_A [(h0, .inr (1, pv_m 0 q))] sz) [(h0, .inr (1, fs))]) (va_A [(h0, .inr (1, pv_m 0 q))] sz)) 0 0 (va_A [(h0, .inr (1, pv_m 0 q))] sz) := by
  refine Met.ofW (cc := cX13_rewrite) (maxL := 4) (ret := (some .int)) (by decide) rfl ?_
  intro p e s m args below meth c s₁ B hml hv
  obtain ⟨rfl, hsz, hE, hP, hK, hD0⟩ := hv
  have hx := B.exec
  have hb := B.bytes
  have hr := B.returns
  have hts := fun (w : Cond) (h : w ∈ pv_W) => atoms_spec (ws := Cond.code yX13_rewrite cX13_rewrite 4 (some .int) :: pv_W) B.pre w (List.mem_cons_of_mem _ h)
  have hg := fun {w : Cond} (h : w ∈ lw_tbl) (g : goodWord w = true) => hts w (pv_in h g)
  have hown : s.vm.findClass RX13 = some m.cls := findClass_of_methodNamed B.named
  have hlocks := B.notSynchronized
  subst hsz
  have hD := hD0.self (sz := s.heap.size)
  generalize hAe : va_A [(h0, .inr (1, pv_m 0 q))] s.heap.size = A at hD hE ⊢
  have hA : ∀ q : Nat, s.heap.size ≤ q → A q := fun q h => by rw [← hAe]; exact Or.inr h
  have hS : va_S A s.heap s.heap [] := va_S.rf
  have hP : va_P D pv_cl [(h0, .inr (1, pv_m 0 q))] s.heap := hP
  have hl := lv_entry ([.ref h0, .int p0]) (n := 4) (Nat.le_of_ble_eq_true rfl)
  rw [lg_entry_eq]
  generalize (lg_sl ([.ref h0, .int p0]) ++ List.replicate (4 - (lg_sl ([.ref h0, .int p0])).length) Slot.unset).toArray = ls at hl ⊢
  have hl : lv_has ls 4 [(0, .ref h0), (1, .int p0)] := hl
  refine lv_aload_n hx hb dX13_rewrite_0 rfl (lv_at hl 0 rfl) ?_
  refine lv_iload_n hx hb dX13_rewrite_1 rfl (lv_at hl 1 rfl) ?_
  have hF := va_free (wc := [(h0, .inr (1, pv_m 0 q))]) hD hS hA [0] rfl
  refine va_calli (va_runV (As := [.int p0]) (rest := []) ⟨hx, hb, hml, hown, hts⟩ (c_X13_rewritten l hfl D _ h0 q p0) (cwV 1 hts (pv_gV w11_94 w11_96 wp8_1 w1_10 w11_97) rfl rfl rfl (by decide +kernel) ⟨Nat.le_of_ble_eq_true rfl, Nat.le_of_ble_eq_true rfl⟩) (pv_pV hE hS hF (hP.sub [0] rfl) (hK.sub [] rfl) (hD.sub [0] (by decide) rfl) (va_recv (ci := 1) (q0 := 0) hK hP rfl rfl)) rfl rfl hl.1 rfl (lv_room (Nat.le_of_ble_eq_true rfl)) dX13_rewrite_2 ⟨Nat.le_of_ble_eq_true rfl, Nat.le_of_ble_eq_true rfl⟩) hS (fun q _ h => hF q h) hF (fun r_0 u t H1 locs1 ht hvm hw hB hz1 hk1 hS => ?_)
  refine W.widen (k := 0) (n := 0) (Nat.le_of_ble_eq_true rfl) (Nat.le_of_ble_eq_true rfl) ?_
  subst hw
  obtain ⟨fs_2, hf_3, hP1, hK1, hD1⟩ := hB
  rw [ht] at hP1
  have hK1 := va_K.moved hvm.symm hK1
  obtain ⟨hP, hD⟩ := va_join (wr := []) (w1 := [(h0, .inr (1, fs_2))]) hP hD [0] [] rfl rfl (by decide) (by decide) hk1 hF hP1 hD1
  have hP : va_P D pv_cl [(h0, .inr (1, fs_2))] _ := hP
  have hD : va_D A [(h0, .inr (1, fs_2))] := hD
  refine lv_istore_n (lv' := [(2, .int r_0), (0, .ref h0), (1, .int p0)]) hx hb dX13_rewrite_5 rfl hl (by decide) rfl (fun ls hl => ?_)
  refine lv_aload_n hx hb dX13_rewrite_6 rfl (lv_at hl 1 rfl) ?_
  refine va_get (own := RX13) (D := D) (ci := 1) (v := .int 1) (C := RX13) (T := TX13) (N := 45) hx hb hts inF13 hown hK hP 0 rfl rfl 0 (by decide) (hg w8_205 rfl) (fun _ h9 => h9) hf_3 dX13_rewrite_7 ?_
  refine lv_if_le (tgt := 15) hx hb dX13_rewrite_10 (by decide) (fun c_4 => absurd c_4 (by decide)) (fun _ => ?_)
  refine lv_iconst (v := 0) hx hb dX13_rewrite_13 (by decide) ?_
  refine W.widen (k := 0) (n := 0) (Nat.le_of_ble_eq_true rfl) (Nat.le_of_ble_eq_true rfl) ?_
  exact W.iret (v := 0) hx hb hr (fun t ht hW => ⟨⟨0, 1, rfl, rfl, fs_2, hf_3, (by rw [ht]; exact hP.sub [0] rfl), va_K.moved hW.alike (hK.sub [] rfl), hD.sub [0] (by decide) rfl⟩, hS.F ht⟩) hS.2.2 dX13_rewrite_14

theorem dX13_steps_0 : decode cX13_steps 0 = .ok (.aload_n 0, 1) := by decide +kernel
theorem dX13_steps_1 : decode cX13_steps 1 = .ok (.iload_n 1, 1) := by decide +kernel
theorem dX13_steps_2 : decode cX13_steps 2 = .ok (.invokevirtual 451, 3) := by decide +kernel
theorem dX13_steps_5 : decode cX13_steps 5 = .ok (.ireturn, 1) := by decide +kernel
set_option maxHeartbeats 4000000 in
set_option maxRecDepth 100000 in
/-- steps on a fresh object: code 1 -/
theorem c_X13_steps (l : Launch) (hfl : l.stackTraces = false) (D : va_G) (sz : Nat) (h0 : Nat) (q : Nat → Nat) (p0 : Int32) : Met l yX13_steps (Cond.code yX13_steps cX13_steps 2 (some .int) :: pv_W) ({ frames := 3, cells := 0, slots := 0, locals := 64 } : Room) (va_Pc [.ref h0, .int p0] (pv_P D [] [(h0, .inr (1, pv_m 0 q))] (va_A [(h0, .inr (1, pv_m 0 q))] sz) sz)) (va_Qi (fun r (u : Int32) => u = 1) (fun (u : Int32) t => ∃ fs : List Value, fs[0]? = some (.int u) ∧ va_P D pv_cl [(h0, .inr (1, fs))] t.heap ∧ va_K D pv_cl [] t ∧ va_D (va_A [(h0, .inr (1, pv_m 0 q))] sz) [(h0, .inr (1, fs))]) (va_A [(h0, .inr (1, pv_m 0 q))] sz)) 0 0 (va_A [(h0, .inr (1, pv_m 0 q))] sz) := by
  refine Met.ofW (cc := cX13_steps) (maxL := 2) (ret := (some .int)) (by decide) rfl ?_
  intro p e s m args below meth c s₁ B hml hv
  obtain ⟨rfl, hsz, hE, hP, hK, hD0⟩ := hv
  have hx := B.exec
  have hb := B.bytes
  have hr := B.returns
  have hts := fun (w : Cond) (h : w ∈ pv_W) => atoms_spec (ws := Cond.code yX13_steps cX13_steps 2 (some .int) :: pv_W) B.pre w (List.mem_cons_of_mem _ h)
  have hg := fun {w : Cond} (h : w ∈ lw_tbl) (g : goodWord w = true) => hts w (pv_in h g)
  have hown : s.vm.findClass RX13 = some m.cls := findClass_of_methodNamed B.named
  have hlocks := B.notSynchronized
  subst hsz
  have hD := hD0.self (sz := s.heap.size)
  generalize hAe : va_A [(h0, .inr (1, pv_m 0 q))] s.heap.size = A at hD hE ⊢
  have hA : ∀ q : Nat, s.heap.size ≤ q → A q := fun q h => by rw [← hAe]; exact Or.inr h
  have hS : va_S A s.heap s.heap [] := va_S.rf
  have hP : va_P D pv_cl [(h0, .inr (1, pv_m 0 q))] s.heap := hP
  have hl := lv_entry ([.ref h0, .int p0]) (n := 2) (Nat.le_of_ble_eq_true rfl)
  rw [lg_entry_eq]
  generalize (lg_sl ([.ref h0, .int p0]) ++ List.replicate (2 - (lg_sl ([.ref h0, .int p0])).length) Slot.unset).toArray = ls at hl ⊢
  have hl : lv_has ls 2 [(0, .ref h0), (1, .int p0)] := hl
  refine lv_aload_n hx hb dX13_steps_0 rfl (lv_at hl 0 rfl) ?_
  refine lv_iload_n hx hb dX13_steps_1 rfl (lv_at hl 1 rfl) ?_
  have hF := va_free (wc := [(h0, .inr (1, pv_m 0 q))]) hD hS hA [0] rfl
  refine va_calli (va_runV (As := [.int p0]) (rest := []) ⟨hx, hb, hml, hown, hts⟩ (c_X13_rewritten l hfl D _ h0 q p0) (cwV 1 hts (pv_gV w11_94 w11_96 wp8_1 w1_10 w11_97) rfl rfl rfl (by decide +kernel) ⟨Nat.le_of_ble_eq_true rfl, Nat.le_of_ble_eq_true rfl⟩) (pv_pV hE hS hF (hP.sub [0] rfl) (hK.sub [] rfl) (hD.sub [0] (by decide) rfl) (va_recv (ci := 1) (q0 := 0) hK hP rfl rfl)) rfl rfl hl.1 rfl (lv_room (Nat.le_of_ble_eq_true rfl)) dX13_steps_2 ⟨Nat.le_of_ble_eq_true rfl, Nat.le_of_ble_eq_true rfl⟩) hS (fun q _ h => hF q h) hF (fun r_0 u t H1 locs1 ht hvm hw hB hz1 hk1 hS => ?_)
  refine W.widen (k := 0) (n := 0) (Nat.le_of_ble_eq_true rfl) (Nat.le_of_ble_eq_true rfl) ?_
  subst hw
  obtain ⟨fs_2, hf_3, hP1, hK1, hD1⟩ := hB
  rw [ht] at hP1
  have hK1 := va_K.moved hvm.symm hK1
  obtain ⟨hP, hD⟩ := va_join (wr := []) (w1 := [(h0, .inr (1, fs_2))]) hP hD [0] [] rfl rfl (by decide) (by decide) hk1 hF hP1 hD1
  have hP : va_P D pv_cl [(h0, .inr (1, fs_2))] _ := hP
  have hD : va_D A [(h0, .inr (1, fs_2))] := hD
  refine W.widen (k := 0) (n := 0) (Nat.le_of_ble_eq_true rfl) (Nat.le_of_ble_eq_true rfl) ?_
  exact W.iret (v := r_0) hx hb hr (fun t ht hW => ⟨⟨r_0, 1, rfl, rfl, fs_2, hf_3, (by rw [ht]; exact hP.sub [0] rfl), va_K.moved hW.alike (hK.sub [] rfl), hD.sub [0] (by decide) rfl⟩, hS.F ht⟩) hS.2.2 dX13_steps_5

theorem dX13_addGenerator_0 : decode cX13_addGenerator 0 = .ok (.aload_n 0, 1) := by decide +kernel
theorem dX13_addGenerator_1 : decode cX13_addGenerator 1 = .ok (.iconst 0, 1) := by decide +kernel
theorem dX13_addGenerator_2 : decode cX13_addGenerator 2 = .ok (.putfield 122, 3) := by decide +kernel
theorem dX13_addGenerator_5 : decode cX13_addGenerator 5 = .ok (.aload_n 0, 1) := by decide +kernel
theorem dX13_addGenerator_6 : decode cX13_addGenerator 6 = .ok (.iload_n 1, 1) := by decide +kernel
theorem dX13_addGenerator_7 : decode cX13_addGenerator 7 = .ok (.invokevirtual 402, 3) := by decide +kernel
theorem dX13_addGenerator_10 : decode cX13_addGenerator 10 = .ok (.ifCond .ne 9, 3) := by decide +kernel
theorem dX13_addGenerator_13 : decode cX13_addGenerator 13 = .ok (.aload_n 0, 1) := by decide +kernel
theorem dX13_addGenerator_14 : decode cX13_addGenerator 14 = .ok (.iconst 1, 1) := by decide +kernel
theorem dX13_addGenerator_15 : decode cX13_addGenerator 15 = .ok (.invokevirtual 185, 3) := by decide +kernel
theorem dX13_addGenerator_18 : decode cX13_addGenerator 18 = .ok (.ireturn, 1) := by decide +kernel
set_option maxHeartbeats 4000000 in
set_option maxRecDepth 100000 in
/-- addGenerator on a fresh object: code 1 -/
theorem c_X13_addGenerator (l : Launch) (hfl : l.stackTraces = false) (D : va_G) (sz : Nat) (h0 : Nat) (q : Nat → Nat) (p0 : Int32) (p1 : Int32) : Met l yX13_addGenerator (Cond.code yX13_addGenerator cX13_addGenerator 3 (some .int) :: pv_W) ({ frames := 2, cells := 0, slots := 0, locals := 43 } : Room) (va_Pc [.ref h0, .int p0, .int p1] (pv_P D [] [(h0, .inr (1, pv_m 0 q))] (va_A [(h0, .inr (1, pv_m 0 q))] sz) sz)) (va_Qi (fun r (u : Int32) => u = 1) (fun (u : Int32) t => ∃ fs : List Value, fs[0]? = some (.int u) ∧ va_P D pv_cl [(h0, .inr (1, fs))] t.heap ∧ va_K D pv_cl [] t ∧ va_D (va_A [(h0, .inr (1, pv_m 0 q))] sz) [(h0, .inr (1, fs))]) (va_A [(h0, .inr (1, pv_m 0 q))] sz)) 0 0 (va_A [(h0, .inr (1, pv_m 0 q))] sz) := by
  refine Met.ofW (cc := cX13_addGenerator) (maxL := 3) (ret := (some .int)) (by decide) rfl ?_
  intro p e s m args below meth c s₁ B hml hv
  obtain ⟨rfl, hsz, hE, hP, hK, hD0⟩ := hv
  have hx := B.exec
  have hb := B.bytes
  have hr := B.returns
  have hts := fun (w : Cond) (h : w ∈ pv_W) => atoms_spec (ws := Cond.code yX13_addGenerator cX13_addGenerator 3 (some .int) :: pv_W) B.pre w (List.mem_cons_of_mem _ h)
  have hg := fun {w : Cond} (h : w ∈ lw_tbl) (g : goodWord w = true) => hts w (pv_in h g)
  have hown : s.vm.findClass RX13 = some m.cls := findClass_of_methodNamed B.named
  have hlocks := B.notSynchronized
  subst hsz
  have hD := hD0.self (sz := s.heap.size)
  generalize hAe : va_A [(h0, .inr (1, pv_m 0 q))] s.heap.size = A at hD hE ⊢
  have hA : ∀ q : Nat, s.heap.size ≤ q → A q := fun q h => by rw [← hAe]; exact Or.inr h
  have hS : va_S A s.heap s.heap [] := va_S.rf
  have hP : va_P D pv_cl [(h0, .inr (1, pv_m 0 q))] s.heap := hP
  have hl := lv_entry ([.ref h0, .int p0, .int p1]) (n := 3) (Nat.le_of_ble_eq_true rfl)
  rw [lg_entry_eq]
  generalize (lg_sl ([.ref h0, .int p0, .int p1]) ++ List.replicate (3 - (lg_sl ([.ref h0, .int p0, .int p1])).length) Slot.unset).toArray = ls at hl ⊢
  have hl : lv_has ls 3 [(0, .ref h0), (1, .int p0), (2, .int p1)] := hl
  refine lv_aload_n hx hb dX13_addGenerator_0 rfl (lv_at hl 0 rfl) ?_
  refine lv_iconst (v := 0) hx hb dX13_addGenerator_1 (by decide) ?_
  refine va_put (own := RX13) (D := D) (ci := 1) (v := .int 0) (ty := .int) (C := RX13) (T := TX13) (N := 45) hx hb hts inF13 tyX13 tyX13_ok nmX13 hown hK hP hD hS 0 rfl rfl 0 (by decide) (hg w8_205 rfl) (fun _ h9 => h9) rfl (by decide +kernel) rfl rfl (Nat.le_of_ble_eq_true rfl) dX13_addGenerator_2 (fun H locs hP hD hS => ?_)
  have hP : va_P D pv_cl [(h0, .inr (1, pv_m 0 q))] _ := hP
  have hD : va_D A [(h0, .inr (1, pv_m 0 q))] := hD
  refine lv_aload_n hx hb dX13_addGenerator_5 rfl (lv_at hl 0 rfl) ?_
  refine lv_iload_n hx hb dX13_addGenerator_6 rfl (lv_at hl 1 rfl) ?_
  have hF := pv_new hA hS.1
  refine va_calli (va_runV (As := [.int p0]) (rest := []) ⟨hx, hb, hml, hown, hts⟩ (c_X13_isIdeal l hfl D _ h0 q p0) (cwV 1 hts (pv_gV w10_205 w10_207 wp7_1 w1_10 w10_208) rfl rfl rfl (by decide +kernel) ⟨Nat.le_of_ble_eq_true rfl, Nat.le_of_ble_eq_true rfl⟩) (pv_pV hE hS hF (hP.sub [0] rfl) (hK.sub [] rfl) (hD.sub [0] (by decide) rfl) (va_recv (ci := 1) (q0 := 0) hK hP rfl rfl)) rfl rfl hl.1 rfl (lv_room (Nat.le_of_ble_eq_true rfl)) dX13_addGenerator_7 ⟨Nat.le_of_ble_eq_true rfl, Nat.le_of_ble_eq_true rfl⟩) hS (fun q _ h => hF q h) hF (fun r_0 u t H1 locs1 ht hvm hw hB hz1 hk1 hS => ?_)
  refine W.widen (k := 0) (n := 0) (Nat.le_of_ble_eq_true rfl) (Nat.le_of_ble_eq_true rfl) ?_
  have hP := pv_keep hP rfl hk1
  obtain rfl := hw
  refine lv_if_ne (tgt := 19) hx hb dX13_addGenerator_10 (by decide) (fun c_2 => absurd (by decide) c_2) (fun _ => ?_)
  refine lv_aload_n hx hb dX13_addGenerator_13 rfl (lv_at hl 0 rfl) ?_
  refine lv_iconst (v := 1) hx hb dX13_addGenerator_14 (by decide) ?_
  have hF := va_free (wc := [(h0, .inr (1, pv_m 0 q))]) hD hS hA [0] rfl
  refine va_calli (va_runV (As := [.int 1]) (rest := []) ⟨hx, hb, hml, hown, hts⟩ (c_X13_fails l hfl D _ h0 q 1) (cwV 1 hts (pv_gV w9_113 w9_115 wp5_9 w1_10 w9_116) rfl rfl rfl (by decide +kernel) ⟨Nat.le_of_ble_eq_true rfl, Nat.le_of_ble_eq_true rfl⟩) (pv_pV hE hS hF (hP.sub [0] rfl) (hK.sub [] rfl) (hD.sub [0] (by decide) rfl) (va_recv (ci := 1) (q0 := 0) hK hP rfl rfl)) rfl rfl hl.1 rfl (lv_room (Nat.le_of_ble_eq_true rfl)) dX13_addGenerator_15 ⟨Nat.le_of_ble_eq_true rfl, Nat.le_of_ble_eq_true rfl⟩) hS (fun q _ h => hF q h) hF (fun r_2 u t H1 locs1 ht hvm hw hB hz1 hk1 hS => ?_)
  refine W.widen (k := 0) (n := 0) (Nat.le_of_ble_eq_true rfl) (Nat.le_of_ble_eq_true rfl) ?_
  obtain rfl := hw
  obtain ⟨hP1, hK1, hD1⟩ := hB
  rw [ht] at hP1
  have hK1 := va_K.moved hvm.symm hK1
  obtain ⟨hP, hD⟩ := va_join (wr := []) (w1 := [(h0, .inr (1, pv_m 1 q))]) hP hD [0] [] rfl rfl (by decide) (by decide) hk1 hF hP1 hD1
  have hP : va_P D pv_cl [(h0, .inr (1, pv_m 1 q))] _ := hP
  have hD : va_D A [(h0, .inr (1, pv_m 1 q))] := hD
  refine W.widen (k := 0) (n := 0) (Nat.le_of_ble_eq_true rfl) (Nat.le_of_ble_eq_true rfl) ?_
  exact W.iret (v := 0) hx hb hr (fun t ht hW => ⟨⟨0, 1, rfl, rfl, pv_m 1 q, rfl, (by rw [ht]; exact hP.sub [0] rfl), va_K.moved hW.alike (hK.sub [] rfl), hD.sub [0] (by decide) rfl⟩, hS.F ht⟩) hS.2.2 dX13_addGenerator_18

theorem dX13_basisCoefficient_0 : decode cX13_basisCoefficient 0 = .ok (.aload_n 0, 1) := by decide +kernel
theorem dX13_basisCoefficient_1 : decode cX13_basisCoefficient 1 = .ok (.iload_n 1, 1) := by decide +kernel
theorem dX13_basisCoefficient_2 : decode cX13_basisCoefficient 2 = .ok (.iload_n 2, 1) := by decide +kernel
theorem dX13_basisCoefficient_3 : decode cX13_basisCoefficient 3 = .ok (.invokevirtual 413, 3) := by decide +kernel
theorem w11_30 : (Jvm.Cond.methodLink "PolyforgeModel" (413 : Nat) ({ cls := "PolyforgeModel", name := "basisTerms", desc := "(II)I" } : Jvm.MethodName)) ∈ lw_tbl := pv_t11 (pv_mg 30 rfl)
theorem w11_24 : (Jvm.Cond.code ({ cls := "PolyforgeModel", name := "basisTerms", desc := "(II)I" } : Jvm.MethodName) prog_14_method_101_code (4 : Nat) (Option.some Jvm.ClassFile.FieldType.int)) ∈ lw_tbl := pv_t11 (pv_mg 24 rfl)
theorem w11_23 : (Jvm.Cond.selects "PolyforgeModel" ({ cls := "PolyforgeModel", name := "basisTerms", desc := "(II)I" } : Jvm.MethodName) ({ cls := "PolyforgeModel", name := "basisTerms", desc := "(II)I" } : Jvm.MethodName)) ∈ lw_tbl := pv_t11 (pv_mg 23 rfl)
theorem w11_22 : (Jvm.Cond.instanceMethod ({ cls := "PolyforgeModel", name := "basisTerms", desc := "(II)I" } : Jvm.MethodName)) ∈ lw_tbl := pv_t11 (pv_mg 22 rfl)
theorem dX13_basisCoefficient_6 : decode cX13_basisCoefficient 6 = .ok (.istore 4, 2) := by decide +kernel
theorem dX13_basisCoefficient_8 : decode cX13_basisCoefficient 8 = .ok (.aload_n 0, 1) := by decide +kernel
theorem dX13_basisCoefficient_9 : decode cX13_basisCoefficient 9 = .ok (.getfield 122, 3) := by decide +kernel
theorem dX13_basisCoefficient_12 : decode cX13_basisCoefficient 12 = .ok (.ifCond .le 5, 3) := by decide +kernel
theorem dX13_basisCoefficient_15 : decode cX13_basisCoefficient 15 = .ok (.iconst 0, 1) := by decide +kernel
theorem dX13_basisCoefficient_16 : decode cX13_basisCoefficient 16 = .ok (.ireturn, 1) := by decide +kernel
set_option maxHeartbeats 4000000 in
set_option maxRecDepth 100000 in
/-- basisCoefficient on a fresh object: code 1 -/
theorem c_X13_basisCoefficient (l : Launch) (hfl : l.stackTraces = false) (D : va_G) (sz : Nat) (h0 : Nat) (q : Nat → Nat) (p0 : Int32) (p1 : Int32) (p2 : Int32) : Met l yX13_basisCoefficient (Cond.code yX13_basisCoefficient cX13_basisCoefficient 5 (some .int) :: pv_W) ({ frames := 4, cells := 0, slots := 0, locals := 87 } : Room) (va_Pc [.ref h0, .int p0, .int p1, .int p2] (pv_P D [] [(h0, .inr (1, pv_m 0 q))] (va_A [(h0, .inr (1, pv_m 0 q))] sz) sz)) (va_Qi (fun r (u : Int32) => u = 1) (fun (u : Int32) t => ∃ fs : List Value, fs[0]? = some (.int u) ∧ va_P D pv_cl [(h0, .inr (1, fs))] t.heap ∧ va_K D pv_cl [] t ∧ va_D (va_A [(h0, .inr (1, pv_m 0 q))] sz) [(h0, .inr (1, fs))]) (va_A [(h0, .inr (1, pv_m 0 q))] sz)) 0 0 (va_A [(h0, .inr (1, pv_m 0 q))] sz) := by
  refine Met.ofW (cc := cX13_basisCoefficient) (maxL := 5) (ret := (some .int)) (by decide) rfl ?_
  intro p e s m args below meth c s₁ B hml hv
  obtain ⟨rfl, hsz, hE, hP, hK, hD0⟩ := hv
  have hx := B.exec
  have hb := B.bytes
  have hr := B.returns
  have hts := fun (w : Cond) (h : w ∈ pv_W) => atoms_spec (ws := Cond.code yX13_basisCoefficient cX13_basisCoefficient 5 (some .int) :: pv_W) B.pre w (List.mem_cons_of_mem _ h)
  have hg := fun {w : Cond} (h : w ∈ lw_tbl) (g : goodWord w = true) => hts w (pv_in h g)
  have hown : s.vm.findClass RX13 = some m.cls := findClass_of_methodNamed B.named
  have hlocks := B.notSynchronized
  subst hsz
  have hD := hD0.self (sz := s.heap.size)
  generalize hAe : va_A [(h0, .inr (1, pv_m 0 q))] s.heap.size = A at hD hE ⊢
  have hA : ∀ q : Nat, s.heap.size ≤ q → A q := fun q h => by rw [← hAe]; exact Or.inr h
  have hS : va_S A s.heap s.heap [] := va_S.rf
  have hP : va_P D pv_cl [(h0, .inr (1, pv_m 0 q))] s.heap := hP
  have hl := lv_entry ([.ref h0, .int p0, .int p1, .int p2]) (n := 5) (Nat.le_of_ble_eq_true rfl)
  rw [lg_entry_eq]
  generalize (lg_sl ([.ref h0, .int p0, .int p1, .int p2]) ++ List.replicate (5 - (lg_sl ([.ref h0, .int p0, .int p1, .int p2])).length) Slot.unset).toArray = ls at hl ⊢
  have hl : lv_has ls 5 [(0, .ref h0), (1, .int p0), (2, .int p1), (3, .int p2)] := hl
  refine lv_aload_n hx hb dX13_basisCoefficient_0 rfl (lv_at hl 0 rfl) ?_
  refine lv_iload_n hx hb dX13_basisCoefficient_1 rfl (lv_at hl 1 rfl) ?_
  refine lv_iload_n hx hb dX13_basisCoefficient_2 rfl (lv_at hl 2 rfl) ?_
  have hF := va_free (wc := [(h0, .inr (1, pv_m 0 q))]) hD hS hA [0] rfl
  refine va_calli (va_runV (As := [.int p0, .int p1]) (rest := []) ⟨hx, hb, hml, hown, hts⟩ (c_X13_basisTerms l hfl D _ h0 q p0 p1) (cwV 2 hts (pv_gV w11_30 w11_22 w11_23 w1_10 w11_24) rfl rfl rfl (by decide +kernel) ⟨Nat.le_of_ble_eq_true rfl, Nat.le_of_ble_eq_true rfl⟩) (pv_pV hE hS hF (hP.sub [0] rfl) (hK.sub [] rfl) (hD.sub [0] (by decide) rfl) (va_recv (ci := 1) (q0 := 0) hK hP rfl rfl)) rfl rfl hl.1 rfl (lv_room (Nat.le_of_ble_eq_true rfl)) dX13_basisCoefficient_3 ⟨Nat.le_of_ble_eq_true rfl, Nat.le_of_ble_eq_true rfl⟩) hS (fun q _ h => hF q h) hF (fun r_0 u t H1 locs1 ht hvm hw hB hz1 hk1 hS => ?_)
  refine W.widen (k := 0) (n := 0) (Nat.le_of_ble_eq_true rfl) (Nat.le_of_ble_eq_true rfl) ?_
  subst hw
  obtain ⟨fs_2, hf_3, hP1, hK1, hD1⟩ := hB
  rw [ht] at hP1
  have hK1 := va_K.moved hvm.symm hK1
  obtain ⟨hP, hD⟩ := va_join (wr := []) (w1 := [(h0, .inr (1, fs_2))]) hP hD [0] [] rfl rfl (by decide) (by decide) hk1 hF hP1 hD1
  have hP : va_P D pv_cl [(h0, .inr (1, fs_2))] _ := hP
  have hD : va_D A [(h0, .inr (1, fs_2))] := hD
  refine lv_istore (lv' := [(4, .int r_0), (0, .ref h0), (1, .int p0), (2, .int p1), (3, .int p2)]) hx hb dX13_basisCoefficient_6 hl (by decide) rfl (fun ls hl => ?_)
  refine lv_aload_n hx hb dX13_basisCoefficient_8 rfl (lv_at hl 1 rfl) ?_
  refine va_get (own := RX13) (D := D) (ci := 1) (v := .int 1) (C := RX13) (T := TX13) (N := 45) hx hb hts inF13 hown hK hP 0 rfl rfl 0 (by decide) (hg w8_205 rfl) (fun _ h9 => h9) hf_3 dX13_basisCoefficient_9 ?_
  refine lv_if_le (tgt := 17) hx hb dX13_basisCoefficient_12 (by decide) (fun c_4 => absurd c_4 (by decide)) (fun _ => ?_)
  refine lv_iconst (v := 0) hx hb dX13_basisCoefficient_15 (by decide) ?_
  refine W.widen (k := 0) (n := 0) (Nat.le_of_ble_eq_true rfl) (Nat.le_of_ble_eq_true rfl) ?_
  exact W.iret (v := 0) hx hb hr (fun t ht hW => ⟨⟨0, 1, rfl, rfl, fs_2, hf_3, (by rw [ht]; exact hP.sub [0] rfl), va_K.moved hW.alike (hK.sub [] rfl), hD.sub [0] (by decide) rfl⟩, hS.F ht⟩) hS.2.2 dX13_basisCoefficient_16

theorem dX13_basisExponent_0 : decode cX13_basisExponent 0 = .ok (.aload_n 0, 1) := by decide +kernel
theorem dX13_basisExponent_1 : decode cX13_basisExponent 1 = .ok (.iload_n 1, 1) := by decide +kernel
theorem dX13_basisExponent_2 : decode cX13_basisExponent 2 = .ok (.iload_n 2, 1) := by decide +kernel
theorem dX13_basisExponent_3 : decode cX13_basisExponent 3 = .ok (.invokevirtual 413, 3) := by decide +kernel
theorem dX13_basisExponent_6 : decode cX13_basisExponent 6 = .ok (.istore 5, 2) := by decide +kernel
theorem dX13_basisExponent_8 : decode cX13_basisExponent 8 = .ok (.aload_n 0, 1) := by decide +kernel
theorem dX13_basisExponent_9 : decode cX13_basisExponent 9 = .ok (.getfield 122, 3) := by decide +kernel
theorem dX13_basisExponent_12 : decode cX13_basisExponent 12 = .ok (.ifCond .le 5, 3) := by decide +kernel
theorem dX13_basisExponent_15 : decode cX13_basisExponent 15 = .ok (.iconst 0, 1) := by decide +kernel
theorem dX13_basisExponent_16 : decode cX13_basisExponent 16 = .ok (.ireturn, 1) := by decide +kernel
set_option maxHeartbeats 4000000 in
set_option maxRecDepth 100000 in
/-- basisExponent on a fresh object: code 1 -/
theorem c_X13_basisExponent (l : Launch) (hfl : l.stackTraces = false) (D : va_G) (sz : Nat) (h0 : Nat) (q : Nat → Nat) (p0 : Int32) (p1 : Int32) (p2 : Int32) (p3 : Int32) : Met l yX13_basisExponent (Cond.code yX13_basisExponent cX13_basisExponent 6 (some .int) :: pv_W) ({ frames := 4, cells := 0, slots := 0, locals := 87 } : Room) (va_Pc [.ref h0, .int p0, .int p1, .int p2, .int p3] (pv_P D [] [(h0, .inr (1, pv_m 0 q))] (va_A [(h0, .inr (1, pv_m 0 q))] sz) sz)) (va_Qi (fun r (u : Int32) => u = 1) (fun (u : Int32) t => ∃ fs : List Value, fs[0]? = some (.int u) ∧ va_P D pv_cl [(h0, .inr (1, fs))] t.heap ∧ va_K D pv_cl [] t ∧ va_D (va_A [(h0, .inr (1, pv_m 0 q))] sz) [(h0, .inr (1, fs))]) (va_A [(h0, .inr (1, pv_m 0 q))] sz)) 0 0 (va_A [(h0, .inr (1, pv_m 0 q))] sz) := by
  refine Met.ofW (cc := cX13_basisExponent) (maxL := 6) (ret := (some .int)) (by decide) rfl ?_
  intro p e s m args below meth c s₁ B hml hv
  obtain ⟨rfl, hsz, hE, hP, hK, hD0⟩ := hv
  have hx := B.exec
  have hb := B.bytes
  have hr := B.returns
  have hts := fun (w : Cond) (h : w ∈ pv_W) => atoms_spec (ws := Cond.code yX13_basisExponent cX13_basisExponent 6 (some .int) :: pv_W) B.pre w (List.mem_cons_of_mem _ h)
  have hg := fun {w : Cond} (h : w ∈ lw_tbl) (g : goodWord w = true) => hts w (pv_in h g)
  have hown : s.vm.findClass RX13 = some m.cls := findClass_of_methodNamed B.named
  have hlocks := B.notSynchronized
  subst hsz
  have hD := hD0.self (sz := s.heap.size)
  generalize hAe : va_A [(h0, .inr (1, pv_m 0 q))] s.heap.size = A at hD hE ⊢
  have hA : ∀ q : Nat, s.heap.size ≤ q → A q := fun q h => by rw [← hAe]; exact Or.inr h
  have hS : va_S A s.heap s.heap [] := va_S.rf
  have hP : va_P D pv_cl [(h0, .inr (1, pv_m 0 q))] s.heap := hP
  have hl := lv_entry ([.ref h0, .int p0, .int p1, .int p2, .int p3]) (n := 6) (Nat.le_of_ble_eq_true rfl)
  rw [lg_entry_eq]
  generalize (lg_sl ([.ref h0, .int p0, .int p1, .int p2, .int p3]) ++ List.replicate (6 - (lg_sl ([.ref h0, .int p0, .int p1, .int p2, .int p3])).length) Slot.unset).toArray = ls at hl ⊢
  have hl : lv_has ls 6 [(0, .ref h0), (1, .int p0), (2, .int p1), (3, .int p2), (4, .int p3)] := hl
  refine lv_aload_n hx hb dX13_basisExponent_0 rfl (lv_at hl 0 rfl) ?_
  refine lv_iload_n hx hb dX13_basisExponent_1 rfl (lv_at hl 1 rfl) ?_
  refine lv_iload_n hx hb dX13_basisExponent_2 rfl (lv_at hl 2 rfl) ?_
  have hF := va_free (wc := [(h0, .inr (1, pv_m 0 q))]) hD hS hA [0] rfl
  refine va_calli (va_runV (As := [.int p0, .int p1]) (rest := []) ⟨hx, hb, hml, hown, hts⟩ (c_X13_basisTerms l hfl D _ h0 q p0 p1) (cwV 2 hts (pv_gV w11_30 w11_22 w11_23 w1_10 w11_24) rfl rfl rfl (by decide +kernel) ⟨Nat.le_of_ble_eq_true rfl, Nat.le_of_ble_eq_true rfl⟩) (pv_pV hE hS hF (hP.sub [0] rfl) (hK.sub [] rfl) (hD.sub [0] (by decide) rfl) (va_recv (ci := 1) (q0 := 0) hK hP rfl rfl)) rfl rfl hl.1 rfl (lv_room (Nat.le_of_ble_eq_true rfl)) dX13_basisExponent_3 ⟨Nat.le_of_ble_eq_true rfl, Nat.le_of_ble_eq_true rfl⟩) hS (fun q _ h => hF q h) hF (fun r_0 u t H1 locs1 ht hvm hw hB hz1 hk1 hS => ?_)
  refine W.widen (k := 0) (n := 0) (Nat.le_of_ble_eq_true rfl) (Nat.le_of_ble_eq_true rfl) ?_
  subst hw
  obtain ⟨fs_2, hf_3, hP1, hK1, hD1⟩ := hB
  rw [ht] at hP1
  have hK1 := va_K.moved hvm.symm hK1
  obtain ⟨hP, hD⟩ := va_join (wr := []) (w1 := [(h0, .inr (1, fs_2))]) hP hD [0] [] rfl rfl (by decide) (by decide) hk1 hF hP1 hD1
  have hP : va_P D pv_cl [(h0, .inr (1, fs_2))] _ := hP
  have hD : va_D A [(h0, .inr (1, fs_2))] := hD
  refine lv_istore (lv' := [(5, .int r_0), (0, .ref h0), (1, .int p0), (2, .int p1), (3, .int p2), (4, .int p3)]) hx hb dX13_basisExponent_6 hl (by decide) rfl (fun ls hl => ?_)
  refine lv_aload_n hx hb dX13_basisExponent_8 rfl (lv_at hl 1 rfl) ?_
  refine va_get (own := RX13) (D := D) (ci := 1) (v := .int 1) (C := RX13) (T := TX13) (N := 45) hx hb hts inF13 hown hK hP 0 rfl rfl 0 (by decide) (hg w8_205 rfl) (fun _ h9 => h9) hf_3 dX13_basisExponent_9 ?_
  refine lv_if_le (tgt := 17) hx hb dX13_basisExponent_12 (by decide) (fun c_4 => absurd c_4 (by decide)) (fun _ => ?_)
  refine lv_iconst (v := 0) hx hb dX13_basisExponent_15 (by decide) ?_
  refine W.widen (k := 0) (n := 0) (Nat.le_of_ble_eq_true rfl) (Nat.le_of_ble_eq_true rfl) ?_
  exact W.iret (v := 0) hx hb hr (fun t ht hW => ⟨⟨0, 1, rfl, rfl, fs_2, hf_3, (by rw [ht]; exact hP.sub [0] rfl), va_K.moved hW.alike (hK.sub [] rfl), hD.sub [0] (by decide) rfl⟩, hS.F ht⟩) hS.2.2 dX13_basisExponent_16

theorem dX13_normalForm_0 : decode cX13_normalForm 0 = .ok (.aload_n 0, 1) := by decide +kernel
theorem dX13_normalForm_1 : decode cX13_normalForm 1 = .ok (.iload_n 1, 1) := by decide +kernel
theorem dX13_normalForm_2 : decode cX13_normalForm 2 = .ok (.iload_n 2, 1) := by decide +kernel
theorem dX13_normalForm_3 : decode cX13_normalForm 3 = .ok (.invokevirtual 416, 3) := by decide +kernel
theorem w11_39 : (Jvm.Cond.methodLink "PolyforgeModel" (416 : Nat) ({ cls := "PolyforgeModel", name := "fit", desc := "(II)Z" } : Jvm.MethodName)) ∈ lw_tbl := pv_t11 (pv_mg 39 rfl)
theorem w11_42 : (Jvm.Cond.code ({ cls := "PolyforgeModel", name := "fit", desc := "(II)Z" } : Jvm.MethodName) prog_14_method_105_code (3 : Nat) (Option.some Jvm.ClassFile.FieldType.boolean)) ∈ lw_tbl := pv_t11 (pv_mg 42 rfl)
theorem wp7_12 : Cond.selects "PolyforgeModel" ⟨"PolyforgeModel", "fit", "(II)Z"⟩ ⟨"PolyforgeModel", "fit", "(II)Z"⟩ ∈ lw_tbl := pv_mg 108 rfl
theorem w11_41 : (Jvm.Cond.instanceMethod ({ cls := "PolyforgeModel", name := "fit", desc := "(II)Z" } : Jvm.MethodName)) ∈ lw_tbl := pv_t11 (pv_mg 41 rfl)
theorem dX13_normalForm_6 : decode cX13_normalForm 6 = .ok (.ifCond .ne 5, 3) := by decide +kernel
theorem dX13_normalForm_9 : decode cX13_normalForm 9 = .ok (.iconst 0, 1) := by decide +kernel
theorem dX13_normalForm_10 : decode cX13_normalForm 10 = .ok (.ireturn, 1) := by decide +kernel
set_option maxHeartbeats 4000000 in
set_option maxRecDepth 100000 in
/-- normalForm on a fresh object: code 1 -/
theorem c_X13_normalForm (l : Launch) (hfl : l.stackTraces = false) (D : va_G) (sz : Nat) (h0 : Nat) (q : Nat → Nat) (p0 : Int32) (p1 : Int32) : Met l yX13_normalForm (Cond.code yX13_normalForm cX13_normalForm 3 (some .int) :: pv_W) ({ frames := 3, cells := 0, slots := 0, locals := 65 } : Room) (va_Pc [.ref h0, .int p0, .int p1] (pv_P D [] [(h0, .inr (1, pv_m 0 q))] (va_A [(h0, .inr (1, pv_m 0 q))] sz) sz)) (va_Qi (fun r (u : Int32) => u = 1) (fun (u : Int32) t => ∃ fs : List Value, fs[0]? = some (.int u) ∧ va_P D pv_cl [(h0, .inr (1, fs))] t.heap ∧ va_K D pv_cl [] t ∧ va_D (va_A [(h0, .inr (1, pv_m 0 q))] sz) [(h0, .inr (1, fs))]) (va_A [(h0, .inr (1, pv_m 0 q))] sz)) 0 0 (va_A [(h0, .inr (1, pv_m 0 q))] sz) := by
  refine Met.ofW (cc := cX13_normalForm) (maxL := 3) (ret := (some .int)) (by decide) rfl ?_
  intro p e s m args below meth c s₁ B hml hv
  obtain ⟨rfl, hsz, hE, hP, hK, hD0⟩ := hv
  have hx := B.exec
  have hb := B.bytes
  have hr := B.returns
  have hts := fun (w : Cond) (h : w ∈ pv_W) => atoms_spec (ws := Cond.code yX13_normalForm cX13_normalForm 3 (some .int) :: pv_W) B.pre w (List.mem_cons_of_mem _ h)
  have hg := fun {w : Cond} (h : w ∈ lw_tbl) (g : goodWord w = true) => hts w (pv_in h g)
  have hown : s.vm.findClass RX13 = some m.cls := findClass_of_methodNamed B.named
  have hlocks := B.notSynchronized
  subst hsz
  have hD := hD0.self (sz := s.heap.size)
  generalize hAe : va_A [(h0, .inr (1, pv_m 0 q))] s.heap.size = A at hD hE ⊢
  have hA : ∀ q : Nat, s.heap.size ≤ q → A q := fun q h => by rw [← hAe]; exact Or.inr h
  have hS : va_S A s.heap s.heap [] := va_S.rf
  have hP : va_P D pv_cl [(h0, .inr (1, pv_m 0 q))] s.heap := hP
  have hl := lv_entry ([.ref h0, .int p0, .int p1]) (n := 3) (Nat.le_of_ble_eq_true rfl)
  rw [lg_entry_eq]
  generalize (lg_sl ([.ref h0, .int p0, .int p1]) ++ List.replicate (3 - (lg_sl ([.ref h0, .int p0, .int p1])).length) Slot.unset).toArray = ls at hl ⊢
  have hl : lv_has ls 3 [(0, .ref h0), (1, .int p0), (2, .int p1)] := hl
  refine lv_aload_n hx hb dX13_normalForm_0 rfl (lv_at hl 0 rfl) ?_
  refine lv_iload_n hx hb dX13_normalForm_1 rfl (lv_at hl 1 rfl) ?_
  refine lv_iload_n hx hb dX13_normalForm_2 rfl (lv_at hl 2 rfl) ?_
  have hF := va_free (wc := [(h0, .inr (1, pv_m 0 q))]) hD hS hA [0] rfl
  refine va_calli (va_runV (As := [.int p0, .int p1]) (rest := []) ⟨hx, hb, hml, hown, hts⟩ (c_X13_fit l hfl D _ h0 q p0 p1) (cwV 2 hts (pv_gV w11_39 w11_41 wp7_12 w1_10 w11_42) rfl rfl rfl (by decide +kernel) ⟨Nat.le_of_ble_eq_true rfl, Nat.le_of_ble_eq_true rfl⟩) (pv_pV hE hS hF (hP.sub [0] rfl) (hK.sub [] rfl) (hD.sub [0] (by decide) rfl) (va_recv (ci := 1) (q0 := 0) hK hP rfl rfl)) rfl rfl hl.1 rfl (lv_room (Nat.le_of_ble_eq_true rfl)) dX13_normalForm_3 ⟨Nat.le_of_ble_eq_true rfl, Nat.le_of_ble_eq_true rfl⟩) hS (fun q _ h => hF q h) hF (fun r_0 u t H1 locs1 ht hvm hw hB hz1 hk1 hS => ?_)
  refine W.widen (k := 0) (n := 0) (Nat.le_of_ble_eq_true rfl) (Nat.le_of_ble_eq_true rfl) ?_
  obtain ⟨rfl, hw⟩ := hw
  subst hw
  obtain ⟨fs_2, hf_3, hP1, hK1, hD1⟩ := hB
  rw [ht] at hP1
  have hK1 := va_K.moved hvm.symm hK1
  obtain ⟨hP, hD⟩ := va_join (wr := []) (w1 := [(h0, .inr (1, fs_2))]) hP hD [0] [] rfl rfl (by decide) (by decide) hk1 hF hP1 hD1
  have hP : va_P D pv_cl [(h0, .inr (1, fs_2))] _ := hP
  have hD : va_D A [(h0, .inr (1, fs_2))] := hD
  refine lv_if_ne (tgt := 11) hx hb dX13_normalForm_6 (by decide) (fun c_4 => absurd (by decide) c_4) (fun _ => ?_)
  refine lv_iconst (v := 0) hx hb dX13_normalForm_9 (by decide) ?_
  refine W.widen (k := 0) (n := 0) (Nat.le_of_ble_eq_true rfl) (Nat.le_of_ble_eq_true rfl) ?_
  exact W.iret (v := 0) hx hb hr (fun t ht hW => ⟨⟨0, 1, rfl, rfl, fs_2, hf_3, (by rw [ht]; exact hP.sub [0] rfl), va_K.moved hW.alike (hK.sub [] rfl), hD.sub [0] (by decide) rfl⟩, hS.F ht⟩) hS.2.2 dX13_normalForm_10

theorem dX13_isIn_0 : decode cX13_isIn 0 = .ok (.aload_n 0, 1) := by decide +kernel
theorem dX13_isIn_1 : decode cX13_isIn 1 = .ok (.iload_n 1, 1) := by decide +kernel
theorem dX13_isIn_2 : decode cX13_isIn 2 = .ok (.iload_n 2, 1) := by decide +kernel
theorem dX13_isIn_3 : decode cX13_isIn 3 = .ok (.invokevirtual 416, 3) := by decide +kernel
theorem dX13_isIn_6 : decode cX13_isIn 6 = .ok (.ifCond .ne 5, 3) := by decide +kernel
theorem dX13_isIn_9 : decode cX13_isIn 9 = .ok (.iconst 0, 1) := by decide +kernel
theorem dX13_isIn_10 : decode cX13_isIn 10 = .ok (.ireturn, 1) := by decide +kernel
set_option maxHeartbeats 4000000 in
set_option maxRecDepth 100000 in
/-- isIn on a fresh object: code 1 -/
theorem c_X13_isIn (l : Launch) (hfl : l.stackTraces = false) (D : va_G) (sz : Nat) (h0 : Nat) (q : Nat → Nat) (p0 : Int32) (p1 : Int32) : Met l yX13_isIn (Cond.code yX13_isIn cX13_isIn 3 (some .boolean) :: pv_W) ({ frames := 3, cells := 0, slots := 0, locals := 65 } : Room) (va_Pc [.ref h0, .int p0, .int p1] (pv_P D [] [(h0, .inr (1, pv_m 0 q))] (va_A [(h0, .inr (1, pv_m 0 q))] sz) sz)) (va_Qi (fun r (u : Int32) => u = 1) (fun (u : Int32) t => ∃ fs : List Value, fs[0]? = some (.int u) ∧ va_P D pv_cl [(h0, .inr (1, fs))] t.heap ∧ va_K D pv_cl [] t ∧ va_D (va_A [(h0, .inr (1, pv_m 0 q))] sz) [(h0, .inr (1, fs))]) (va_A [(h0, .inr (1, pv_m 0 q))] sz)) 0 0 (va_A [(h0, .inr (1, pv_m 0 q))] sz) := by
  refine Met.ofW (cc := cX13_isIn) (maxL := 3) (ret := (some .boolean)) (by decide) rfl ?_
  intro p e s m args below meth c s₁ B hml hv
  obtain ⟨rfl, hsz, hE, hP, hK, hD0⟩ := hv
  have hx := B.exec
  have hb := B.bytes
  have hr := B.returns
  have hts := fun (w : Cond) (h : w ∈ pv_W) => atoms_spec (ws := Cond.code yX13_isIn cX13_isIn 3 (some .boolean) :: pv_W) B.pre w (List.mem_cons_of_mem _ h)
  have hg := fun {w : Cond} (h : w ∈ lw_tbl) (g : goodWord w = true) => hts w (pv_in h g)
  have hown : s.vm.findClass RX13 = some m.cls := findClass_of_methodNamed B.named
  have hlocks := B.notSynchronized
  subst hsz
  have hD := hD0.self (sz := s.heap.size)
  generalize hAe : va_A [(h0, .inr (1, pv_m 0 q))] s.heap.size = A at hD hE ⊢
  have hA : ∀ q : Nat, s.heap.size ≤ q → A q := fun q h => by rw [← hAe]; exact Or.inr h
  have hS : va_S A s.heap s.heap [] := va_S.rf
  have hP : va_P D pv_cl [(h0, .inr (1, pv_m 0 q))] s.heap := hP
  have hl := lv_entry ([.ref h0, .int p0, .int p1]) (n := 3) (Nat.le_of_ble_eq_true rfl)
  rw [lg_entry_eq]
  generalize (lg_sl ([.ref h0, .int p0, .int p1]) ++ List.replicate (3 - (lg_sl ([.ref h0, .int p0, .int p1])).length) Slot.unset).toArray = ls at hl ⊢
  have hl : lv_has ls 3 [(0, .ref h0), (1, .int p0), (2, .int p1)] := hl
  refine lv_aload_n hx hb dX13_isIn_0 rfl (lv_at hl 0 rfl) ?_
  refine lv_iload_n hx hb dX13_isIn_1 rfl (lv_at hl 1 rfl) ?_
  refine lv_iload_n hx hb dX13_isIn_2 rfl (lv_at hl 2 rfl) ?_
  have hF := va_free (wc := [(h0, .inr (1, pv_m 0 q))]) hD hS hA [0] rfl
  refine va_calli (va_runV (As := [.int p0, .int p1]) (rest := []) ⟨hx, hb, hml, hown, hts⟩ (c_X13_fit l hfl D _ h0 q p0 p1) (cwV 2 hts (pv_gV w11_39 w11_41 wp7_12 w1_10 w11_42) rfl rfl rfl (by decide +kernel) ⟨Nat.le_of_ble_eq_true rfl, Nat.le_of_ble_eq_true rfl⟩) (pv_pV hE hS hF (hP.sub [0] rfl) (hK.sub [] rfl) (hD.sub [0] (by decide) rfl) (va_recv (ci := 1) (q0 := 0) hK hP rfl rfl)) rfl rfl hl.1 rfl (lv_room (Nat.le_of_ble_eq_true rfl)) dX13_isIn_3 ⟨Nat.le_of_ble_eq_true rfl, Nat.le_of_ble_eq_true rfl⟩) hS (fun q _ h => hF q h) hF (fun r_0 u t H1 locs1 ht hvm hw hB hz1 hk1 hS => ?_)
  refine W.widen (k := 0) (n := 0) (Nat.le_of_ble_eq_true rfl) (Nat.le_of_ble_eq_true rfl) ?_
  obtain ⟨rfl, hw⟩ := hw
  subst hw
  obtain ⟨fs_2, hf_3, hP1, hK1, hD1⟩ := hB
  rw [ht] at hP1
  have hK1 := va_K.moved hvm.symm hK1
  obtain ⟨hP, hD⟩ := va_join (wr := []) (w1 := [(h0, .inr (1, fs_2))]) hP hD [0] [] rfl rfl (by decide) (by decide) hk1 hF hP1 hD1
  have hP : va_P D pv_cl [(h0, .inr (1, fs_2))] _ := hP
  have hD : va_D A [(h0, .inr (1, fs_2))] := hD
  refine lv_if_ne (tgt := 11) hx hb dX13_isIn_6 (by decide) (fun c_4 => absurd (by decide) c_4) (fun _ => ?_)
  refine lv_iconst (v := 0) hx hb dX13_isIn_9 (by decide) ?_
  refine W.widen (k := 0) (n := 0) (Nat.le_of_ble_eq_true rfl) (Nat.le_of_ble_eq_true rfl) ?_
  exact W.zret (v := 0) (ty := .boolean) hx hb hr rfl (fun t ht hW => ⟨⟨0, 1, rfl, rfl, fs_2, hf_3, (by rw [ht]; exact hP.sub [0] rfl), va_K.moved hW.alike (hK.sub [] rfl), hD.sub [0] (by decide) rfl⟩, hS.F ht⟩) hS.2.2 dX13_isIn_10

theorem dX13_size_0 : decode cX13_size 0 = .ok (.aload_n 0, 1) := by decide +kernel
theorem dX13_size_1 : decode cX13_size 1 = .ok (.iconst 0, 1) := by decide +kernel
theorem dX13_size_2 : decode cX13_size 2 = .ok (.putfield 122, 3) := by decide +kernel
theorem dX13_size_5 : decode cX13_size 5 = .ok (.aload_n 0, 1) := by decide +kernel
theorem dX13_size_6 : decode cX13_size 6 = .ok (.iload_n 1, 1) := by decide +kernel
theorem dX13_size_7 : decode cX13_size 7 = .ok (.invokevirtual 402, 3) := by decide +kernel
theorem dX13_size_10 : decode cX13_size 10 = .ok (.ifCond .ne 9, 3) := by decide +kernel
theorem dX13_size_13 : decode cX13_size 13 = .ok (.aload_n 0, 1) := by decide +kernel
theorem dX13_size_14 : decode cX13_size 14 = .ok (.iconst 1, 1) := by decide +kernel
theorem dX13_size_15 : decode cX13_size 15 = .ok (.invokevirtual 185, 3) := by decide +kernel
theorem dX13_size_18 : decode cX13_size 18 = .ok (.ireturn, 1) := by decide +kernel
set_option maxHeartbeats 4000000 in
set_option maxRecDepth 100000 in
/-- size on a fresh object: code 1 -/
theorem c_X13_size (l : Launch) (hfl : l.stackTraces = false) (D : va_G) (sz : Nat) (h0 : Nat) (q : Nat → Nat) (p0 : Int32) : Met l yX13_size (Cond.code yX13_size cX13_size 11 (some .int) :: pv_W) ({ frames := 2, cells := 0, slots := 0, locals := 43 } : Room) (va_Pc [.ref h0, .int p0] (pv_P D [] [(h0, .inr (1, pv_m 0 q))] (va_A [(h0, .inr (1, pv_m 0 q))] sz) sz)) (va_Qi (fun r (u : Int32) => u = 1) (fun (u : Int32) t => ∃ fs : List Value, fs[0]? = some (.int u) ∧ va_P D pv_cl [(h0, .inr (1, fs))] t.heap ∧ va_K D pv_cl [] t ∧ va_D (va_A [(h0, .inr (1, pv_m 0 q))] sz) [(h0, .inr (1, fs))]) (va_A [(h0, .inr (1, pv_m 0 q))] sz)) 0 0 (va_A [(h0, .inr (1, pv_m 0 q))] sz) := by
  refine Met.ofW (cc := cX13_size) (maxL := 11) (ret := (some .int)) (by decide) rfl ?_
  intro p e s m args below meth c s₁ B hml hv
  obtain ⟨rfl, hsz, hE, hP, hK, hD0⟩ := hv
  have hx := B.exec
  have hb := B.bytes
  have hr := B.returns
  have hts := fun (w : Cond) (h : w ∈ pv_W) => atoms_spec (ws := Cond.code yX13_size cX13_size 11 (some .int) :: pv_W) B.pre w (List.mem_cons_of_mem _ h)
  have hg := fun {w : Cond} (h : w ∈ lw_tbl) (g : goodWord w = true) => hts w (pv_in h g)
  have hown : s.vm.findClass RX13 = some m.cls := findClass_of_methodNamed B.named
  have hlocks := B.notSynchronized
  subst hsz
  have hD := hD0.self (sz := s.heap.size)
  generalize hAe : va_A [(h0, .inr (1, pv_m 0 q))] s.heap.size = A at hD hE ⊢
  have hA : ∀ q : Nat, s.heap.size ≤ q → A q := fun q h => by rw [← hAe]; exact Or.inr h
  have hS : va_S A s.heap s.heap [] := va_S.rf
  have hP : va_P D pv_cl [(h0, .inr (1, pv_m 0 q))] s.heap := hP
  have hl := lv_entry ([.ref h0, .int p0]) (n := 11) (Nat.le_of_ble_eq_true rfl)
  rw [lg_entry_eq]
  generalize (lg_sl ([.ref h0, .int p0]) ++ List.replicate (11 - (lg_sl ([.ref h0, .int p0])).length) Slot.unset).toArray = ls at hl ⊢
  have hl : lv_has ls 11 [(0, .ref h0), (1, .int p0)] := hl
  refine lv_aload_n hx hb dX13_size_0 rfl (lv_at hl 0 rfl) ?_
  refine lv_iconst (v := 0) hx hb dX13_size_1 (by decide) ?_
  refine va_put (own := RX13) (D := D) (ci := 1) (v := .int 0) (ty := .int) (C := RX13) (T := TX13) (N := 45) hx hb hts inF13 tyX13 tyX13_ok nmX13 hown hK hP hD hS 0 rfl rfl 0 (by decide) (hg w8_205 rfl) (fun _ h9 => h9) rfl (by decide +kernel) rfl rfl (Nat.le_of_ble_eq_true rfl) dX13_size_2 (fun H locs hP hD hS => ?_)
  have hP : va_P D pv_cl [(h0, .inr (1, pv_m 0 q))] _ := hP
  have hD : va_D A [(h0, .inr (1, pv_m 0 q))] := hD
  refine lv_aload_n hx hb dX13_size_5 rfl (lv_at hl 0 rfl) ?_
  refine lv_iload_n hx hb dX13_size_6 rfl (lv_at hl 1 rfl) ?_
  have hF := pv_new hA hS.1
  refine va_calli (va_runV (As := [.int p0]) (rest := []) ⟨hx, hb, hml, hown, hts⟩ (c_X13_isIdeal l hfl D _ h0 q p0) (cwV 1 hts (pv_gV w10_205 w10_207 wp7_1 w1_10 w10_208) rfl rfl rfl (by decide +kernel) ⟨Nat.le_of_ble_eq_true rfl, Nat.le_of_ble_eq_true rfl⟩) (pv_pV hE hS hF (hP.sub [0] rfl) (hK.sub [] rfl) (hD.sub [0] (by decide) rfl) (va_recv (ci := 1) (q0 := 0) hK hP rfl rfl)) rfl rfl hl.1 rfl (lv_room (Nat.le_of_ble_eq_true rfl)) dX13_size_7 ⟨Nat.le_of_ble_eq_true rfl, Nat.le_of_ble_eq_true rfl⟩) hS (fun q _ h => hF q h) hF (fun r_0 u t H1 locs1 ht hvm hw hB hz1 hk1 hS => ?_)
  refine W.widen (k := 0) (n := 0) (Nat.le_of_ble_eq_true rfl) (Nat.le_of_ble_eq_true rfl) ?_
  have hP := pv_keep hP rfl hk1
  obtain rfl := hw
  refine lv_if_ne (tgt := 19) hx hb dX13_size_10 (by decide) (fun c_2 => absurd (by decide) c_2) (fun _ => ?_)
  refine lv_aload_n hx hb dX13_size_13 rfl (lv_at hl 0 rfl) ?_
  refine lv_iconst (v := 1) hx hb dX13_size_14 (by decide) ?_
  have hF := va_free (wc := [(h0, .inr (1, pv_m 0 q))]) hD hS hA [0] rfl
  refine va_calli (va_runV (As := [.int 1]) (rest := []) ⟨hx, hb, hml, hown, hts⟩ (c_X13_fails l hfl D _ h0 q 1) (cwV 1 hts (pv_gV w9_113 w9_115 wp5_9 w1_10 w9_116) rfl rfl rfl (by decide +kernel) ⟨Nat.le_of_ble_eq_true rfl, Nat.le_of_ble_eq_true rfl⟩) (pv_pV hE hS hF (hP.sub [0] rfl) (hK.sub [] rfl) (hD.sub [0] (by decide) rfl) (va_recv (ci := 1) (q0 := 0) hK hP rfl rfl)) rfl rfl hl.1 rfl (lv_room (Nat.le_of_ble_eq_true rfl)) dX13_size_15 ⟨Nat.le_of_ble_eq_true rfl, Nat.le_of_ble_eq_true rfl⟩) hS (fun q _ h => hF q h) hF (fun r_2 u t H1 locs1 ht hvm hw hB hz1 hk1 hS => ?_)
  refine W.widen (k := 0) (n := 0) (Nat.le_of_ble_eq_true rfl) (Nat.le_of_ble_eq_true rfl) ?_
  obtain rfl := hw
  obtain ⟨hP1, hK1, hD1⟩ := hB
  rw [ht] at hP1
  have hK1 := va_K.moved hvm.symm hK1
  obtain ⟨hP, hD⟩ := va_join (wr := []) (w1 := [(h0, .inr (1, pv_m 1 q))]) hP hD [0] [] rfl rfl (by decide) (by decide) hk1 hF hP1 hD1
  have hP : va_P D pv_cl [(h0, .inr (1, pv_m 1 q))] _ := hP
  have hD : va_D A [(h0, .inr (1, pv_m 1 q))] := hD
  refine W.widen (k := 0) (n := 0) (Nat.le_of_ble_eq_true rfl) (Nat.le_of_ble_eq_true rfl) ?_
  exact W.iret (v := 0) hx hb hr (fun t ht hW => ⟨⟨0, 1, rfl, rfl, pv_m 1 q, rfl, (by rw [ht]; exact hP.sub [0] rfl), va_K.moved hW.alike (hK.sub [] rfl), hD.sub [0] (by decide) rfl⟩, hS.F ht⟩) hS.2.2 dX13_size_18

theorem dX13_closeFrame_0 : decode cX13_closeFrame 0 = .ok (.aload_n 0, 1) := by decide +kernel
theorem dX13_closeFrame_1 : decode cX13_closeFrame 1 = .ok (.iconst 0, 1) := by decide +kernel
theorem dX13_closeFrame_2 : decode cX13_closeFrame 2 = .ok (.putfield 122, 3) := by decide +kernel
theorem dX13_closeFrame_5 : decode cX13_closeFrame 5 = .ok (.aload_n 0, 1) := by decide +kernel
theorem dX13_closeFrame_6 : decode cX13_closeFrame 6 = .ok (.getfield 45, 3) := by decide +kernel
theorem dX13_closeFrame_9 : decode cX13_closeFrame 9 = .ok (.iconst 1, 1) := by decide +kernel
theorem dX13_closeFrame_10 : decode cX13_closeFrame 10 = .ok (.if_icmp .ne 9, 3) := by decide +kernel
theorem dX13_closeFrame_13 : decode cX13_closeFrame 13 = .ok (.aload_n 0, 1) := by decide +kernel
theorem dX13_closeFrame_14 : decode cX13_closeFrame 14 = .ok (.iconst 1, 1) := by decide +kernel
theorem dX13_closeFrame_15 : decode cX13_closeFrame 15 = .ok (.invokevirtual 185, 3) := by decide +kernel
theorem dX13_closeFrame_18 : decode cX13_closeFrame 18 = .ok (.ireturn, 1) := by decide +kernel
set_option maxHeartbeats 4000000 in
set_option maxRecDepth 100000 in
/-- closeFrame on a fresh object: code 1 -/
theorem c_X13_closeFrame (l : Launch) (hfl : l.stackTraces = false) (D : va_G) (sz : Nat) (h0 : Nat) (q : Nat → Nat) : Met l yX13_closeFrame (Cond.code yX13_closeFrame cX13_closeFrame 4 (some .int) :: pv_W) ({ frames := 1, cells := 0, slots := 0, locals := 21 } : Room) (va_Pc [.ref h0] (pv_P D [] [(h0, .inr (1, pv_m 0 q))] (va_A [(h0, .inr (1, pv_m 0 q))] sz) sz)) (va_Qi (fun r (u : Int32) => u = 1) (fun (u : Int32) t => ∃ fs : List Value, fs[0]? = some (.int u) ∧ va_P D pv_cl [(h0, .inr (1, fs))] t.heap ∧ va_K D pv_cl [] t ∧ va_D (va_A [(h0, .inr (1, pv_m 0 q))] sz) [(h0, .inr (1, fs))]) (va_A [(h0, .inr (1, pv_m 0 q))] sz)) 0 0 (va_A [(h0, .inr (1, pv_m 0 q))] sz) := by
  refine Met.ofW (cc := cX13_closeFrame) (maxL := 4) (ret := (some .int)) (by decide) rfl ?_
  intro p e s m args below meth c s₁ B hml hv
  obtain ⟨rfl, hsz, hE, hP, hK, hD0⟩ := hv
  have hx := B.exec
  have hb := B.bytes
  have hr := B.returns
  have hts := fun (w : Cond) (h : w ∈ pv_W) => atoms_spec (ws := Cond.code yX13_closeFrame cX13_closeFrame 4 (some .int) :: pv_W) B.pre w (List.mem_cons_of_mem _ h)
  have hg := fun {w : Cond} (h : w ∈ lw_tbl) (g : goodWord w = true) => hts w (pv_in h g)
  have hown : s.vm.findClass RX13 = some m.cls := findClass_of_methodNamed B.named
  have hlocks := B.notSynchronized
  subst hsz
  have hD := hD0.self (sz := s.heap.size)
  generalize hAe : va_A [(h0, .inr (1, pv_m 0 q))] s.heap.size = A at hD hE ⊢
  have hA : ∀ q : Nat, s.heap.size ≤ q → A q := fun q h => by rw [← hAe]; exact Or.inr h
  have hS : va_S A s.heap s.heap [] := va_S.rf
  have hP : va_P D pv_cl [(h0, .inr (1, pv_m 0 q))] s.heap := hP
  have hl := lv_entry ([.ref h0]) (n := 4) (Nat.le_of_ble_eq_true rfl)
  rw [lg_entry_eq]
  generalize (lg_sl ([.ref h0]) ++ List.replicate (4 - (lg_sl ([.ref h0])).length) Slot.unset).toArray = ls at hl ⊢
  have hl : lv_has ls 4 [(0, .ref h0)] := hl
  refine lv_aload_n hx hb dX13_closeFrame_0 rfl (lv_at hl 0 rfl) ?_
  refine lv_iconst (v := 0) hx hb dX13_closeFrame_1 (by decide) ?_
  refine va_put (own := RX13) (D := D) (ci := 1) (v := .int 0) (ty := .int) (C := RX13) (T := TX13) (N := 45) hx hb hts inF13 tyX13 tyX13_ok nmX13 hown hK hP hD hS 0 rfl rfl 0 (by decide) (hg w8_205 rfl) (fun _ h9 => h9) rfl (by decide +kernel) rfl rfl (Nat.le_of_ble_eq_true rfl) dX13_closeFrame_2 (fun H locs hP hD hS => ?_)
  have hP : va_P D pv_cl [(h0, .inr (1, pv_m 0 q))] _ := hP
  have hD : va_D A [(h0, .inr (1, pv_m 0 q))] := hD
  refine lv_aload_n hx hb dX13_closeFrame_5 rfl (lv_at hl 0 rfl) ?_
  refine va_get (own := RX13) (D := D) (ci := 1) (v := .int 1) (C := RX13) (T := TX13) (N := 45) hx hb hts inF13 hown hK hP 0 rfl rfl 15 (by decide) (hg w8_220 rfl) (fun _ h9 => h9) rfl dX13_closeFrame_6 ?_
  refine lv_iconst (v := 1) hx hb dX13_closeFrame_9 (by decide) ?_
  refine lv_icmp_ne (tgt := 19) hx hb dX13_closeFrame_10 (by decide) (fun c_1 => absurd (by decide) c_1) (fun _ => ?_)
  refine lv_aload_n hx hb dX13_closeFrame_13 rfl (lv_at hl 0 rfl) ?_
  refine lv_iconst (v := 1) hx hb dX13_closeFrame_14 (by decide) ?_
  have hF := va_free (wc := [(h0, .inr (1, pv_m 0 q))]) hD hS hA [0] rfl
  refine va_calli (va_runV (As := [.int 1]) (rest := []) ⟨hx, hb, hml, hown, hts⟩ (c_X13_fails l hfl D _ h0 q 1) (cwV 1 hts (pv_gV w9_113 w9_115 wp5_9 w1_10 w9_116) rfl rfl rfl (by decide +kernel) ⟨Nat.le_of_ble_eq_true rfl, Nat.le_of_ble_eq_true rfl⟩) (pv_pV hE hS hF (hP.sub [0] rfl) (hK.sub [] rfl) (hD.sub [0] (by decide) rfl) (va_recv (ci := 1) (q0 := 0) hK hP rfl rfl)) rfl rfl hl.1 rfl (lv_room (Nat.le_of_ble_eq_true rfl)) dX13_closeFrame_15 ⟨Nat.le_of_ble_eq_true rfl, Nat.le_of_ble_eq_true rfl⟩) hS (fun q _ h => hF q h) hF (fun r_1 u t H1 locs1 ht hvm hw hB hz1 hk1 hS => ?_)
  refine W.widen (k := 0) (n := 0) (Nat.le_of_ble_eq_true rfl) (Nat.le_of_ble_eq_true rfl) ?_
  obtain rfl := hw
  obtain ⟨hP1, hK1, hD1⟩ := hB
  rw [ht] at hP1
  have hK1 := va_K.moved hvm.symm hK1
  obtain ⟨hP, hD⟩ := va_join (wr := []) (w1 := [(h0, .inr (1, pv_m 1 q))]) hP hD [0] [] rfl rfl (by decide) (by decide) hk1 hF hP1 hD1
  have hP : va_P D pv_cl [(h0, .inr (1, pv_m 1 q))] _ := hP
  have hD : va_D A [(h0, .inr (1, pv_m 1 q))] := hD
  refine W.widen (k := 0) (n := 0) (Nat.le_of_ble_eq_true rfl) (Nat.le_of_ble_eq_true rfl) ?_
  exact W.iret (v := 0) hx hb hr (fun t ht hW => ⟨⟨0, 1, rfl, rfl, pv_m 1 q, rfl, (by rw [ht]; exact hP.sub [0] rfl), va_K.moved hW.alike (hK.sub [] rfl), hD.sub [0] (by decide) rfl⟩, hS.F ht⟩) hS.2.2 dX13_closeFrame_18

theorem dX13_lineShare_0 : decode cX13_lineShare 0 = .ok (.aload_n 0, 1) := by decide +kernel
theorem dX13_lineShare_1 : decode cX13_lineShare 1 = .ok (.aload_n 0, 1) := by decide +kernel
theorem dX13_lineShare_2 : decode cX13_lineShare 2 = .ok (.getfield 125, 3) := by decide +kernel
theorem dX13_lineShare_5 : decode cX13_lineShare 5 = .ok (.ifCond .ne 7, 3) := by decide +kernel
theorem dX13_lineShare_8 : decode cX13_lineShare 8 = .ok (.iconst 1, 1) := by decide +kernel
theorem dX13_lineShare_9 : decode cX13_lineShare 9 = .ok (.goto 4, 3) := by decide +kernel
theorem dX13_lineShare_13 : decode cX13_lineShare 13 = .ok (.putfield 122, 3) := by decide +kernel
theorem dX13_lineShare_16 : decode cX13_lineShare 16 = .ok (.iconst 0, 1) := by decide +kernel
theorem dX13_lineShare_17 : decode cX13_lineShare 17 = .ok (.istore_n 1, 1) := by decide +kernel
theorem dX13_lineShare_18 : decode cX13_lineShare 18 = .ok (.iconst 0, 1) := by decide +kernel
theorem dX13_lineShare_19 : decode cX13_lineShare 19 = .ok (.istore_n 2, 1) := by decide +kernel
theorem dX13_lineShare_20 : decode cX13_lineShare 20 = .ok (.iload_n 2, 1) := by decide +kernel
theorem dX13_lineShare_21 : decode cX13_lineShare 21 = .ok (.aload_n 0, 1) := by decide +kernel
theorem dX13_lineShare_22 : decode cX13_lineShare 22 = .ok (.getfield 125, 3) := by decide +kernel
theorem dX13_lineShare_25 : decode cX13_lineShare 25 = .ok (.if_icmp .ge 25, 3) := by decide +kernel
theorem dX13_lineShare_50 : decode cX13_lineShare 50 = .ok (.aload_n 0, 1) := by decide +kernel
theorem dX13_lineShare_51 : decode cX13_lineShare 51 = .ok (.getfield 122, 3) := by decide +kernel
theorem dX13_lineShare_54 : decode cX13_lineShare 54 = .ok (.ifCond .le 7, 3) := by decide +kernel
theorem dX13_lineShare_57 : decode cX13_lineShare 57 = .ok (.fconst 0, 1) := by decide +kernel
theorem dX13_lineShare_58 : decode cX13_lineShare 58 = .ok (.goto 11, 3) := by decide +kernel
theorem dX13_lineShare_69 : decode cX13_lineShare 69 = .ok (.freturn, 1) := by decide +kernel
set_option maxHeartbeats 4000000 in
set_option maxRecDepth 100000 in
/-- lineShare on a fresh object: code 1 -/
theorem c_X13_lineShare (l : Launch) (hfl : l.stackTraces = false) (D : va_G) (sz : Nat) (h0 : Nat) (q : Nat → Nat) : Met l yX13_lineShare (Cond.code yX13_lineShare cX13_lineShare 3 (some .float) :: pv_W) ({ frames := 0, cells := 0, slots := 0, locals := 0 } : Room) (va_Pc [.ref h0] (pv_P D [] [(h0, .inr (1, pv_m 0 q))] (va_A [(h0, .inr (1, pv_m 0 q))] sz) sz)) (va_Qf (fun r (u : Int32) => u = 1) (fun (u : Int32) t => ∃ fs : List Value, fs[0]? = some (.int u) ∧ va_P D pv_cl [(h0, .inr (1, fs))] t.heap ∧ va_K D pv_cl [] t ∧ va_D (va_A [(h0, .inr (1, pv_m 0 q))] sz) [(h0, .inr (1, fs))]) (va_A [(h0, .inr (1, pv_m 0 q))] sz)) 0 0 (va_A [(h0, .inr (1, pv_m 0 q))] sz) := by
  refine Met.ofW (cc := cX13_lineShare) (maxL := 3) (ret := (some .float)) (by decide) rfl ?_
  intro p e s m args below meth c s₁ B hml hv
  obtain ⟨rfl, hsz, hE, hP, hK, hD0⟩ := hv
  have hx := B.exec
  have hb := B.bytes
  have hr := B.returns
  have hts := fun (w : Cond) (h : w ∈ pv_W) => atoms_spec (ws := Cond.code yX13_lineShare cX13_lineShare 3 (some .float) :: pv_W) B.pre w (List.mem_cons_of_mem _ h)
  have hg := fun {w : Cond} (h : w ∈ lw_tbl) (g : goodWord w = true) => hts w (pv_in h g)
  have hown : s.vm.findClass RX13 = some m.cls := findClass_of_methodNamed B.named
  have hlocks := B.notSynchronized
  subst hsz
  have hD := hD0.self (sz := s.heap.size)
  generalize hAe : va_A [(h0, .inr (1, pv_m 0 q))] s.heap.size = A at hD hE ⊢
  have hA : ∀ q : Nat, s.heap.size ≤ q → A q := fun q h => by rw [← hAe]; exact Or.inr h
  have hS : va_S A s.heap s.heap [] := va_S.rf
  have hP : va_P D pv_cl [(h0, .inr (1, pv_m 0 q))] s.heap := hP
  have hl := lv_entry ([.ref h0]) (n := 3) (Nat.le_of_ble_eq_true rfl)
  rw [lg_entry_eq]
  generalize (lg_sl ([.ref h0]) ++ List.replicate (3 - (lg_sl ([.ref h0])).length) Slot.unset).toArray = ls at hl ⊢
  have hl : lv_has ls 3 [(0, .ref h0)] := hl
  refine lv_aload_n hx hb dX13_lineShare_0 rfl (lv_at hl 0 rfl) ?_
  refine lv_aload_n hx hb dX13_lineShare_1 rfl (lv_at hl 0 rfl) ?_
  refine va_get (own := RX13) (D := D) (ci := 1) (v := .int 0) (C := RX13) (T := TX13) (N := 45) hx hb hts inF13 hown hK hP 0 rfl rfl 2 (by decide) (hg w8_207 rfl) (fun _ h9 => h9) rfl dX13_lineShare_2 ?_
  refine lv_if_ne (tgt := 12) hx hb dX13_lineShare_5 (by decide) (fun c_1 => absurd (by decide) c_1) (fun _ => ?_)
  refine lv_iconst (v := 1) hx hb dX13_lineShare_8 (by decide) ?_
  refine lv_goto (tgt := 13) hx hb dX13_lineShare_9 (by decide) ?_
  refine va_put (own := RX13) (D := D) (ci := 1) (v := .int 1) (ty := .int) (C := RX13) (T := TX13) (N := 45) hx hb hts inF13 tyX13 tyX13_ok nmX13 hown hK hP hD hS 0 rfl rfl 0 (by decide) (hg w8_205 rfl) (fun _ h9 => h9) rfl (by decide +kernel) rfl rfl (Nat.le_of_ble_eq_true rfl) dX13_lineShare_13 (fun H locs hP hD hS => ?_)
  have hP : va_P D pv_cl [(h0, .inr (1, pv_m 1 q))] _ := hP
  have hD : va_D A [(h0, .inr (1, pv_m 1 q))] := hD
  refine lv_iconst (v := 0) hx hb dX13_lineShare_16 (by decide) ?_
  refine lv_istore_n (lv' := [(1, .int 0), (0, .ref h0)]) hx hb dX13_lineShare_17 rfl hl (by decide) rfl (fun ls hl => ?_)
  refine lv_iconst (v := 0) hx hb dX13_lineShare_18 (by decide) ?_
  refine lv_istore_n (lv' := [(2, .int 0), (1, .int 0), (0, .ref h0)]) hx hb dX13_lineShare_19 rfl hl (by decide) rfl (fun ls hl => ?_)
  refine lv_iload_n hx hb dX13_lineShare_20 rfl (lv_at hl 0 rfl) ?_
  refine lv_aload_n hx hb dX13_lineShare_21 rfl (lv_at hl 2 rfl) ?_
  refine va_get (own := RX13) (D := D) (ci := 1) (v := .int 0) (C := RX13) (T := TX13) (N := 45) hx hb hts inF13 hown hK hP 0 rfl rfl 2 (by decide) (hg w8_207 rfl) (fun _ h9 => h9) rfl dX13_lineShare_22 ?_
  refine lv_icmp_ge (tgt := 50) hx hb dX13_lineShare_25 (by decide) (fun _ => ?_) (fun c_2 => absurd (by decide) c_2)
  refine lv_aload_n hx hb dX13_lineShare_50 rfl (lv_at hl 2 rfl) ?_
  refine va_get (own := RX13) (D := D) (ci := 1) (v := .int 1) (C := RX13) (T := TX13) (N := 45) hx hb hts inF13 hown hK hP 0 rfl rfl 0 (by decide) (hg w8_205 rfl) (fun _ h9 => h9) rfl dX13_lineShare_51 ?_
  refine lv_if_le (tgt := 61) hx hb dX13_lineShare_54 (by decide) (fun c_3 => absurd c_3 (by decide)) (fun _ => ?_)
  refine lv_fconst0 hx hb dX13_lineShare_57 ?_
  refine lv_goto (tgt := 69) hx hb dX13_lineShare_58 (by decide) ?_
  refine W.widen (k := 0) (n := 0) (Nat.le_of_ble_eq_true rfl) (Nat.le_of_ble_eq_true rfl) ?_
  exact W.fret (v := FP.fconst0) hx hb hr (fun t ht hW => ⟨⟨FP.fconst0, 1, rfl, rfl, pv_m 1 q, rfl, (by rw [ht]; exact hP.sub [0] rfl), va_K.moved hW.alike (hK.sub [] rfl), hD.sub [0] (by decide) rfl⟩, hS.F ht⟩) hS.2.2 dX13_lineShare_69

theorem dX13_meanTerms_0 : decode cX13_meanTerms 0 = .ok (.aload_n 0, 1) := by decide +kernel
theorem dX13_meanTerms_1 : decode cX13_meanTerms 1 = .ok (.aload_n 0, 1) := by decide +kernel
theorem dX13_meanTerms_2 : decode cX13_meanTerms 2 = .ok (.getfield 125, 3) := by decide +kernel
theorem dX13_meanTerms_5 : decode cX13_meanTerms 5 = .ok (.ifCond .ne 7, 3) := by decide +kernel
theorem dX13_meanTerms_8 : decode cX13_meanTerms 8 = .ok (.iconst 1, 1) := by decide +kernel
theorem dX13_meanTerms_9 : decode cX13_meanTerms 9 = .ok (.goto 4, 3) := by decide +kernel
theorem dX13_meanTerms_13 : decode cX13_meanTerms 13 = .ok (.putfield 122, 3) := by decide +kernel
theorem dX13_meanTerms_16 : decode cX13_meanTerms 16 = .ok (.iconst 0, 1) := by decide +kernel
theorem dX13_meanTerms_17 : decode cX13_meanTerms 17 = .ok (.istore_n 1, 1) := by decide +kernel
theorem dX13_meanTerms_18 : decode cX13_meanTerms 18 = .ok (.iconst 0, 1) := by decide +kernel
theorem dX13_meanTerms_19 : decode cX13_meanTerms 19 = .ok (.istore_n 2, 1) := by decide +kernel
theorem dX13_meanTerms_20 : decode cX13_meanTerms 20 = .ok (.iload_n 2, 1) := by decide +kernel
theorem dX13_meanTerms_21 : decode cX13_meanTerms 21 = .ok (.aload_n 0, 1) := by decide +kernel
theorem dX13_meanTerms_22 : decode cX13_meanTerms 22 = .ok (.getfield 125, 3) := by decide +kernel
theorem dX13_meanTerms_25 : decode cX13_meanTerms 25 = .ok (.if_icmp .ge 21, 3) := by decide +kernel
theorem dX13_meanTerms_46 : decode cX13_meanTerms 46 = .ok (.aload_n 0, 1) := by decide +kernel
theorem dX13_meanTerms_47 : decode cX13_meanTerms 47 = .ok (.getfield 122, 3) := by decide +kernel
theorem dX13_meanTerms_50 : decode cX13_meanTerms 50 = .ok (.ifCond .le 7, 3) := by decide +kernel
theorem dX13_meanTerms_53 : decode cX13_meanTerms 53 = .ok (.dconst 0, 1) := by decide +kernel
theorem dX13_meanTerms_54 : decode cX13_meanTerms 54 = .ok (.goto 11, 3) := by decide +kernel
theorem dX13_meanTerms_65 : decode cX13_meanTerms 65 = .ok (.dreturn, 1) := by decide +kernel
set_option maxHeartbeats 4000000 in
set_option maxRecDepth 100000 in
/-- meanTerms on a fresh object: code 1 -/
theorem c_X13_meanTerms (l : Launch) (hfl : l.stackTraces = false) (D : va_G) (sz : Nat) (h0 : Nat) (q : Nat → Nat) : Met l yX13_meanTerms (Cond.code yX13_meanTerms cX13_meanTerms 3 (some .double) :: pv_W) ({ frames := 0, cells := 0, slots := 0, locals := 0 } : Room) (va_Pc [.ref h0] (pv_P D [] [(h0, .inr (1, pv_m 0 q))] (va_A [(h0, .inr (1, pv_m 0 q))] sz) sz)) (va_Qd (fun r (u : Int32) => u = 1) (fun (u : Int32) t => ∃ fs : List Value, fs[0]? = some (.int u) ∧ va_P D pv_cl [(h0, .inr (1, fs))] t.heap ∧ va_K D pv_cl [] t ∧ va_D (va_A [(h0, .inr (1, pv_m 0 q))] sz) [(h0, .inr (1, fs))]) (va_A [(h0, .inr (1, pv_m 0 q))] sz)) 0 0 (va_A [(h0, .inr (1, pv_m 0 q))] sz) := by
  refine Met.ofW (cc := cX13_meanTerms) (maxL := 3) (ret := (some .double)) (by decide) rfl ?_
  intro p e s m args below meth c s₁ B hml hv
  obtain ⟨rfl, hsz, hE, hP, hK, hD0⟩ := hv
  have hx := B.exec
  have hb := B.bytes
  have hr := B.returns
  have hts := fun (w : Cond) (h : w ∈ pv_W) => atoms_spec (ws := Cond.code yX13_meanTerms cX13_meanTerms 3 (some .double) :: pv_W) B.pre w (List.mem_cons_of_mem _ h)
  have hg := fun {w : Cond} (h : w ∈ lw_tbl) (g : goodWord w = true) => hts w (pv_in h g)
  have hown : s.vm.findClass RX13 = some m.cls := findClass_of_methodNamed B.named
  have hlocks := B.notSynchronized
  subst hsz
  have hD := hD0.self (sz := s.heap.size)
  generalize hAe : va_A [(h0, .inr (1, pv_m 0 q))] s.heap.size = A at hD hE ⊢
  have hA : ∀ q : Nat, s.heap.size ≤ q → A q := fun q h => by rw [← hAe]; exact Or.inr h
  have hS : va_S A s.heap s.heap [] := va_S.rf
  have hP : va_P D pv_cl [(h0, .inr (1, pv_m 0 q))] s.heap := hP
  have hl := lv_entry ([.ref h0]) (n := 3) (Nat.le_of_ble_eq_true rfl)
  rw [lg_entry_eq]
  generalize (lg_sl ([.ref h0]) ++ List.replicate (3 - (lg_sl ([.ref h0])).length) Slot.unset).toArray = ls at hl ⊢
  have hl : lv_has ls 3 [(0, .ref h0)] := hl
  refine lv_aload_n hx hb dX13_meanTerms_0 rfl (lv_at hl 0 rfl) ?_
  refine lv_aload_n hx hb dX13_meanTerms_1 rfl (lv_at hl 0 rfl) ?_
  refine va_get (own := RX13) (D := D) (ci := 1) (v := .int 0) (C := RX13) (T := TX13) (N := 45) hx hb hts inF13 hown hK hP 0 rfl rfl 2 (by decide) (hg w8_207 rfl) (fun _ h9 => h9) rfl dX13_meanTerms_2 ?_
  refine lv_if_ne (tgt := 12) hx hb dX13_meanTerms_5 (by decide) (fun c_1 => absurd (by decide) c_1) (fun _ => ?_)
  refine lv_iconst (v := 1) hx hb dX13_meanTerms_8 (by decide) ?_
  refine lv_goto (tgt := 13) hx hb dX13_meanTerms_9 (by decide) ?_
  refine va_put (own := RX13) (D := D) (ci := 1) (v := .int 1) (ty := .int) (C := RX13) (T := TX13) (N := 45) hx hb hts inF13 tyX13 tyX13_ok nmX13 hown hK hP hD hS 0 rfl rfl 0 (by decide) (hg w8_205 rfl) (fun _ h9 => h9) rfl (by decide +kernel) rfl rfl (Nat.le_of_ble_eq_true rfl) dX13_meanTerms_13 (fun H locs hP hD hS => ?_)
  have hP : va_P D pv_cl [(h0, .inr (1, pv_m 1 q))] _ := hP
  have hD : va_D A [(h0, .inr (1, pv_m 1 q))] := hD
  refine lv_iconst (v := 0) hx hb dX13_meanTerms_16 (by decide) ?_
  refine lv_istore_n (lv' := [(1, .int 0), (0, .ref h0)]) hx hb dX13_meanTerms_17 rfl hl (by decide) rfl (fun ls hl => ?_)
  refine lv_iconst (v := 0) hx hb dX13_meanTerms_18 (by decide) ?_
  refine lv_istore_n (lv' := [(2, .int 0), (1, .int 0), (0, .ref h0)]) hx hb dX13_meanTerms_19 rfl hl (by decide) rfl (fun ls hl => ?_)
  refine lv_iload_n hx hb dX13_meanTerms_20 rfl (lv_at hl 0 rfl) ?_
  refine lv_aload_n hx hb dX13_meanTerms_21 rfl (lv_at hl 2 rfl) ?_
  refine va_get (own := RX13) (D := D) (ci := 1) (v := .int 0) (C := RX13) (T := TX13) (N := 45) hx hb hts inF13 hown hK hP 0 rfl rfl 2 (by decide) (hg w8_207 rfl) (fun _ h9 => h9) rfl dX13_meanTerms_22 ?_
  refine lv_icmp_ge (tgt := 46) hx hb dX13_meanTerms_25 (by decide) (fun _ => ?_) (fun c_2 => absurd (by decide) c_2)
  refine lv_aload_n hx hb dX13_meanTerms_46 rfl (lv_at hl 2 rfl) ?_
  refine va_get (own := RX13) (D := D) (ci := 1) (v := .int 1) (C := RX13) (T := TX13) (N := 45) hx hb hts inF13 hown hK hP 0 rfl rfl 0 (by decide) (hg w8_205 rfl) (fun _ h9 => h9) rfl dX13_meanTerms_47 ?_
  refine lv_if_le (tgt := 57) hx hb dX13_meanTerms_50 (by decide) (fun c_3 => absurd c_3 (by decide)) (fun _ => ?_)
  refine lv_dconst0 hx hb dX13_meanTerms_53 ?_
  refine lv_goto (tgt := 65) hx hb dX13_meanTerms_54 (by decide) ?_
  refine W.widen (k := 0) (n := 0) (Nat.le_of_ble_eq_true rfl) (Nat.le_of_ble_eq_true rfl) ?_
  exact W.dret (v := FP.dconst0) hx hb hr (fun t ht hW => ⟨⟨FP.dconst0, 1, rfl, rfl, pv_m 1 q, rfl, (by rw [ht]; exact hP.sub [0] rfl), va_K.moved hW.alike (hK.sub [] rfl), hD.sub [0] (by decide) rfl⟩, hS.F ht⟩) hS.2.2 dX13_meanTerms_65

