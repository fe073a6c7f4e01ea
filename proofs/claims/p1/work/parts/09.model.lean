def pv_m (c : Int32) (q : Nat → Nat) : List Value := [.int c, .int 108, .int 0, .ref (q 0), .ref (q 1), .int 0, .int 0, .ref (q 2), .ref (q 3), .ref (q 4), .int 0, .ref (q 5), .ref (q 6), .ref (q 7), .ref (q 8), .int 1, .ref (q 9), .ref (q 10), .int 0, .int 0, .ref (q 11), .ref (q 12), .ref (q 13), .ref (q 14), .ref (q 15), .ref (q 16), .ref (q 17), .int (-1), .int 0, .int 0, .int 0, .ref (q 18), .ref (q 19), .ref (q 20), .ref (q 21), .ref (q 22), .ref (q 23), .int 0, .ref (q 24), .ref (q 25), .ref (q 26), .ref (q 27), .int 0, .ref (q 28), .ref (q 29)]
theorem pv_0m1 {p : Int32} (h : (0 : Int32) ≤ p ∧ p ≤ -1) : False := by
  have h1 := h.1
  have h2 := h.2
  rw [Int32.le_iff_toInt_le] at h1 h2
  have e0 : (0 : Int32).toInt = 0 := rfl
  have e1 : (-1 : Int32).toInt = -1 := rfl
  omega
theorem pv_in3 {v : Int32} : (0 : Int32) ≤ v ∧ v ≤ 2 ↔ pv_vr v := by
  unfold pv_vr
  rw [Int32.le_iff_toInt_le, Int32.le_iff_toInt_le, Int32.lt_iff_toInt_lt, Int32.le_iff_toInt_le]
  have e0 : (0 : Int32).toInt = 0 := rfl
  have e1 : (2 : Int32).toInt = 2 := rfl
  have e2 : (3 : Int32).toInt = 3 := rfl
  omega

theorem dX13_in_0 : decode cX13_in 0 = .ok (.iload_n 0, 1) := by decide +kernel
theorem dX13_in_1 : decode cX13_in 1 = .ok (.iload_n 1, 1) := by decide +kernel
theorem dX13_in_2 : decode cX13_in 2 = .ok (.if_icmp .lt 12, 3) := by decide +kernel
theorem dX13_in_14 : decode cX13_in 14 = .ok (.iconst 0, 1) := by decide +kernel
theorem dX13_in_15 : decode cX13_in 15 = .ok (.ireturn, 1) := by decide +kernel
theorem dX13_in_5 : decode cX13_in 5 = .ok (.iload_n 0, 1) := by decide +kernel
theorem dX13_in_6 : decode cX13_in 6 = .ok (.iload_n 2, 1) := by decide +kernel
theorem dX13_in_7 : decode cX13_in 7 = .ok (.if_icmp .gt 7, 3) := by decide +kernel
theorem dX13_in_10 : decode cX13_in 10 = .ok (.iconst 1, 1) := by decide +kernel
theorem dX13_in_11 : decode cX13_in 11 = .ok (.goto 4, 3) := by decide +kernel
set_option maxHeartbeats 4000000 in
set_option maxRecDepth 100000 in
/-- in -/
theorem c_X13_in (l : Launch) (hfl : l.stackTraces = false) (D : va_G) (sz : Nat) (p0 p1 p2 : Int32) : Met l yX13_in (Cond.code yX13_in cX13_in 3 (some .boolean) :: pv_W) ({ frames := 0, cells := 0, slots := 0, locals := 0 } : Room) (va_Pc [.int p0, .int p1, .int p2] (pv_P D [] [] (va_A [] sz) sz)) (va_Qi (fun r (_ : Unit) => (r = 1 ∧ p1 ≤ p0 ∧ p0 ≤ p2) ∨ (r = 0 ∧ ¬ (p1 ≤ p0 ∧ p0 ≤ p2))) (fun _ _ => True) (va_A [] sz)) 0 0 (va_A [] sz) := by
  refine Met.ofW (cc := cX13_in) (maxL := 3) (ret := (some .boolean)) (by decide) rfl ?_
  intro p e s m args below meth c s₁ B hml hv
  obtain ⟨rfl, hsz, hE, hP, hK, hD0⟩ := hv
  have hx := B.exec
  have hb := B.bytes
  have hr := B.returns
  have hts := fun (w : Cond) (h : w ∈ pv_W) => atoms_spec (ws := Cond.code yX13_in cX13_in 3 (some .boolean) :: pv_W) B.pre w (List.mem_cons_of_mem _ h)
  have hg := fun {w : Cond} (h : w ∈ lw_tbl) (g : goodWord w = true) => hts w (pv_in h g)
  have hown : s.vm.findClass RX13 = some m.cls := findClass_of_methodNamed B.named
  have hlocks := B.notSynchronized
  subst hsz
  have hD := hD0.self (sz := s.heap.size)
  generalize hAe : va_A [] s.heap.size = A at hD hE ⊢
  have hA : ∀ q : Nat, s.heap.size ≤ q → A q := fun q h => by rw [← hAe]; exact Or.inr h
  have hS : va_S A s.heap s.heap [] := va_S.rf
  have hP : va_P D pv_cl [] s.heap := hP
  have hl := lv_entry ([.int p0, .int p1, .int p2]) (n := 3) (Nat.le_of_ble_eq_true rfl)
  rw [lg_entry_eq]
  generalize (lg_sl ([.int p0, .int p1, .int p2]) ++ List.replicate (3 - (lg_sl ([.int p0, .int p1, .int p2])).length) Slot.unset).toArray = ls at hl ⊢
  have hl : lv_has ls 3 [(0, .int p0), (1, .int p1), (2, .int p2)] := hl
  refine lv_iload_n hx hb dX13_in_0 rfl (lv_at hl 0 rfl) ?_
  refine lv_iload_n hx hb dX13_in_1 rfl (lv_at hl 1 rfl) ?_
  refine lv_icmp_lt (tgt := 14) hx hb dX13_in_2 (by decide) (fun c_1 => ?_) (fun c_1 => ?_)
  · refine lv_iconst (v := 0) hx hb dX13_in_14 (by decide) ?_
    refine W.widen (k := 0) (n := 0) (Nat.le_of_ble_eq_true rfl) (Nat.le_of_ble_eq_true rfl) ?_
    exact W.zret (v := 0) (ty := .boolean) hx hb hr rfl (fun t ht hW => ⟨⟨0, (), rfl, Or.inr ⟨rfl, fun h => absurd (Int32.not_lt.mpr h.1) (fun h9 => h9 c_1)⟩, trivial⟩, hS.F ht⟩) hS.2.2 dX13_in_15
  · refine lv_iload_n hx hb dX13_in_5 rfl (lv_at hl 0 rfl) ?_
    refine lv_iload_n hx hb dX13_in_6 rfl (lv_at hl 2 rfl) ?_
    refine lv_icmp_gt (tgt := 14) hx hb dX13_in_7 (by decide) (fun c_2 => ?_) (fun c_2 => ?_)
    · refine lv_iconst (v := 0) hx hb dX13_in_14 (by decide) ?_
      refine W.widen (k := 0) (n := 0) (Nat.le_of_ble_eq_true rfl) (Nat.le_of_ble_eq_true rfl) ?_
      exact W.zret (v := 0) (ty := .boolean) hx hb hr rfl (fun t ht hW => ⟨⟨0, (), rfl, Or.inr ⟨rfl, fun h => absurd (Int32.not_lt.mpr h.2) (fun h9 => h9 c_2)⟩, trivial⟩, hS.F ht⟩) hS.2.2 dX13_in_15
    · refine lv_iconst (v := 1) hx hb dX13_in_10 (by decide) ?_
      refine lv_goto (tgt := 15) hx hb dX13_in_11 (by decide) ?_
      refine W.widen (k := 0) (n := 0) (Nat.le_of_ble_eq_true rfl) (Nat.le_of_ble_eq_true rfl) ?_
      exact W.zret (v := 1) (ty := .boolean) hx hb hr rfl (fun t ht hW => ⟨⟨1, (), rfl, Or.inl ⟨rfl, Int32.not_lt.mp c_1, Int32.not_lt.mp c_2⟩, trivial⟩, hS.F ht⟩) hS.2.2 dX13_in_15

theorem dX13_is_0 : decode cX13_is 0 = .ok (.iload_n 1, 1) := by decide +kernel
theorem dX13_is_1 : decode cX13_is 1 = .ok (.iconst 0, 1) := by decide +kernel
theorem dX13_is_2 : decode cX13_is 2 = .ok (.aload_n 0, 1) := by decide +kernel
theorem dX13_is_3 : decode cX13_is 3 = .ok (.getfield 125, 3) := by decide +kernel
theorem w8_207 : (Jvm.Cond.fieldLink "PolyforgeModel" (125 : Nat) "PolyforgeModel" "kept" "I") ∈ lw_tbl := pv_t8 (pv_mg 207 rfl)
theorem dX13_is_6 : decode cX13_is 6 = .ok (.iconst 1, 1) := by decide +kernel
theorem dX13_is_7 : decode cX13_is 7 = .ok (.isub, 1) := by decide +kernel
theorem dX13_is_8 : decode cX13_is 8 = .ok (.invokestatic 128, 3) := by decide +kernel
theorem w9_152 : (Jvm.Cond.methodLink "PolyforgeModel" (128 : Nat) ({ cls := "PolyforgeModel", name := "in", desc := "(III)Z" } : Jvm.MethodName)) ∈ lw_tbl := pv_t9 (pv_mg 152 rfl)
theorem w9_154 : (Jvm.Cond.code ({ cls := "PolyforgeModel", name := "in", desc := "(III)Z" } : Jvm.MethodName) prog_14_method_3_code (3 : Nat) (Option.some Jvm.ClassFile.FieldType.boolean)) ∈ lw_tbl := pv_t9 (pv_mg 154 rfl)
theorem w9_153 : (Jvm.Cond.static ({ cls := "PolyforgeModel", name := "in", desc := "(III)Z" } : Jvm.MethodName)) ∈ lw_tbl := pv_t9 (pv_mg 153 rfl)
theorem w1_10 : (Jvm.Cond.initialized "PolyforgeModel") ∈ lw_tbl := pv_t1 (pv_mg 10 rfl)
theorem dX13_is_11 : decode cX13_is 11 = .ok (.ireturn, 1) := by decide +kernel
set_option maxHeartbeats 4000000 in
set_option maxRecDepth 100000 in
/-- is on a fresh object: no -/
theorem c_X13_is (l : Launch) (hfl : l.stackTraces = false) (D : va_G) (sz : Nat) (h0 : Nat) (q : Nat → Nat) (p0 : Int32) : Met l yX13_is (Cond.code yX13_is cX13_is 2 (some .boolean) :: pv_W) ({ frames := 1, cells := 0, slots := 0, locals := 22 } : Room) (va_Pc [.ref h0, .int p0] (pv_P D [] [(h0, .inr (1, pv_m 0 q))] (va_A [] sz) sz)) (va_Qi (fun r (_ : Unit) => r = 0) (fun _ _ => True) (va_A [] sz)) 0 0 (va_A [] sz) := by
  refine Met.ofW (cc := cX13_is) (maxL := 2) (ret := (some .boolean)) (by decide) rfl ?_
  intro p e s m args below meth c s₁ B hml hv
  obtain ⟨rfl, hsz, hE, hP, hK, hD0⟩ := hv
  have hx := B.exec
  have hb := B.bytes
  have hr := B.returns
  have hts := fun (w : Cond) (h : w ∈ pv_W) => atoms_spec (ws := Cond.code yX13_is cX13_is 2 (some .boolean) :: pv_W) B.pre w (List.mem_cons_of_mem _ h)
  have hg := fun {w : Cond} (h : w ∈ lw_tbl) (g : goodWord w = true) => hts w (pv_in h g)
  have hown : s.vm.findClass RX13 = some m.cls := findClass_of_methodNamed B.named
  have hlocks := B.notSynchronized
  subst hsz
  have hD := hD0
  generalize hAe : va_A [] s.heap.size = A at hE ⊢
  have hA : ∀ q : Nat, s.heap.size ≤ q → A q := fun q h => by rw [← hAe]; exact Or.inr h
  have hS : va_S A s.heap s.heap [] := va_S.rf
  have hP : va_P D pv_cl [(h0, .inr (1, pv_m 0 q))] s.heap := hP
  have hl := lv_entry ([.ref h0, .int p0]) (n := 2) (Nat.le_of_ble_eq_true rfl)
  rw [lg_entry_eq]
  generalize (lg_sl ([.ref h0, .int p0]) ++ List.replicate (2 - (lg_sl ([.ref h0, .int p0])).length) Slot.unset).toArray = ls at hl ⊢
  have hl : lv_has ls 2 [(0, .ref h0), (1, .int p0)] := hl
  refine lv_iload_n hx hb dX13_is_0 rfl (lv_at hl 1 rfl) ?_
  refine lv_iconst (v := 0) hx hb dX13_is_1 (by decide) ?_
  refine lv_aload_n hx hb dX13_is_2 rfl (lv_at hl 0 rfl) ?_
  refine va_get (own := RX13) (D := D) (ci := 1) (v := .int 0) (C := RX13) (T := TX13) (N := 45) hx hb hts inF13 hown hK hP 0 rfl rfl 2 (by decide) (hg w8_207 rfl) (fun _ h9 => h9) rfl dX13_is_3 ?_
  refine lv_iconst (v := 1) hx hb dX13_is_6 (by decide) ?_
  refine lv_isub hx hb dX13_is_7 ?_
  refine pv_setI (-1) (by decide) ?_
  have hF := pv_new hA hS.1
  refine va_calli (va_runS (As := [.int p0, .int 0, .int (-1)]) (rest := []) ⟨hx, hb, hml, hown, hts⟩ (c_X13_in l hfl D _ p0 0 (-1)) (va_cwS 3 hts (pv_gS w9_152 w9_153 w1_10 w9_154) rfl rfl rfl (by decide +kernel) ⟨Nat.le_of_ble_eq_true rfl, Nat.le_of_ble_eq_true rfl⟩) (pv_ps hE hS hF (hP.sub [] rfl) (hK.sub [] rfl) (hD.sub [] (by decide) rfl)) rfl rfl hl.1 rfl (lv_room (Nat.le_of_ble_eq_true rfl)) dX13_is_8 ⟨Nat.le_of_ble_eq_true rfl, Nat.le_of_ble_eq_true rfl⟩) hS (fun q _ h => hF q h) hF (fun r_0 u t H1 locs1 ht hvm hw hB hz1 hk1 hS => ?_)
  refine W.widen (k := 0) (n := 0) (Nat.le_of_ble_eq_true rfl) (Nat.le_of_ble_eq_true rfl) ?_
  have hP := pv_keep hP rfl hk1
  rcases hw with ⟨rfl, a_2⟩ | ⟨rfl, a_2⟩
  · exact (pv_0m1 a_2).elim
  · refine W.widen (k := 0) (n := 0) (Nat.le_of_ble_eq_true rfl) (Nat.le_of_ble_eq_true rfl) ?_
    exact W.zret (v := 0) (ty := .boolean) hx hb hr rfl (fun t ht hW => ⟨⟨0, (), rfl, rfl, trivial⟩, hS.F ht⟩) hS.2.2 dX13_is_11

theorem dX13_isIdeal_0 : decode cX13_isIdeal 0 = .ok (.iload_n 1, 1) := by decide +kernel
theorem dX13_isIdeal_1 : decode cX13_isIdeal 1 = .ok (.iconst 0, 1) := by decide +kernel
theorem dX13_isIdeal_2 : decode cX13_isIdeal 2 = .ok (.aload_n 0, 1) := by decide +kernel
theorem dX13_isIdeal_3 : decode cX13_isIdeal 3 = .ok (.getfield 399, 3) := by decide +kernel
theorem w8_211 : (Jvm.Cond.fieldLink "PolyforgeModel" (399 : Nat) "PolyforgeModel" "ideals" "I") ∈ lw_tbl := pv_t8 (pv_mg 211 rfl)
theorem dX13_isIdeal_6 : decode cX13_isIdeal 6 = .ok (.iconst 1, 1) := by decide +kernel
theorem dX13_isIdeal_7 : decode cX13_isIdeal 7 = .ok (.isub, 1) := by decide +kernel
theorem dX13_isIdeal_8 : decode cX13_isIdeal 8 = .ok (.invokestatic 128, 3) := by decide +kernel
theorem dX13_isIdeal_11 : decode cX13_isIdeal 11 = .ok (.ireturn, 1) := by decide +kernel
set_option maxHeartbeats 4000000 in
set_option maxRecDepth 100000 in
/-- isIdeal on a fresh object: no -/
theorem c_X13_isIdeal (l : Launch) (hfl : l.stackTraces = false) (D : va_G) (sz : Nat) (h0 : Nat) (q : Nat → Nat) (p0 : Int32) : Met l yX13_isIdeal (Cond.code yX13_isIdeal cX13_isIdeal 2 (some .boolean) :: pv_W) ({ frames := 1, cells := 0, slots := 0, locals := 22 } : Room) (va_Pc [.ref h0, .int p0] (pv_P D [] [(h0, .inr (1, pv_m 0 q))] (va_A [] sz) sz)) (va_Qi (fun r (_ : Unit) => r = 0) (fun _ _ => True) (va_A [] sz)) 0 0 (va_A [] sz) := by
  refine Met.ofW (cc := cX13_isIdeal) (maxL := 2) (ret := (some .boolean)) (by decide) rfl ?_
  intro p e s m args below meth c s₁ B hml hv
  obtain ⟨rfl, hsz, hE, hP, hK, hD0⟩ := hv
  have hx := B.exec
  have hb := B.bytes
  have hr := B.returns
  have hts := fun (w : Cond) (h : w ∈ pv_W) => atoms_spec (ws := Cond.code yX13_isIdeal cX13_isIdeal 2 (some .boolean) :: pv_W) B.pre w (List.mem_cons_of_mem _ h)
  have hg := fun {w : Cond} (h : w ∈ lw_tbl) (g : goodWord w = true) => hts w (pv_in h g)
  have hown : s.vm.findClass RX13 = some m.cls := findClass_of_methodNamed B.named
  have hlocks := B.notSynchronized
  subst hsz
  have hD := hD0
  generalize hAe : va_A [] s.heap.size = A at hE ⊢
  have hA : ∀ q : Nat, s.heap.size ≤ q → A q := fun q h => by rw [← hAe]; exact Or.inr h
  have hS : va_S A s.heap s.heap [] := va_S.rf
  have hP : va_P D pv_cl [(h0, .inr (1, pv_m 0 q))] s.heap := hP
  have hl := lv_entry ([.ref h0, .int p0]) (n := 2) (Nat.le_of_ble_eq_true rfl)
  rw [lg_entry_eq]
  generalize (lg_sl ([.ref h0, .int p0]) ++ List.replicate (2 - (lg_sl ([.ref h0, .int p0])).length) Slot.unset).toArray = ls at hl ⊢
  have hl : lv_has ls 2 [(0, .ref h0), (1, .int p0)] := hl
  refine lv_iload_n hx hb dX13_isIdeal_0 rfl (lv_at hl 1 rfl) ?_
  refine lv_iconst (v := 0) hx hb dX13_isIdeal_1 (by decide) ?_
  refine lv_aload_n hx hb dX13_isIdeal_2 rfl (lv_at hl 0 rfl) ?_
  refine va_get (own := RX13) (D := D) (ci := 1) (v := .int 0) (C := RX13) (T := TX13) (N := 45) hx hb hts inF13 hown hK hP 0 rfl rfl 6 (by decide) (hg w8_211 rfl) (fun _ h9 => h9) rfl dX13_isIdeal_3 ?_
  refine lv_iconst (v := 1) hx hb dX13_isIdeal_6 (by decide) ?_
  refine lv_isub hx hb dX13_isIdeal_7 ?_
  refine pv_setI (-1) (by decide) ?_
  have hF := pv_new hA hS.1
  refine va_calli (va_runS (As := [.int p0, .int 0, .int (-1)]) (rest := []) ⟨hx, hb, hml, hown, hts⟩ (c_X13_in l hfl D _ p0 0 (-1)) (va_cwS 3 hts (pv_gS w9_152 w9_153 w1_10 w9_154) rfl rfl rfl (by decide +kernel) ⟨Nat.le_of_ble_eq_true rfl, Nat.le_of_ble_eq_true rfl⟩) (pv_ps hE hS hF (hP.sub [] rfl) (hK.sub [] rfl) (hD.sub [] (by decide) rfl)) rfl rfl hl.1 rfl (lv_room (Nat.le_of_ble_eq_true rfl)) dX13_isIdeal_8 ⟨Nat.le_of_ble_eq_true rfl, Nat.le_of_ble_eq_true rfl⟩) hS (fun q _ h => hF q h) hF (fun r_0 u t H1 locs1 ht hvm hw hB hz1 hk1 hS => ?_)
  refine W.widen (k := 0) (n := 0) (Nat.le_of_ble_eq_true rfl) (Nat.le_of_ble_eq_true rfl) ?_
  have hP := pv_keep hP rfl hk1
  rcases hw with ⟨rfl, a_2⟩ | ⟨rfl, a_2⟩
  · exact (pv_0m1 a_2).elim
  · refine W.widen (k := 0) (n := 0) (Nat.le_of_ble_eq_true rfl) (Nat.le_of_ble_eq_true rfl) ?_
    exact W.zret (v := 0) (ty := .boolean) hx hb hr rfl (fun t ht hW => ⟨⟨0, (), rfl, rfl, trivial⟩, hS.F ht⟩) hS.2.2 dX13_isIdeal_11

theorem dX13_are_0 : decode cX13_are 0 = .ok (.aload_n 0, 1) := by decide +kernel
theorem dX13_are_1 : decode cX13_are 1 = .ok (.iload_n 1, 1) := by decide +kernel
theorem dX13_are_2 : decode cX13_are 2 = .ok (.invokevirtual 132, 3) := by decide +kernel
theorem w9_168 : (Jvm.Cond.methodLink "PolyforgeModel" (132 : Nat) ({ cls := "PolyforgeModel", name := "is", desc := "(I)Z" } : Jvm.MethodName)) ∈ lw_tbl := pv_t9 (pv_mg 168 rfl)
theorem w9_171 : (Jvm.Cond.code ({ cls := "PolyforgeModel", name := "is", desc := "(I)Z" } : Jvm.MethodName) prog_14_method_6_code (2 : Nat) (Option.some Jvm.ClassFile.FieldType.boolean)) ∈ lw_tbl := pv_t9 (pv_mg 171 rfl)
theorem wp5_13 : Cond.selects "PolyforgeModel" ⟨"PolyforgeModel", "is", "(I)Z"⟩ ⟨"PolyforgeModel", "is", "(I)Z"⟩ ∈ lw_tbl := pv_mg 77 rfl
theorem w9_170 : (Jvm.Cond.instanceMethod ({ cls := "PolyforgeModel", name := "is", desc := "(I)Z" } : Jvm.MethodName)) ∈ lw_tbl := pv_t9 (pv_mg 170 rfl)
theorem dX13_are_5 : decode cX13_are 5 = .ok (.ifCond .eq 15, 3) := by decide +kernel
theorem dX13_are_20 : decode cX13_are 20 = .ok (.iconst 0, 1) := by decide +kernel
theorem dX13_are_21 : decode cX13_are 21 = .ok (.ireturn, 1) := by decide +kernel
set_option maxHeartbeats 4000000 in
set_option maxRecDepth 100000 in
/-- are on a fresh object: no -/
theorem c_X13_are (l : Launch) (hfl : l.stackTraces = false) (D : va_G) (sz : Nat) (h0 : Nat) (q : Nat → Nat) (p0 p1 : Int32) : Met l yX13_are (Cond.code yX13_are cX13_are 3 (some .boolean) :: pv_W) ({ frames := 2, cells := 0, slots := 0, locals := 43 } : Room) (va_Pc [.ref h0, .int p0, .int p1] (pv_P D [] [(h0, .inr (1, pv_m 0 q))] (va_A [] sz) sz)) (va_Qi (fun r (_ : Unit) => r = 0) (fun _ _ => True) (va_A [] sz)) 0 0 (va_A [] sz) := by
  refine Met.ofW (cc := cX13_are) (maxL := 3) (ret := (some .boolean)) (by decide) rfl ?_
  intro p e s m args below meth c s₁ B hml hv
  obtain ⟨rfl, hsz, hE, hP, hK, hD0⟩ := hv
  have hx := B.exec
  have hb := B.bytes
  have hr := B.returns
  have hts := fun (w : Cond) (h : w ∈ pv_W) => atoms_spec (ws := Cond.code yX13_are cX13_are 3 (some .boolean) :: pv_W) B.pre w (List.mem_cons_of_mem _ h)
  have hg := fun {w : Cond} (h : w ∈ lw_tbl) (g : goodWord w = true) => hts w (pv_in h g)
  have hown : s.vm.findClass RX13 = some m.cls := findClass_of_methodNamed B.named
  have hlocks := B.notSynchronized
  subst hsz
  have hD := hD0
  generalize hAe : va_A [] s.heap.size = A at hE ⊢
  have hA : ∀ q : Nat, s.heap.size ≤ q → A q := fun q h => by rw [← hAe]; exact Or.inr h
  have hS : va_S A s.heap s.heap [] := va_S.rf
  have hP : va_P D pv_cl [(h0, .inr (1, pv_m 0 q))] s.heap := hP
  have hl := lv_entry ([.ref h0, .int p0, .int p1]) (n := 3) (Nat.le_of_ble_eq_true rfl)
  rw [lg_entry_eq]
  generalize (lg_sl ([.ref h0, .int p0, .int p1]) ++ List.replicate (3 - (lg_sl ([.ref h0, .int p0, .int p1])).length) Slot.unset).toArray = ls at hl ⊢
  have hl : lv_has ls 3 [(0, .ref h0), (1, .int p0), (2, .int p1)] := hl
  refine lv_aload_n hx hb dX13_are_0 rfl (lv_at hl 0 rfl) ?_
  refine lv_iload_n hx hb dX13_are_1 rfl (lv_at hl 1 rfl) ?_
  have hF := pv_new hA hS.1
  refine va_calli (va_runV (As := [.int p0]) (rest := []) ⟨hx, hb, hml, hown, hts⟩ (c_X13_is l hfl D _ h0 q p0) (cwV 1 hts (pv_gV w9_168 w9_170 wp5_13 w1_10 w9_171) rfl rfl rfl (by decide +kernel) ⟨Nat.le_of_ble_eq_true rfl, Nat.le_of_ble_eq_true rfl⟩) (pv_pV hE hS hF (hP.sub [0] rfl) (hK.sub [] rfl) (hD.sub [0] (by decide) rfl) (va_recv (ci := 1) (q0 := 0) hK hP rfl rfl)) rfl rfl hl.1 rfl (lv_room (Nat.le_of_ble_eq_true rfl)) dX13_are_2 ⟨Nat.le_of_ble_eq_true rfl, Nat.le_of_ble_eq_true rfl⟩) hS (fun q _ h => hF q h) hF (fun r_0 u t H1 locs1 ht hvm hw hB hz1 hk1 hS => ?_)
  refine W.widen (k := 0) (n := 0) (Nat.le_of_ble_eq_true rfl) (Nat.le_of_ble_eq_true rfl) ?_
  have hP := pv_keep hP rfl hk1
  obtain rfl := hw
  refine lv_if_eq (tgt := 20) hx hb dX13_are_5 (by decide) (fun _ => ?_) (fun c_2 => absurd (by decide) c_2)
  refine lv_iconst (v := 0) hx hb dX13_are_20 (by decide) ?_
  refine W.widen (k := 0) (n := 0) (Nat.le_of_ble_eq_true rfl) (Nat.le_of_ble_eq_true rfl) ?_
  exact W.zret (v := 0) (ty := .boolean) hx hb hr rfl (fun t ht hW => ⟨⟨0, (), rfl, rfl, trivial⟩, hS.F ht⟩) hS.2.2 dX13_are_21

theorem dX13_fails_0 : decode cX13_fails 0 = .ok (.aload_n 0, 1) := by decide +kernel
theorem dX13_fails_1 : decode cX13_fails 1 = .ok (.iload_n 1, 1) := by decide +kernel
theorem dX13_fails_2 : decode cX13_fails 2 = .ok (.putfield 122, 3) := by decide +kernel
theorem w8_205 : (Jvm.Cond.fieldLink "PolyforgeModel" (122 : Nat) "PolyforgeModel" "code" "I") ∈ lw_tbl := pv_t8 (pv_mg 205 rfl)
theorem dX13_fails_5 : decode cX13_fails 5 = .ok (.iconst 0, 1) := by decide +kernel
theorem dX13_fails_6 : decode cX13_fails 6 = .ok (.ireturn, 1) := by decide +kernel
set_option maxHeartbeats 4000000 in
set_option maxRecDepth 100000 in
/-- fails -/
theorem c_X13_fails (l : Launch) (hfl : l.stackTraces = false) (D : va_G) (sz : Nat) (h0 : Nat) (q : Nat → Nat) (p0 : Int32) : Met l yX13_fails (Cond.code yX13_fails cX13_fails 2 (some .int) :: pv_W) ({ frames := 0, cells := 0, slots := 0, locals := 0 } : Room) (va_Pc [.ref h0, .int p0] (pv_P D [] [(h0, .inr (1, pv_m 0 q))] (va_A [(h0, .inr (1, pv_m 0 q))] sz) sz)) (va_Qi (fun r (_ : Unit) => r = 0) (fun _ t => va_P D pv_cl [(h0, .inr (1, pv_m p0 q))] t.heap ∧ va_K D pv_cl [] t ∧ va_D (va_A [(h0, .inr (1, pv_m 0 q))] sz) [(h0, .inr (1, pv_m p0 q))]) (va_A [(h0, .inr (1, pv_m 0 q))] sz)) 0 0 (va_A [(h0, .inr (1, pv_m 0 q))] sz) := by
  refine Met.ofW (cc := cX13_fails) (maxL := 2) (ret := (some .int)) (by decide) rfl ?_
  intro p e s m args below meth c s₁ B hml hv
  obtain ⟨rfl, hsz, hE, hP, hK, hD0⟩ := hv
  have hx := B.exec
  have hb := B.bytes
  have hr := B.returns
  have hts := fun (w : Cond) (h : w ∈ pv_W) => atoms_spec (ws := Cond.code yX13_fails cX13_fails 2 (some .int) :: pv_W) B.pre w (List.mem_cons_of_mem _ h)
  have hg := fun {w : Cond} (h : w ∈ lw_tbl) (g : goodWord w = true) => hts w (pv_in h g)
  have hown : s.vm.findClass RX13 = some m.cls := findClass_of_methodNamed B.named
  have hlocks := B.notSynchronized
  subst hsz
  have hD := hD0.self (sz := s.heap.size)
  generalize hAe : va_A [(h0, .inr (1, pv_m 0 q))] s.heap.size = A at hD hE ⊢
  have hA : ∀ q : Nat, s.heap.size ≤ q → A q := fun q h => by rw [← hAe]; exact Or.inr h
  have hS : va_S A s.heap s.heap [] := va_S.rf
  have hP : va_P D pv_cl [(h0, .inr (1, pv_m 0 q))] s.heap := hP
  have hl := lv_entry ([.ref h0, .int p0]) (n := 2) (Nat.le_of_ble_eq_true rfl)
  rw [lg_entry_eq]
  generalize (lg_sl ([.ref h0, .int p0]) ++ List.replicate (2 - (lg_sl ([.ref h0, .int p0])).length) Slot.unset).toArray = ls at hl ⊢
  have hl : lv_has ls 2 [(0, .ref h0), (1, .int p0)] := hl
  refine lv_aload_n hx hb dX13_fails_0 rfl (lv_at hl 0 rfl) ?_
  refine lv_iload_n hx hb dX13_fails_1 rfl (lv_at hl 1 rfl) ?_
  refine va_put (own := RX13) (D := D) (ci := 1) (v := .int p0) (ty := .int) (C := RX13) (T := TX13) (N := 45) hx hb hts inF13 tyX13 tyX13_ok nmX13 hown hK hP hD hS 0 rfl rfl 0 (by decide) (hg w8_205 rfl) (fun _ h9 => h9) rfl (by decide +kernel) rfl rfl (Nat.le_of_ble_eq_true rfl) dX13_fails_2 (fun H locs hP hD hS => ?_)
  have hP : va_P D pv_cl [(h0, .inr (1, pv_m p0 q))] _ := hP
  have hD : va_D A [(h0, .inr (1, pv_m p0 q))] := hD
  refine lv_iconst (v := 0) hx hb dX13_fails_5 (by decide) ?_
  refine W.widen (k := 0) (n := 0) (Nat.le_of_ble_eq_true rfl) (Nat.le_of_ble_eq_true rfl) ?_
  exact W.iret (v := 0) hx hb hr (fun t ht hW => ⟨⟨0, (), rfl, rfl, (by rw [ht]; exact hP.sub [0] rfl), va_K.moved hW.alike (hK.sub [] rfl), hD.sub [0] (by decide) rfl⟩, hS.F ht⟩) hS.2.2 dX13_fails_6

theorem dX13_thrown_0 : decode cX13_thrown 0 = .ok (.aload_n 0, 1) := by decide +kernel
theorem dX13_thrown_1 : decode cX13_thrown 1 = .ok (.getfield 122, 3) := by decide +kernel
theorem dX13_thrown_4 : decode cX13_thrown 4 = .ok (.ireturn, 1) := by decide +kernel
set_option maxHeartbeats 4000000 in
set_option maxRecDepth 100000 in
/-- thrown -/
theorem c_X13_thrown (l : Launch) (hfl : l.stackTraces = false) (D : va_G) (sz : Nat) (h0 : Nat) (fs : List Value) (c0 : Int32) (hc : fs[0]? = some (.int c0)) : Met l yX13_thrown (Cond.code yX13_thrown cX13_thrown 1 (some .int) :: pv_W) ({ frames := 0, cells := 0, slots := 0, locals := 0 } : Room) (va_Pc [.ref h0] (pv_P D [] [(h0, .inr (1, fs))] (va_A [] sz) sz)) (va_Qi (fun r (_ : Unit) => r = c0) (fun _ _ => True) (va_A [] sz)) 0 0 (va_A [] sz) := by
  refine Met.ofW (cc := cX13_thrown) (maxL := 1) (ret := (some .int)) (by decide) rfl ?_
  intro p e s m args below meth c s₁ B hml hv
  obtain ⟨rfl, hsz, hE, hP, hK, hD0⟩ := hv
  have hx := B.exec
  have hb := B.bytes
  have hr := B.returns
  have hts := fun (w : Cond) (h : w ∈ pv_W) => atoms_spec (ws := Cond.code yX13_thrown cX13_thrown 1 (some .int) :: pv_W) B.pre w (List.mem_cons_of_mem _ h)
  have hg := fun {w : Cond} (h : w ∈ lw_tbl) (g : goodWord w = true) => hts w (pv_in h g)
  have hown : s.vm.findClass RX13 = some m.cls := findClass_of_methodNamed B.named
  have hlocks := B.notSynchronized
  subst hsz
  have hD := hD0
  generalize hAe : va_A [] s.heap.size = A at hE ⊢
  have hA : ∀ q : Nat, s.heap.size ≤ q → A q := fun q h => by rw [← hAe]; exact Or.inr h
  have hS : va_S A s.heap s.heap [] := va_S.rf
  have hP : va_P D pv_cl [(h0, .inr (1, fs))] s.heap := hP
  have hl := lv_entry ([.ref h0]) (n := 1) (Nat.le_of_ble_eq_true rfl)
  rw [lg_entry_eq]
  generalize (lg_sl ([.ref h0]) ++ List.replicate (1 - (lg_sl ([.ref h0])).length) Slot.unset).toArray = ls at hl ⊢
  have hl : lv_has ls 1 [(0, .ref h0)] := hl
  refine lv_aload_n hx hb dX13_thrown_0 rfl (lv_at hl 0 rfl) ?_
  refine va_get (own := RX13) (D := D) (ci := 1) (v := .int c0) (C := RX13) (T := TX13) (N := 45) hx hb hts inF13 hown hK hP 0 rfl rfl 0 (by decide) (hg w8_205 rfl) (fun _ h9 => h9) hc dX13_thrown_1 ?_
  refine W.widen (k := 0) (n := 0) (Nat.le_of_ble_eq_true rfl) (Nat.le_of_ble_eq_true rfl) ?_
  exact W.iret (v := c0) hx hb hr (fun t ht hW => ⟨⟨c0, (), rfl, rfl, trivial⟩, hS.F ht⟩) hS.2.2 dX13_thrown_4

theorem pv_l00 {g : Int32} (h : ¬ g = 0) : ¬ g.toInt64 = 0 := by
  intro e
  have h1 : g.toInt64.toInt = (0 : Int64).toInt := by rw [e]
  rw [Int32.toInt_toInt64] at h1
  exact h (Int32.toInt_inj.mp h1)

theorem dX13_mod_0 : decode cX13_mod 0 = .ok (.iload_n 2, 1) := by decide +kernel
theorem dX13_mod_1 : decode cX13_mod 1 = .ok (.ifCond .ne 5, 3) := by decide +kernel
theorem dX13_mod_6 : decode cX13_mod 6 = .ok (.lload_n 0, 1) := by decide +kernel
theorem dX13_mod_7 : decode cX13_mod 7 = .ok (.iload_n 2, 1) := by decide +kernel
theorem dX13_mod_8 : decode cX13_mod 8 = .ok (.i2l, 1) := by decide +kernel
theorem dX13_mod_9 : decode cX13_mod 9 = .ok (.lrem, 1) := by decide +kernel
theorem dX13_mod_10 : decode cX13_mod 10 = .ok (.lstore_n 3, 1) := by decide +kernel
theorem dX13_mod_11 : decode cX13_mod 11 = .ok (.lload_n 3, 1) := by decide +kernel
theorem dX13_mod_12 : decode cX13_mod 12 = .ok (.lconst 0, 1) := by decide +kernel
theorem dX13_mod_13 : decode cX13_mod 13 = .ok (.lcmp, 1) := by decide +kernel
theorem dX13_mod_14 : decode cX13_mod 14 = .ok (.ifCond .ge 10, 3) := by decide +kernel
theorem dX13_mod_24 : decode cX13_mod 24 = .ok (.lload_n 3, 1) := by decide +kernel
theorem dX13_mod_25 : decode cX13_mod 25 = .ok (.lreturn, 1) := by decide +kernel
theorem dX13_mod_17 : decode cX13_mod 17 = .ok (.lload_n 3, 1) := by decide +kernel
theorem dX13_mod_18 : decode cX13_mod 18 = .ok (.iload_n 2, 1) := by decide +kernel
theorem dX13_mod_19 : decode cX13_mod 19 = .ok (.i2l, 1) := by decide +kernel
theorem dX13_mod_20 : decode cX13_mod 20 = .ok (.ladd, 1) := by decide +kernel
theorem dX13_mod_21 : decode cX13_mod 21 = .ok (.goto 4, 3) := by decide +kernel
theorem dX13_mod_4 : decode cX13_mod 4 = .ok (.lload_n 0, 1) := by decide +kernel
theorem dX13_mod_5 : decode cX13_mod 5 = .ok (.lreturn, 1) := by decide +kernel
set_option maxHeartbeats 4000000 in
set_option maxRecDepth 100000 in
/-- mod -/
theorem c_X13_mod (l : Launch) (hfl : l.stackTraces = false) (D : va_G) (sz : Nat) (p0 : Int64) (p1 : Int32) : Met l yX13_mod (Cond.code yX13_mod cX13_mod 5 (some .long) :: pv_W) ({ frames := 0, cells := 0, slots := 0, locals := 0 } : Room) (va_Pc [.long p0, .int p1] (pv_P D [] [] (va_A [] sz) sz)) (va_Ql (fun _ (_ : Unit) => True) (fun _ _ => True) (va_A [] sz)) 0 0 (va_A [] sz) := by
  refine Met.ofW (cc := cX13_mod) (maxL := 5) (ret := (some .long)) (by decide) rfl ?_
  intro p e s m args below meth c s₁ B hml hv
  obtain ⟨rfl, hsz, hE, hP, hK, hD0⟩ := hv
  have hx := B.exec
  have hb := B.bytes
  have hr := B.returns
  have hts := fun (w : Cond) (h : w ∈ pv_W) => atoms_spec (ws := Cond.code yX13_mod cX13_mod 5 (some .long) :: pv_W) B.pre w (List.mem_cons_of_mem _ h)
  have hg := fun {w : Cond} (h : w ∈ lw_tbl) (g : goodWord w = true) => hts w (pv_in h g)
  have hown : s.vm.findClass RX13 = some m.cls := findClass_of_methodNamed B.named
  have hlocks := B.notSynchronized
  subst hsz
  have hD := hD0.self (sz := s.heap.size)
  generalize hAe : va_A [] s.heap.size = A at hD hE ⊢
  have hA : ∀ q : Nat, s.heap.size ≤ q → A q := fun q h => by rw [← hAe]; exact Or.inr h
  have hS : va_S A s.heap s.heap [] := va_S.rf
  have hP : va_P D pv_cl [] s.heap := hP
  have hl := lv_entry ([.long p0, .int p1]) (n := 5) (Nat.le_of_ble_eq_true rfl)
  rw [lg_entry_eq]
  generalize (lg_sl ([.long p0, .int p1]) ++ List.replicate (5 - (lg_sl ([.long p0, .int p1])).length) Slot.unset).toArray = ls at hl ⊢
  have hl : lv_has ls 5 [(0, .long p0), (2, .int p1)] := hl
  refine lv_iload_n hx hb dX13_mod_0 rfl (lv_at hl 1 rfl) ?_
  refine lv_if_ne (tgt := 6) hx hb dX13_mod_1 (by decide) (fun c_1 => ?_) (fun c_1 => ?_)
  · refine lv_lload_n hx hb dX13_mod_6 rfl (lv_at hl 0 rfl) ?_
    refine lv_iload_n hx hb dX13_mod_7 rfl (lv_at hl 1 rfl) ?_
    refine lv_i2l hx hb dX13_mod_8 rfl ?_
    refine lv_lrem hx hb dX13_mod_9 (pv_l00 c_1) ?_
    refine lv_topl (fun x_2 ex_2 => ?_)
    refine lv_lstore_n (lv' := [(3, .long x_2), (0, .long p0), (2, .int p1)]) hx hb dX13_mod_10 rfl hl (by decide) rfl (fun ls hl => ?_)
    refine lv_lload_n hx hb dX13_mod_11 rfl (lv_at hl 0 rfl) ?_
    refine lv_lconst (v := 0) hx hb dX13_mod_12 (by decide) ?_
    refine W.lcmp hx hb dX13_mod_13 ?_
    refine lv_topi (fun x_3 ex_3 => ?_)
    refine lv_if_ge (tgt := 24) hx hb dX13_mod_14 (by decide) (fun c_4 => ?_) (fun c_4 => ?_)
    · refine lv_lload_n hx hb dX13_mod_24 rfl (lv_at hl 0 rfl) ?_
      refine W.widen (k := 0) (n := 0) (Nat.le_of_ble_eq_true rfl) (Nat.le_of_ble_eq_true rfl) ?_
      exact W.lret (v := x_2) hx hb hr (fun t ht hW => ⟨⟨x_2, (), rfl, trivial, trivial⟩, hS.F ht⟩) hS.2.2 dX13_mod_25
    · refine lv_lload_n hx hb dX13_mod_17 rfl (lv_at hl 0 rfl) ?_
      refine lv_iload_n hx hb dX13_mod_18 rfl (lv_at hl 2 rfl) ?_
      refine lv_i2l hx hb dX13_mod_19 rfl ?_
      refine lv_ladd hx hb dX13_mod_20 ?_
      refine lv_topl (fun x_5 ex_5 => ?_)
      refine lv_goto (tgt := 25) hx hb dX13_mod_21 (by decide) ?_
      refine W.widen (k := 0) (n := 0) (Nat.le_of_ble_eq_true rfl) (Nat.le_of_ble_eq_true rfl) ?_
      exact W.lret (v := x_5) hx hb hr (fun t ht hW => ⟨⟨x_5, (), rfl, trivial, trivial⟩, hS.F ht⟩) hS.2.2 dX13_mod_25
  · refine lv_lload_n hx hb dX13_mod_4 rfl (lv_at hl 0 rfl) ?_
    refine W.widen (k := 0) (n := 0) (Nat.le_of_ble_eq_true rfl) (Nat.le_of_ble_eq_true rfl) ?_
    exact W.lret (v := p0) hx hb hr (fun t ht hW => ⟨⟨p0, (), rfl, trivial, trivial⟩, hS.F ht⟩) hS.2.2 dX13_mod_5

theorem dX12_init_0 : decode cX12_init 0 = .ok (.aload_n 0, 1) := by decide +kernel
theorem dX12_init_1 : decode cX12_init 1 = .ok (.invokespecial 1, 3) := by decide +kernel
theorem w9_127 : (Jvm.Cond.methodLink "PolyforgeModel$Terms" (1 : Nat) ({ cls := "java/lang/Object", name := "<init>", desc := "()V" } : Jvm.MethodName)) ∈ lw_tbl := pv_t9 (pv_mg 127 rfl)
theorem dX12_init_4 : decode cX12_init 4 = .ok (.aload_n 0, 1) := by decide +kernel
theorem dX12_init_5 : decode cX12_init 5 = .ok (.iload_n 1, 1) := by decide +kernel
theorem dX12_init_6 : decode cX12_init 6 = .ok (.newarray .int, 2) := by decide +kernel
theorem w1_74 : (Jvm.Cond.arrayClass Jvm.ClassFile.FieldType.int) ∈ lw_tbl := pv_t1 (pv_mg 74 rfl)
theorem dX12_init_8 : decode cX12_init 8 = .ok (.putfield 7, 3) := by decide +kernel
theorem w9_128 : (Jvm.Cond.fieldLink "PolyforgeModel$Terms" (7 : Nat) "PolyforgeModel$Terms" "monomials" "[I") ∈ lw_tbl := pv_t9 (pv_mg 128 rfl)
theorem dX12_init_11 : decode cX12_init 11 = .ok (.aload_n 0, 1) := by decide +kernel
theorem dX12_init_12 : decode cX12_init 12 = .ok (.iload_n 1, 1) := by decide +kernel
theorem dX12_init_13 : decode cX12_init 13 = .ok (.newarray .long, 2) := by decide +kernel
theorem dX12_init_15 : decode cX12_init 15 = .ok (.putfield 13, 3) := by decide +kernel
theorem w9_130 : (Jvm.Cond.fieldLink "PolyforgeModel$Terms" (13 : Nat) "PolyforgeModel$Terms" "coefficients" "[J") ∈ lw_tbl := pv_t9 (pv_mg 130 rfl)
theorem dX12_init_18 : decode cX12_init 18 = .ok (.return_, 1) := by decide +kernel
set_option maxHeartbeats 4000000 in
set_option maxRecDepth 100000 in
/-- Terms(0) -/
theorem c_X12_init_0 (l : Launch) (hfl : l.stackTraces = false) (D : va_G) (sz : Nat) (h0 : Nat) : Met l yX12_init (Cond.code yX12_init cX12_init 2 none :: pv_W) ({ frames := 1, cells := 2, slots := 0, locals := 40 } : Room) (va_Pc [.ref h0, .int 0] (pv_P D [] [(h0, .inr (11, [.null, .null]))] (va_A [(h0, .inr (11, [.null, .null]))] sz) sz)) (va_Qv (fun (_ : Unit) => True) (fun _ t => ∃ (a b : Nat) (cI cJ : ClassId), va_P D pv_cl [(h0, .inr (11, [.ref a, .ref b])), (a, .inl (cI, 0, .inl (fun _ => 0))), (b, .inl (cJ, 0, .inr (.inl (fun _ => 0))))] t.heap ∧ va_K D pv_cl [(cI, .int), (cJ, .long)] t ∧ va_D (va_A [(h0, .inr (11, [.null, .null]))] sz) [(h0, .inr (11, [.ref a, .ref b])), (a, .inl (cI, 0, .inl (fun _ => 0))), (b, .inl (cJ, 0, .inr (.inl (fun _ => 0))))]) (va_A [(h0, .inr (11, [.null, .null]))] sz)) 2 0 (va_A [(h0, .inr (11, [.null, .null]))] sz) := by
  refine Met.ofW (cc := cX12_init) (maxL := 2) (ret := none) (by decide) rfl ?_
  intro p e s m args below meth c s₁ B hml hv
  obtain ⟨rfl, hsz, hE, hP, hK, hD0⟩ := hv
  have hx := B.exec
  have hb := B.bytes
  have hr := B.returns
  have hts := fun (w : Cond) (h : w ∈ pv_W) => atoms_spec (ws := Cond.code yX12_init cX12_init 2 none :: pv_W) B.pre w (List.mem_cons_of_mem _ h)
  have hg := fun {w : Cond} (h : w ∈ lw_tbl) (g : goodWord w = true) => hts w (pv_in h g)
  have hown : s.vm.findClass RX12 = some m.cls := findClass_of_methodNamed B.named
  have hlocks := B.notSynchronized
  have hin : meth.name = "<init>" := (name_of_methodNamed B.named B.method).1
  subst hsz
  have hD := hD0.self (sz := s.heap.size)
  generalize hAe : va_A [(h0, .inr (11, [.null, .null]))] s.heap.size = A at hD hE ⊢
  have hA : ∀ q : Nat, s.heap.size ≤ q → A q := fun q h => by rw [← hAe]; exact Or.inr h
  have hS : va_S A s.heap s.heap [] := va_S.rf
  have hP : va_P D pv_cl [(h0, .inr (11, [.null, .null]))] s.heap := hP
  have hl := lv_entry ([.ref h0, .int 0]) (n := 2) (Nat.le_of_ble_eq_true rfl)
  rw [lg_entry_eq]
  generalize (lg_sl ([.ref h0, .int 0]) ++ List.replicate (2 - (lg_sl ([.ref h0, .int 0])).length) Slot.unset).toArray = ls at hl ⊢
  have hl : lv_has ls 2 [(0, .ref h0), (1, .int 0)] := hl
  refine lv_aload_n hx hb dX12_init_0 rfl (lv_at hl 0 rfl) ?_
  refine W.objInit (own := RX12) hx hb hown (hg w9_127 rfl) (hg w1_36 rfl) (hg w1_37 rfl) rfl (hl.1.trans hml.symm) (rest := []) rfl dX12_init_1 (Nat.le_of_ble_eq_true rfl) (Nat.le_of_ble_eq_true rfl) ?_
  refine lv_aload_n hx hb dX12_init_4 rfl (lv_at hl 0 rfl) ?_
  refine lv_iload_n hx hb dX12_init_5 rfl (lv_at hl 1 rfl) ?_
  refine va_newa (atype := .int) hx hb (hg w1_74 rfl) (ty := .int) rfl hK hP hD hS hA (a0 := (0, .inl (fun _ => 0))) (fun _ => rfl) (by decide) (by decide +kernel) (Nat.le_of_ble_eq_true rfl) (Nat.le_of_ble_eq_true rfl) (Nat.le_of_ble_eq_true rfl) dX12_init_6 (fun q_1 cA_2 H hK hP hD hS => ?_)
  have hP : va_P D pv_cl [(h0, .inr (11, [.null, .null])), (q_1, .inl (cA_2, 0, .inl (fun _ => 0)))] _ := hP
  have hD : va_D A [(h0, .inr (11, [.null, .null])), (q_1, .inl (cA_2, 0, .inl (fun _ => 0)))] := hD
  have hK : va_K D pv_cl [(cA_2, .int)] s := hK
  refine W.widen (k := 1) (n := 0) (Nat.le_of_ble_eq_true rfl) (Nat.le_of_ble_eq_true rfl) ?_
  refine va_putF (own := RX12) (D := D) (ci := 11) (v := .ref q_1) (ty := .array .int) (C := RX12) (T := TX12) (N := 2) hx hb hts inF12 tyX12 tyX12_ok nmX12 hown hK hP hD hS 0 rfl rfl 0 (by decide) (hg w9_128 rfl) (fun _ h9 => h9) rfl hin rfl (by decide +kernel) rfl rfl (Nat.le_of_ble_eq_true rfl) dX12_init_8 (fun H locs hP hD hS => ?_)
  have hP : va_P D pv_cl [(h0, .inr (11, [.ref q_1, .null])), (q_1, .inl (cA_2, 0, .inl (fun _ => 0)))] _ := hP
  have hD : va_D A [(h0, .inr (11, [.ref q_1, .null])), (q_1, .inl (cA_2, 0, .inl (fun _ => 0)))] := hD
  refine lv_aload_n hx hb dX12_init_11 rfl (lv_at hl 0 rfl) ?_
  refine lv_iload_n hx hb dX12_init_12 rfl (lv_at hl 1 rfl) ?_
  refine va_newa (atype := .long) hx hb (hg w1_75 rfl) (ty := .long) rfl hK hP hD hS hA (a0 := (0, .inr (.inl (fun _ => 0)))) (fun _ => rfl) (by decide) (by decide +kernel) (Nat.le_of_ble_eq_true rfl) (Nat.le_of_ble_eq_true rfl) (Nat.le_of_ble_eq_true rfl) dX12_init_13 (fun q_3 cA_4 H hK hP hD hS => ?_)
  have hP : va_P D pv_cl [(h0, .inr (11, [.ref q_1, .null])), (q_1, .inl (cA_2, 0, .inl (fun _ => 0))), (q_3, .inl (cA_4, 0, .inr (.inl (fun _ => 0))))] _ := hP
  have hD : va_D A [(h0, .inr (11, [.ref q_1, .null])), (q_1, .inl (cA_2, 0, .inl (fun _ => 0))), (q_3, .inl (cA_4, 0, .inr (.inl (fun _ => 0))))] := hD
  have hK : va_K D pv_cl [(cA_2, .int), (cA_4, .long)] s := hK
  refine W.widen (k := 2) (n := 0) (Nat.le_of_ble_eq_true rfl) (Nat.le_of_ble_eq_true rfl) ?_
  refine va_putF (own := RX12) (D := D) (ci := 11) (v := .ref q_3) (ty := .array .long) (C := RX12) (T := TX12) (N := 2) hx hb hts inF12 tyX12 tyX12_ok nmX12 hown hK hP hD hS 0 rfl rfl 1 (by decide) (hg w9_130 rfl) (fun _ h9 => h9) rfl hin rfl (by decide +kernel) rfl rfl (Nat.le_of_ble_eq_true rfl) dX12_init_15 (fun H locs hP hD hS => ?_)
  have hP : va_P D pv_cl [(h0, .inr (11, [.ref q_1, .ref q_3])), (q_1, .inl (cA_2, 0, .inl (fun _ => 0))), (q_3, .inl (cA_4, 0, .inr (.inl (fun _ => 0))))] _ := hP
  have hD : va_D A [(h0, .inr (11, [.ref q_1, .ref q_3])), (q_1, .inl (cA_2, 0, .inl (fun _ => 0))), (q_3, .inl (cA_4, 0, .inr (.inl (fun _ => 0))))] := hD
  refine W.widen (k := 2) (n := 0) (Nat.le_of_ble_eq_true rfl) (Nat.le_of_ble_eq_true rfl) ?_
  exact W.vret hx hb hr (fun t ht hW => ⟨⟨(), rfl, trivial, q_1, q_3, cA_2, cA_4, (by rw [ht]; exact hP.sub [0, 1, 2] rfl), va_K.moved hW.alike (hK.sub [0, 1] rfl), hD.sub [0, 1, 2] (by decide) rfl⟩, hS.F ht⟩) hS.2.2 dX12_init_18

set_option maxHeartbeats 4000000 in
set_option maxRecDepth 100000 in
/-- Terms(1) -/
theorem c_X12_init_1 (l : Launch) (hfl : l.stackTraces = false) (D : va_G) (sz : Nat) (h0 : Nat) : Met l yX12_init (Cond.code yX12_init cX12_init 2 none :: pv_W) ({ frames := 1, cells := 2, slots := 2, locals := 40 } : Room) (va_Pc [.ref h0, .int 1] (pv_P D [] [(h0, .inr (11, [.null, .null]))] (va_A [(h0, .inr (11, [.null, .null]))] sz) sz)) (va_Qv (fun (_ : Unit) => True) (fun _ t => ∃ (a b : Nat) (cI cJ : ClassId), va_P D pv_cl [(h0, .inr (11, [.ref a, .ref b])), (a, .inl (cI, 1, .inl (fun _ => 0))), (b, .inl (cJ, 1, .inr (.inl (fun _ => 0))))] t.heap ∧ va_K D pv_cl [(cI, .int), (cJ, .long)] t ∧ va_D (va_A [(h0, .inr (11, [.null, .null]))] sz) [(h0, .inr (11, [.ref a, .ref b])), (a, .inl (cI, 1, .inl (fun _ => 0))), (b, .inl (cJ, 1, .inr (.inl (fun _ => 0))))]) (va_A [(h0, .inr (11, [.null, .null]))] sz)) 2 2 (va_A [(h0, .inr (11, [.null, .null]))] sz) := by
  refine Met.ofW (cc := cX12_init) (maxL := 2) (ret := none) (by decide) rfl ?_
  intro p e s m args below meth c s₁ B hml hv
  obtain ⟨rfl, hsz, hE, hP, hK, hD0⟩ := hv
  have hx := B.exec
  have hb := B.bytes
  have hr := B.returns
  have hts := fun (w : Cond) (h : w ∈ pv_W) => atoms_spec (ws := Cond.code yX12_init cX12_init 2 none :: pv_W) B.pre w (List.mem_cons_of_mem _ h)
  have hg := fun {w : Cond} (h : w ∈ lw_tbl) (g : goodWord w = true) => hts w (pv_in h g)
  have hown : s.vm.findClass RX12 = some m.cls := findClass_of_methodNamed B.named
  have hlocks := B.notSynchronized
  have hin : meth.name = "<init>" := (name_of_methodNamed B.named B.method).1
  subst hsz
  have hD := hD0.self (sz := s.heap.size)
  generalize hAe : va_A [(h0, .inr (11, [.null, .null]))] s.heap.size = A at hD hE ⊢
  have hA : ∀ q : Nat, s.heap.size ≤ q → A q := fun q h => by rw [← hAe]; exact Or.inr h
  have hS : va_S A s.heap s.heap [] := va_S.rf
  have hP : va_P D pv_cl [(h0, .inr (11, [.null, .null]))] s.heap := hP
  have hl := lv_entry ([.ref h0, .int 1]) (n := 2) (Nat.le_of_ble_eq_true rfl)
  rw [lg_entry_eq]
  generalize (lg_sl ([.ref h0, .int 1]) ++ List.replicate (2 - (lg_sl ([.ref h0, .int 1])).length) Slot.unset).toArray = ls at hl ⊢
  have hl : lv_has ls 2 [(0, .ref h0), (1, .int 1)] := hl
  refine lv_aload_n hx hb dX12_init_0 rfl (lv_at hl 0 rfl) ?_
  refine W.objInit (own := RX12) hx hb hown (hg w9_127 rfl) (hg w1_36 rfl) (hg w1_37 rfl) rfl (hl.1.trans hml.symm) (rest := []) rfl dX12_init_1 (Nat.le_of_ble_eq_true rfl) (Nat.le_of_ble_eq_true rfl) ?_
  refine lv_aload_n hx hb dX12_init_4 rfl (lv_at hl 0 rfl) ?_
  refine lv_iload_n hx hb dX12_init_5 rfl (lv_at hl 1 rfl) ?_
  refine va_newa (atype := .int) hx hb (hg w1_74 rfl) (ty := .int) rfl hK hP hD hS hA (a0 := (1, .inl (fun _ => 0))) (fun _ => rfl) (by decide) (by decide +kernel) (Nat.le_of_ble_eq_true rfl) (Nat.le_of_ble_eq_true rfl) (Nat.le_of_ble_eq_true rfl) dX12_init_6 (fun q_1 cA_2 H hK hP hD hS => ?_)
  have hP : va_P D pv_cl [(h0, .inr (11, [.null, .null])), (q_1, .inl (cA_2, 1, .inl (fun _ => 0)))] _ := hP
  have hD : va_D A [(h0, .inr (11, [.null, .null])), (q_1, .inl (cA_2, 1, .inl (fun _ => 0)))] := hD
  have hK : va_K D pv_cl [(cA_2, .int)] s := hK
  refine W.widen (k := 1) (n := 1) (Nat.le_of_ble_eq_true rfl) (Nat.le_of_ble_eq_true rfl) ?_
  refine va_putF (own := RX12) (D := D) (ci := 11) (v := .ref q_1) (ty := .array .int) (C := RX12) (T := TX12) (N := 2) hx hb hts inF12 tyX12 tyX12_ok nmX12 hown hK hP hD hS 0 rfl rfl 0 (by decide) (hg w9_128 rfl) (fun _ h9 => h9) rfl hin rfl (by decide +kernel) rfl rfl (Nat.le_of_ble_eq_true rfl) dX12_init_8 (fun H locs hP hD hS => ?_)
  have hP : va_P D pv_cl [(h0, .inr (11, [.ref q_1, .null])), (q_1, .inl (cA_2, 1, .inl (fun _ => 0)))] _ := hP
  have hD : va_D A [(h0, .inr (11, [.ref q_1, .null])), (q_1, .inl (cA_2, 1, .inl (fun _ => 0)))] := hD
  refine lv_aload_n hx hb dX12_init_11 rfl (lv_at hl 0 rfl) ?_
  refine lv_iload_n hx hb dX12_init_12 rfl (lv_at hl 1 rfl) ?_
  refine va_newa (atype := .long) hx hb (hg w1_75 rfl) (ty := .long) rfl hK hP hD hS hA (a0 := (1, .inr (.inl (fun _ => 0)))) (fun _ => rfl) (by decide) (by decide +kernel) (Nat.le_of_ble_eq_true rfl) (Nat.le_of_ble_eq_true rfl) (Nat.le_of_ble_eq_true rfl) dX12_init_13 (fun q_3 cA_4 H hK hP hD hS => ?_)
  have hP : va_P D pv_cl [(h0, .inr (11, [.ref q_1, .null])), (q_1, .inl (cA_2, 1, .inl (fun _ => 0))), (q_3, .inl (cA_4, 1, .inr (.inl (fun _ => 0))))] _ := hP
  have hD : va_D A [(h0, .inr (11, [.ref q_1, .null])), (q_1, .inl (cA_2, 1, .inl (fun _ => 0))), (q_3, .inl (cA_4, 1, .inr (.inl (fun _ => 0))))] := hD
  have hK : va_K D pv_cl [(cA_2, .int), (cA_4, .long)] s := hK
  refine W.widen (k := 2) (n := 2) (Nat.le_of_ble_eq_true rfl) (Nat.le_of_ble_eq_true rfl) ?_
  refine va_putF (own := RX12) (D := D) (ci := 11) (v := .ref q_3) (ty := .array .long) (C := RX12) (T := TX12) (N := 2) hx hb hts inF12 tyX12 tyX12_ok nmX12 hown hK hP hD hS 0 rfl rfl 1 (by decide) (hg w9_130 rfl) (fun _ h9 => h9) rfl hin rfl (by decide +kernel) rfl rfl (Nat.le_of_ble_eq_true rfl) dX12_init_15 (fun H locs hP hD hS => ?_)
  have hP : va_P D pv_cl [(h0, .inr (11, [.ref q_1, .ref q_3])), (q_1, .inl (cA_2, 1, .inl (fun _ => 0))), (q_3, .inl (cA_4, 1, .inr (.inl (fun _ => 0))))] _ := hP
  have hD : va_D A [(h0, .inr (11, [.ref q_1, .ref q_3])), (q_1, .inl (cA_2, 1, .inl (fun _ => 0))), (q_3, .inl (cA_4, 1, .inr (.inl (fun _ => 0))))] := hD
  refine W.widen (k := 2) (n := 2) (Nat.le_of_ble_eq_true rfl) (Nat.le_of_ble_eq_true rfl) ?_
  exact W.vret hx hb hr (fun t ht hW => ⟨⟨(), rfl, trivial, q_1, q_3, cA_2, cA_4, (by rw [ht]; exact hP.sub [0, 1, 2] rfl), va_K.moved hW.alike (hK.sub [0, 1] rfl), hD.sub [0, 1, 2] (by decide) rfl⟩, hS.F ht⟩) hS.2.2 dX12_init_18

theorem dX13_single_0 : decode cX13_single 0 = .ok (.new 17, 3) := by decide +kernel
theorem w8_198 : (Jvm.Cond.classLink "PolyforgeModel" (17 : Nat) "PolyforgeModel$Terms") ∈ lw_tbl := pv_t8 (pv_mg 198 rfl)
theorem w9_123 : (Jvm.Cond.instantiable "PolyforgeModel$Terms" (2 : Nat)) ∈ lw_tbl := pv_t9 (pv_mg 123 rfl)
theorem w1_19 : (Jvm.Cond.initialized "PolyforgeModel$Terms") ∈ lw_tbl := pv_t1 (pv_mg 19 rfl)
theorem dX13_single_3 : decode cX13_single 3 = .ok (.dup, 1) := by decide +kernel
theorem dX13_single_4 : decode cX13_single 4 = .ok (.lload_n 1, 1) := by decide +kernel
theorem dX13_single_5 : decode cX13_single 5 = .ok (.lconst 0, 1) := by decide +kernel
theorem dX13_single_6 : decode cX13_single 6 = .ok (.lcmp, 1) := by decide +kernel
theorem dX13_single_7 : decode cX13_single 7 = .ok (.ifCond .ne 7, 3) := by decide +kernel
theorem dX13_single_14 : decode cX13_single 14 = .ok (.iconst 1, 1) := by decide +kernel
theorem dX13_single_15 : decode cX13_single 15 = .ok (.invokespecial 165, 3) := by decide +kernel
theorem w9_124 : (Jvm.Cond.methodLink "PolyforgeModel" (165 : Nat) ({ cls := "PolyforgeModel$Terms", name := "<init>", desc := "(I)V" } : Jvm.MethodName)) ∈ lw_tbl := pv_t9 (pv_mg 124 rfl)
theorem w9_126 : (Jvm.Cond.code ({ cls := "PolyforgeModel$Terms", name := "<init>", desc := "(I)V" } : Jvm.MethodName) prog_15_method_1_code (2 : Nat) (Option.none : Option Jvm.ClassFile.FieldType)) ∈ lw_tbl := pv_t9 (pv_mg 126 rfl)
theorem w9_125 : (Jvm.Cond.instanceMethod ({ cls := "PolyforgeModel$Terms", name := "<init>", desc := "(I)V" } : Jvm.MethodName)) ∈ lw_tbl := pv_t9 (pv_mg 125 rfl)
theorem dX13_single_18 : decode cX13_single 18 = .ok (.astore_n 3, 1) := by decide +kernel
theorem dX13_single_19 : decode cX13_single 19 = .ok (.lload_n 1, 1) := by decide +kernel
theorem dX13_single_20 : decode cX13_single 20 = .ok (.lconst 0, 1) := by decide +kernel
theorem dX13_single_21 : decode cX13_single 21 = .ok (.lcmp, 1) := by decide +kernel
theorem dX13_single_22 : decode cX13_single 22 = .ok (.ifCond .eq 17, 3) := by decide +kernel
theorem dX13_single_25 : decode cX13_single 25 = .ok (.aload_n 3, 1) := by decide +kernel
theorem dX13_single_26 : decode cX13_single 26 = .ok (.getfield 168, 3) := by decide +kernel
theorem w9_129 : (Jvm.Cond.fieldLinkNest "PolyforgeModel" (168 : Nat) "PolyforgeModel$Terms" "monomials" "[I" "PolyforgeModel") ∈ lw_tbl := pv_t9 (pv_mg 129 rfl)
theorem dX13_single_29 : decode cX13_single 29 = .ok (.iconst 0, 1) := by decide +kernel
theorem dX13_single_30 : decode cX13_single 30 = .ok (.iload_n 0, 1) := by decide +kernel
theorem dX13_single_31 : decode cX13_single 31 = .ok (.iastore, 1) := by decide +kernel
theorem dX13_single_32 : decode cX13_single 32 = .ok (.aload_n 3, 1) := by decide +kernel
theorem dX13_single_33 : decode cX13_single 33 = .ok (.getfield 174, 3) := by decide +kernel
theorem w9_131 : (Jvm.Cond.fieldLinkNest "PolyforgeModel" (174 : Nat) "PolyforgeModel$Terms" "coefficients" "[J" "PolyforgeModel") ∈ lw_tbl := pv_t9 (pv_mg 131 rfl)
theorem dX13_single_36 : decode cX13_single 36 = .ok (.iconst 0, 1) := by decide +kernel
theorem dX13_single_37 : decode cX13_single 37 = .ok (.lload_n 1, 1) := by decide +kernel
theorem dX13_single_38 : decode cX13_single 38 = .ok (.lastore, 1) := by decide +kernel
theorem dX13_single_39 : decode cX13_single 39 = .ok (.aload_n 3, 1) := by decide +kernel
theorem dX13_single_40 : decode cX13_single 40 = .ok (.areturn, 1) := by decide +kernel
theorem dX13_single_10 : decode cX13_single 10 = .ok (.iconst 0, 1) := by decide +kernel
theorem dX13_single_11 : decode cX13_single 11 = .ok (.goto 4, 3) := by decide +kernel
set_option maxHeartbeats 4000000 in
set_option maxRecDepth 100000 in
/-- single -/
theorem c_X13_single (l : Launch) (hfl : l.stackTraces = false) (D : va_G) (sz : Nat) (p0 : Int32) (p1 : Int64) : Met l yX13_single (Cond.code yX13_single cX13_single 4 (some (.object "PolyforgeModel$Terms")) :: pv_W) ({ frames := 2, cells := 3, slots := 4, locals := 61 } : Room) (va_Pc [.int p0, .long p1] (pv_P D [] [] (va_A [] sz) sz)) (va_Qr (fun (_ : Unit) => True) (fun _ a t => ∃ b c : Nat, va_P D pv_cl [(a, .inr (11, [.ref b, .ref c]))] t.heap ∧ va_K D pv_cl [] t ∧ va_D (va_A [] sz) [(a, .inr (11, [.ref b, .ref c]))]) (va_A [] sz)) 3 4 (va_A [] sz) := by
  refine Met.ofW (cc := cX13_single) (maxL := 4) (ret := (some (.object "PolyforgeModel$Terms"))) (by decide) rfl ?_
  intro p e s m args below meth c s₁ B hml hv
  obtain ⟨rfl, hsz, hE, hP, hK, hD0⟩ := hv
  have hx := B.exec
  have hb := B.bytes
  have hr := B.returns
  have hts := fun (w : Cond) (h : w ∈ pv_W) => atoms_spec (ws := Cond.code yX13_single cX13_single 4 (some (.object "PolyforgeModel$Terms")) :: pv_W) B.pre w (List.mem_cons_of_mem _ h)
  have hg := fun {w : Cond} (h : w ∈ lw_tbl) (g : goodWord w = true) => hts w (pv_in h g)
  have hown : s.vm.findClass RX13 = some m.cls := findClass_of_methodNamed B.named
  have hlocks := B.notSynchronized
  subst hsz
  have hD := hD0.self (sz := s.heap.size)
  generalize hAe : va_A [] s.heap.size = A at hD hE ⊢
  have hA : ∀ q : Nat, s.heap.size ≤ q → A q := fun q h => by rw [← hAe]; exact Or.inr h
  have hS : va_S A s.heap s.heap [] := va_S.rf
  have hP : va_P D pv_cl [] s.heap := hP
  have hl := lv_entry ([.int p0, .long p1]) (n := 4) (Nat.le_of_ble_eq_true rfl)
  rw [lg_entry_eq]
  generalize (lg_sl ([.int p0, .long p1]) ++ List.replicate (4 - (lg_sl ([.int p0, .long p1])).length) Slot.unset).toArray = ls at hl ⊢
  have hl : lv_has ls 4 [(0, .int p0), (1, .long p1)] := hl
  refine va_new (own := RX13) (ci := 11) (fs := [.null, .null]) (C := RX12) (T := TX12) (N := 2) hx hb hts inF12 tyX12 tyX12_ok hown (hg w8_198 rfl) (hg w9_123 rfl) (hg w1_19 rfl) hK hP hD hS hA rfl (by decide +kernel) (Nat.le_of_ble_eq_true rfl) (Nat.le_of_ble_eq_true rfl) dX13_single_0 (fun q_1 H hP hD hS => ?_)
  have hP : va_P D pv_cl [(q_1, .inr (11, [.null, .null]))] _ := hP
  have hD : va_D A [(q_1, .inr (11, [.null, .null]))] := hD
  refine W.widen (k := 1) (n := 2) (Nat.le_of_ble_eq_true rfl) (Nat.le_of_ble_eq_true rfl) ?_
  refine lv_dup hx hb dX13_single_3 rfl ?_
  refine lv_lload_n hx hb dX13_single_4 rfl (lv_at hl 1 rfl) ?_
  refine lv_lconst (v := 0) hx hb dX13_single_5 (by decide) ?_
  refine W.lcmp hx hb dX13_single_6 ?_
  refine lv_topi (fun x_2 ex_2 => ?_)
  refine lv_if_ne (tgt := 14) hx hb dX13_single_7 (by decide) (fun c_3 => ?_) (fun c_3 => ?_)
  · refine lv_iconst (v := 1) hx hb dX13_single_14 (by decide) ?_
    have hF := va_free (wc := [(q_1, .inr (11, [.null, .null]))]) hD hS hA [0] rfl
    refine va_callv (va_runI (As := [.int 1]) (rest := [.ref q_1]) ⟨hx, hb, hml, hown, hts⟩ (c_X12_init_1 l hfl D _ q_1) (cwI 1 hts (pv_gC w9_126) rfl rfl rfl (hg w1_19 rfl) (hg w9_124 rfl) (hg w9_125 rfl) rfl (by decide +kernel) ⟨Nat.le_of_ble_eq_true rfl, Nat.le_of_ble_eq_true rfl⟩) (pv_ps hE hS hF (hP.sub [0] rfl) (hK.sub [] rfl) (hD.sub [0] (by decide) rfl)) rfl rfl hl.1 rfl (lv_room (Nat.le_of_ble_eq_true rfl)) dX13_single_15 ⟨Nat.le_of_ble_eq_true rfl, Nat.le_of_ble_eq_true rfl⟩) hS (fun q _ h => hF q h) hF (fun u t H1 locs1 ht hvm hw hB hz1 hk1 hS => ?_)
    refine W.widen (k := 3) (n := 4) (Nat.le_of_ble_eq_true rfl) (Nat.le_of_ble_eq_true rfl) ?_
    obtain ⟨a_5, b_6, cI_7, cJ_8, hP1, hK1, hD1⟩ := hB
    rw [ht] at hP1
    have hK1 := va_K.moved hvm.symm hK1
    obtain ⟨hP, hD⟩ := va_join (wr := []) (w1 := [(q_1, .inr (11, [.ref a_5, .ref b_6])), (a_5, .inl (cI_7, 1, .inl (fun _ => 0))), (b_6, .inl (cJ_8, 1, .inr (.inl (fun _ => 0))))]) hP hD [0] [] rfl rfl (by decide) (by decide) hk1 hF hP1 hD1
    have hP : va_P D pv_cl [(q_1, .inr (11, [.ref a_5, .ref b_6])), (a_5, .inl (cI_7, 1, .inl (fun _ => 0))), (b_6, .inl (cJ_8, 1, .inr (.inl (fun _ => 0))))] _ := hP
    have hD : va_D A [(q_1, .inr (11, [.ref a_5, .ref b_6])), (a_5, .inl (cI_7, 1, .inl (fun _ => 0))), (b_6, .inl (cJ_8, 1, .inr (.inl (fun _ => 0))))] := hD
    have hK := (hK.sub [] rfl).app hK1
    have hK : va_K D pv_cl [(cI_7, .int), (cJ_8, .long)] s := hK
    refine lv_astore_n (lv' := [(3, .ref q_1), (0, .int p0), (1, .long p1)]) hx hb dX13_single_18 rfl hl (by decide) rfl (fun ls hl => ?_)
    refine lv_lload_n hx hb dX13_single_19 rfl (lv_at hl 2 rfl) ?_
    refine lv_lconst (v := 0) hx hb dX13_single_20 (by decide) ?_
    refine W.lcmp hx hb dX13_single_21 ?_
    refine lv_topi (fun x_9 ex_9 => ?_)
    refine lv_if_eq (tgt := 39) hx hb dX13_single_22 (by decide) (fun c_10 => absurd (ex_2.trans (ex_9.symm.trans c_10)) c_3) (fun c_10 => ?_)
    refine lv_aload_n hx hb dX13_single_25 rfl (lv_at hl 0 rfl) ?_
    refine va_getN (own := RX13) (D := D) (ci := 11) (v := .ref a_5) (C := RX12) (T := TX12) (N := 2) hx hb hts inF12 hown hK hP 0 rfl rfl 0 (by decide) (va_Nw.use rfl (hE.2.2.1 _ (pv_ib w9_129 rfl))) (fun _ h9 => h9) rfl dX13_single_26 ?_
    refine lv_iconst (v := 0) hx hb dX13_single_29 (by decide) ?_
    refine lv_iload_n hx hb dX13_single_30 rfl (lv_at hl 1 rfl) ?_
    refine va_iast hx hb hK hP hD hS 1 0 rfl rfl (by unfold vp_in; decide) dX13_single_31 (fun H locs hP hD hS => ?_)
    have hP : va_P D pv_cl [(q_1, .inr (11, [.ref a_5, .ref b_6])), (a_5, .inl (cI_7, 1, .inl (upd (fun _ => 0) (0 : Int32).toNatClampNeg p0))), (b_6, .inl (cJ_8, 1, .inr (.inl (fun _ => 0))))] _ := hP
    have hD : va_D A [(q_1, .inr (11, [.ref a_5, .ref b_6])), (a_5, .inl (cI_7, 1, .inl (upd (fun _ => 0) (0 : Int32).toNatClampNeg p0))), (b_6, .inl (cJ_8, 1, .inr (.inl (fun _ => 0))))] := hD
    refine lv_aload_n hx hb dX13_single_32 rfl (lv_at hl 0 rfl) ?_
    refine va_getN (own := RX13) (D := D) (ci := 11) (v := .ref b_6) (C := RX12) (T := TX12) (N := 2) hx hb hts inF12 hown hK hP 0 rfl rfl 1 (by decide) (va_Nw.use rfl (hE.2.2.1 _ (pv_ib w9_131 rfl))) (fun _ h9 => h9) rfl dX13_single_33 ?_
    refine lv_iconst (v := 0) hx hb dX13_single_36 (by decide) ?_
    refine lv_lload_n hx hb dX13_single_37 rfl (lv_at hl 2 rfl) ?_
    refine va_last hx hb hK hP hD hS 2 1 rfl rfl (by unfold vp_in; decide) dX13_single_38 (fun H locs hP hD hS => ?_)
    have hP : va_P D pv_cl [(q_1, .inr (11, [.ref a_5, .ref b_6])), (a_5, .inl (cI_7, 1, .inl (upd (fun _ => 0) (0 : Int32).toNatClampNeg p0))), (b_6, .inl (cJ_8, 1, .inr (.inl (vp_updL (fun _ => 0) (0 : Int32).toNatClampNeg p1))))] _ := hP
    have hD : va_D A [(q_1, .inr (11, [.ref a_5, .ref b_6])), (a_5, .inl (cI_7, 1, .inl (upd (fun _ => 0) (0 : Int32).toNatClampNeg p0))), (b_6, .inl (cJ_8, 1, .inr (.inl (vp_updL (fun _ => 0) (0 : Int32).toNatClampNeg p1))))] := hD
    refine lv_aload_n hx hb dX13_single_39 rfl (lv_at hl 0 rfl) ?_
    refine W.widen (k := 3) (n := 4) (Nat.le_of_ble_eq_true rfl) (Nat.le_of_ble_eq_true rfl) ?_
    exact W.aret (v := .ref q_1) hx hb hr (Or.inl ⟨_, rfl⟩) (Or.inr ⟨_, rfl⟩) (fun t ht hW => ⟨⟨(), q_1, rfl, trivial, a_5, b_6, (by rw [ht]; exact hP.sub [0] rfl), va_K.moved hW.alike (hK.sub [] rfl), hD.sub [0] (by decide) rfl⟩, hS.F ht⟩) hS.2.2 dX13_single_40
  · refine lv_iconst (v := 0) hx hb dX13_single_10 (by decide) ?_
    refine lv_goto (tgt := 15) hx hb dX13_single_11 (by decide) ?_
    have hF := va_free (wc := [(q_1, .inr (11, [.null, .null]))]) hD hS hA [0] rfl
    refine va_callv (va_runI (As := [.int 0]) (rest := [.ref q_1]) ⟨hx, hb, hml, hown, hts⟩ (c_X12_init_0 l hfl D _ q_1) (cwI 1 hts (pv_gC w9_126) rfl rfl rfl (hg w1_19 rfl) (hg w9_124 rfl) (hg w9_125 rfl) rfl (by decide +kernel) ⟨Nat.le_of_ble_eq_true rfl, Nat.le_of_ble_eq_true rfl⟩) (pv_ps hE hS hF (hP.sub [0] rfl) (hK.sub [] rfl) (hD.sub [0] (by decide) rfl)) rfl rfl hl.1 rfl (lv_room (Nat.le_of_ble_eq_true rfl)) dX13_single_15 ⟨Nat.le_of_ble_eq_true rfl, Nat.le_of_ble_eq_true rfl⟩) hS (fun q _ h => hF q h) hF (fun u t H1 locs1 ht hvm hw hB hz1 hk1 hS => ?_)
    refine W.widen (k := 3) (n := 2) (Nat.le_of_ble_eq_true rfl) (Nat.le_of_ble_eq_true rfl) ?_
    obtain ⟨a_12, b_13, cI_14, cJ_15, hP1, hK1, hD1⟩ := hB
    rw [ht] at hP1
    have hK1 := va_K.moved hvm.symm hK1
    obtain ⟨hP, hD⟩ := va_join (wr := []) (w1 := [(q_1, .inr (11, [.ref a_12, .ref b_13])), (a_12, .inl (cI_14, 0, .inl (fun _ => 0))), (b_13, .inl (cJ_15, 0, .inr (.inl (fun _ => 0))))]) hP hD [0] [] rfl rfl (by decide) (by decide) hk1 hF hP1 hD1
    have hP : va_P D pv_cl [(q_1, .inr (11, [.ref a_12, .ref b_13])), (a_12, .inl (cI_14, 0, .inl (fun _ => 0))), (b_13, .inl (cJ_15, 0, .inr (.inl (fun _ => 0))))] _ := hP
    have hD : va_D A [(q_1, .inr (11, [.ref a_12, .ref b_13])), (a_12, .inl (cI_14, 0, .inl (fun _ => 0))), (b_13, .inl (cJ_15, 0, .inr (.inl (fun _ => 0))))] := hD
    have hK := (hK.sub [] rfl).app hK1
    have hK : va_K D pv_cl [(cI_14, .int), (cJ_15, .long)] s := hK
    refine lv_astore_n (lv' := [(3, .ref q_1), (0, .int p0), (1, .long p1)]) hx hb dX13_single_18 rfl hl (by decide) rfl (fun ls hl => ?_)
    refine lv_lload_n hx hb dX13_single_19 rfl (lv_at hl 2 rfl) ?_
    refine lv_lconst (v := 0) hx hb dX13_single_20 (by decide) ?_
    refine W.lcmp hx hb dX13_single_21 ?_
    refine lv_topi (fun x_16 ex_16 => ?_)
    refine lv_if_eq (tgt := 39) hx hb dX13_single_22 (by decide) (fun c_17 => ?_) (fun c_17 => absurd (ex_16.trans (ex_2.symm.trans c_3)) c_17)
    refine lv_aload_n hx hb dX13_single_39 rfl (lv_at hl 0 rfl) ?_
    refine W.widen (k := 3) (n := 4) (Nat.le_of_ble_eq_true rfl) (Nat.le_of_ble_eq_true rfl) ?_
    exact W.aret (v := .ref q_1) hx hb hr (Or.inl ⟨_, rfl⟩) (Or.inr ⟨_, rfl⟩) (fun t ht hW => ⟨⟨(), q_1, rfl, trivial, a_12, b_13, (by rw [ht]; exact hP.sub [0] rfl), va_K.moved hW.alike (hK.sub [] rfl), hD.sub [0] (by decide) rfl⟩, hS.F ht⟩) hS.2.2 dX13_single_40

theorem dX13_keeps_0 : decode cX13_keeps 0 = .ok (.iconst 0, 1) := by decide +kernel
theorem dX13_keeps_1 : decode cX13_keeps 1 = .ok (.istore 4, 2) := by decide +kernel
theorem dX13_keeps_3 : decode cX13_keeps 3 = .ok (.iload 4, 2) := by decide +kernel
theorem dX13_keeps_5 : decode cX13_keeps 5 = .ok (.aload_n 0, 1) := by decide +kernel
theorem dX13_keeps_6 : decode cX13_keeps 6 = .ok (.getfield 125, 3) := by decide +kernel
theorem dX13_keeps_9 : decode cX13_keeps 9 = .ok (.if_icmp .ge 37, 3) := by decide +kernel
theorem dX13_keeps_46 : decode cX13_keeps 46 = .ok (.aload_n 0, 1) := by decide +kernel
theorem dX13_keeps_47 : decode cX13_keeps 47 = .ok (.getfield 125, 3) := by decide +kernel
theorem dX13_keeps_50 : decode cX13_keeps 50 = .ok (.bipush 60, 2) := by decide +kernel
theorem dX13_keeps_52 : decode cX13_keeps 52 = .ok (.if_icmp .ne 9, 3) := by decide +kernel
theorem dX13_keeps_61 : decode cX13_keeps 61 = .ok (.aload_n 0, 1) := by decide +kernel
theorem dX13_keeps_62 : decode cX13_keeps 62 = .ok (.getfield 13, 3) := by decide +kernel
theorem w8_208 : (Jvm.Cond.fieldLink "PolyforgeModel" (13 : Nat) "PolyforgeModel" "grounds" "[I") ∈ lw_tbl := pv_t8 (pv_mg 208 rfl)
theorem dX13_keeps_65 : decode cX13_keeps 65 = .ok (.aload_n 0, 1) := by decide +kernel
theorem dX13_keeps_66 : decode cX13_keeps 66 = .ok (.getfield 125, 3) := by decide +kernel
theorem dX13_keeps_69 : decode cX13_keeps 69 = .ok (.iload_n 1, 1) := by decide +kernel
theorem dX13_keeps_70 : decode cX13_keeps 70 = .ok (.iastore, 1) := by decide +kernel
theorem dX13_keeps_71 : decode cX13_keeps 71 = .ok (.aload_n 0, 1) := by decide +kernel
theorem dX13_keeps_72 : decode cX13_keeps 72 = .ok (.getfield 19, 3) := by decide +kernel
theorem w8_209 : (Jvm.Cond.fieldLink "PolyforgeModel" (19 : Nat) "PolyforgeModel" "polynomials" "[LPolyforgeModel$Terms;") ∈ lw_tbl := pv_t8 (pv_mg 209 rfl)
theorem dX13_keeps_75 : decode cX13_keeps 75 = .ok (.aload_n 0, 1) := by decide +kernel
theorem dX13_keeps_76 : decode cX13_keeps 76 = .ok (.getfield 125, 3) := by decide +kernel
theorem dX13_keeps_79 : decode cX13_keeps 79 = .ok (.aload_n 2, 1) := by decide +kernel
theorem dX13_keeps_80 : decode cX13_keeps 80 = .ok (.aastore, 1) := by decide +kernel
theorem dX13_keeps_81 : decode cX13_keeps 81 = .ok (.aload_n 0, 1) := by decide +kernel
theorem dX13_keeps_82 : decode cX13_keeps 82 = .ok (.dup, 1) := by decide +kernel
theorem dX13_keeps_83 : decode cX13_keeps 83 = .ok (.getfield 125, 3) := by decide +kernel
theorem dX13_keeps_86 : decode cX13_keeps 86 = .ok (.iconst 1, 1) := by decide +kernel
theorem dX13_keeps_87 : decode cX13_keeps 87 = .ok (.iadd, 1) := by decide +kernel
theorem dX13_keeps_88 : decode cX13_keeps 88 = .ok (.putfield 125, 3) := by decide +kernel
theorem dX13_keeps_91 : decode cX13_keeps 91 = .ok (.aload_n 0, 1) := by decide +kernel
theorem dX13_keeps_92 : decode cX13_keeps 92 = .ok (.getfield 125, 3) := by decide +kernel
theorem dX13_keeps_95 : decode cX13_keeps 95 = .ok (.iconst 1, 1) := by decide +kernel
theorem dX13_keeps_96 : decode cX13_keeps 96 = .ok (.isub, 1) := by decide +kernel
theorem dX13_keeps_97 : decode cX13_keeps 97 = .ok (.ireturn, 1) := by decide +kernel
set_option maxHeartbeats 4000000 in
set_option maxRecDepth 100000 in
/-- keeps: the first one -/
theorem c_X13_keeps (l : Launch) (hfl : l.stackTraces = false) (D : va_G) (sz : Nat) (h0 : Nat) (q : Nat → Nat) (cI cT : ClassId) (a0 b0 b1 : Nat) (p0 p1 : Int32) : Met l yX13_keeps (Cond.code yX13_keeps cX13_keeps 5 (some .int) :: pv_W) ({ frames := 0, cells := 0, slots := 0, locals := 0 } : Room) (va_Pc [.ref h0, .int p0, .ref a0, .int p1] (pv_P D [(cI, .int), (cT, .object "PolyforgeModel$Terms")] [(h0, .inr (1, pv_m 0 q)), (a0, .inr (11, [.ref b0, .ref b1])), ((q 0), .inl (cI, 60, .inl (fun _ => 0))), ((q 1), .inl (cT, 60, .inr (.inr (.inr (.inr (fun _ => none))))))] (va_A [(h0, .inr (1, pv_m 0 q)), (a0, .inr (11, [.ref b0, .ref b1])), ((q 0), .inl (cI, 60, .inl (fun _ => 0))), ((q 1), .inl (cT, 60, .inr (.inr (.inr (.inr (fun _ => none))))))] sz) sz)) (va_Qi (fun r (u : Int32) => r = 0 ∧ u = 0) (fun (u : Int32) t => ∃ fs : List Value, fs[0]? = some (.int u) ∧ va_P D pv_cl [(h0, .inr (1, fs))] t.heap ∧ va_K D pv_cl [] t ∧ va_D (va_A [(h0, .inr (1, pv_m 0 q)), (a0, .inr (11, [.ref b0, .ref b1])), ((q 0), .inl (cI, 60, .inl (fun _ => 0))), ((q 1), .inl (cT, 60, .inr (.inr (.inr (.inr (fun _ => none))))))] sz) [(h0, .inr (1, fs))]) (va_A [(h0, .inr (1, pv_m 0 q)), (a0, .inr (11, [.ref b0, .ref b1])), ((q 0), .inl (cI, 60, .inl (fun _ => 0))), ((q 1), .inl (cT, 60, .inr (.inr (.inr (.inr (fun _ => none))))))] sz)) 0 0 (va_A [(h0, .inr (1, pv_m 0 q)), (a0, .inr (11, [.ref b0, .ref b1])), ((q 0), .inl (cI, 60, .inl (fun _ => 0))), ((q 1), .inl (cT, 60, .inr (.inr (.inr (.inr (fun _ => none))))))] sz) := by
  refine Met.ofW (cc := cX13_keeps) (maxL := 5) (ret := (some .int)) (by decide) rfl ?_
  intro p e s m args below meth c s₁ B hml hv
  obtain ⟨rfl, hsz, hE, hP, hK, hD0⟩ := hv
  have hx := B.exec
  have hb := B.bytes
  have hr := B.returns
  have hts := fun (w : Cond) (h : w ∈ pv_W) => atoms_spec (ws := Cond.code yX13_keeps cX13_keeps 5 (some .int) :: pv_W) B.pre w (List.mem_cons_of_mem _ h)
  have hg := fun {w : Cond} (h : w ∈ lw_tbl) (g : goodWord w = true) => hts w (pv_in h g)
  have hown : s.vm.findClass RX13 = some m.cls := findClass_of_methodNamed B.named
  have hlocks := B.notSynchronized
  subst hsz
  have hD := hD0.self (sz := s.heap.size)
  generalize hAe : va_A [(h0, .inr (1, pv_m 0 q)), (a0, .inr (11, [.ref b0, .ref b1])), ((q 0), .inl (cI, 60, .inl (fun _ => 0))), ((q 1), .inl (cT, 60, .inr (.inr (.inr (.inr (fun _ => none))))))] s.heap.size = A at hD hE ⊢
  have hA : ∀ q : Nat, s.heap.size ≤ q → A q := fun q h => by rw [← hAe]; exact Or.inr h
  have hS : va_S A s.heap s.heap [] := va_S.rf
  have hP : va_P D pv_cl [(h0, .inr (1, pv_m 0 q)), (a0, .inr (11, [.ref b0, .ref b1])), ((q 0), .inl (cI, 60, .inl (fun _ => 0))), ((q 1), .inl (cT, 60, .inr (.inr (.inr (.inr (fun _ => none))))))] s.heap := hP
  have hl := lv_entry ([.ref h0, .int p0, .ref a0, .int p1]) (n := 5) (Nat.le_of_ble_eq_true rfl)
  rw [lg_entry_eq]
  generalize (lg_sl ([.ref h0, .int p0, .ref a0, .int p1]) ++ List.replicate (5 - (lg_sl ([.ref h0, .int p0, .ref a0, .int p1])).length) Slot.unset).toArray = ls at hl ⊢
  have hl : lv_has ls 5 [(0, .ref h0), (1, .int p0), (2, .ref a0), (3, .int p1)] := hl
  refine lv_iconst (v := 0) hx hb dX13_keeps_0 (by decide) ?_
  refine lv_istore (lv' := [(4, .int 0), (0, .ref h0), (1, .int p0), (2, .ref a0), (3, .int p1)]) hx hb dX13_keeps_1 hl (by decide) rfl (fun ls hl => ?_)
  refine lv_iload hx hb dX13_keeps_3 (lv_at hl 0 rfl) ?_
  refine lv_aload_n hx hb dX13_keeps_5 rfl (lv_at hl 1 rfl) ?_
  refine va_get (own := RX13) (D := D) (ci := 1) (v := .int 0) (C := RX13) (T := TX13) (N := 45) hx hb hts inF13 hown hK hP 0 rfl rfl 2 (by decide) (hg w8_207 rfl) (fun _ h9 => h9) rfl dX13_keeps_6 ?_
  refine lv_icmp_ge (tgt := 46) hx hb dX13_keeps_9 (by decide) (fun _ => ?_) (fun c_1 => absurd (by decide) c_1)
  refine lv_aload_n hx hb dX13_keeps_46 rfl (lv_at hl 1 rfl) ?_
  refine va_get (own := RX13) (D := D) (ci := 1) (v := .int 0) (C := RX13) (T := TX13) (N := 45) hx hb hts inF13 hown hK hP 0 rfl rfl 2 (by decide) (hg w8_207 rfl) (fun _ h9 => h9) rfl dX13_keeps_47 ?_
  refine lv_bipush (v := 60) hx hb dX13_keeps_50 (by decide) ?_
  refine lv_icmp_ne (tgt := 61) hx hb dX13_keeps_52 (by decide) (fun _ => ?_) (fun c_2 => absurd c_2 (by decide))
  refine lv_aload_n hx hb dX13_keeps_61 rfl (lv_at hl 1 rfl) ?_
  refine va_get (own := RX13) (D := D) (ci := 1) (v := .ref (q 0)) (C := RX13) (T := TX13) (N := 45) hx hb hts inF13 hown hK hP 0 rfl rfl 3 (by decide) (hg w8_208 rfl) (fun _ h9 => h9) rfl dX13_keeps_62 ?_
  refine lv_aload_n hx hb dX13_keeps_65 rfl (lv_at hl 1 rfl) ?_
  refine va_get (own := RX13) (D := D) (ci := 1) (v := .int 0) (C := RX13) (T := TX13) (N := 45) hx hb hts inF13 hown hK hP 0 rfl rfl 2 (by decide) (hg w8_207 rfl) (fun _ h9 => h9) rfl dX13_keeps_66 ?_
  refine lv_iload_n hx hb dX13_keeps_69 rfl (lv_at hl 2 rfl) ?_
  refine va_iast hx hb hK hP hD hS 2 0 rfl rfl (by unfold vp_in; decide) dX13_keeps_70 (fun H locs hP hD hS => ?_)
  have hP : va_P D pv_cl [(h0, .inr (1, pv_m 0 q)), (a0, .inr (11, [.ref b0, .ref b1])), ((q 0), .inl (cI, 60, .inl (upd (fun _ => 0) (0 : Int32).toNatClampNeg p0))), ((q 1), .inl (cT, 60, .inr (.inr (.inr (.inr (fun _ => none))))))] _ := hP
  have hD : va_D A [(h0, .inr (1, pv_m 0 q)), (a0, .inr (11, [.ref b0, .ref b1])), ((q 0), .inl (cI, 60, .inl (upd (fun _ => 0) (0 : Int32).toNatClampNeg p0))), ((q 1), .inl (cT, 60, .inr (.inr (.inr (.inr (fun _ => none))))))] := hD
  refine lv_aload_n hx hb dX13_keeps_71 rfl (lv_at hl 1 rfl) ?_
  refine va_get (own := RX13) (D := D) (ci := 1) (v := .ref (q 1)) (C := RX13) (T := TX13) (N := 45) hx hb hts inF13 hown hK hP 0 rfl rfl 4 (by decide) (hg w8_209 rfl) (fun _ h9 => h9) rfl dX13_keeps_72 ?_
  refine lv_aload_n hx hb dX13_keeps_75 rfl (lv_at hl 1 rfl) ?_
  refine va_get (own := RX13) (D := D) (ci := 1) (v := .int 0) (C := RX13) (T := TX13) (N := 45) hx hb hts inF13 hown hK hP 0 rfl rfl 2 (by decide) (hg w8_207 rfl) (fun _ h9 => h9) rfl dX13_keeps_76 ?_
  refine lv_aload_n hx hb dX13_keeps_79 rfl (lv_at hl 3 rfl) ?_
  refine va_astq hx hb hK hP hD hS 3 1 1 11 rfl rfl rfl rfl (by unfold vp_in; decide) dX13_keeps_80 (fun H locs hP hD hS => ?_)
  have hP : va_P D pv_cl [(h0, .inr (1, pv_m 0 q)), (a0, .inr (11, [.ref b0, .ref b1])), ((q 0), .inl (cI, 60, .inl (upd (fun _ => 0) (0 : Int32).toNatClampNeg p0))), ((q 1), .inl (cT, 60, .inr (.inr (.inr (.inr (va_up (fun _ => none) (0 : Int32).toNatClampNeg (some a0)))))))] _ := hP
  have hD : va_D A [(h0, .inr (1, pv_m 0 q)), (a0, .inr (11, [.ref b0, .ref b1])), ((q 0), .inl (cI, 60, .inl (upd (fun _ => 0) (0 : Int32).toNatClampNeg p0))), ((q 1), .inl (cT, 60, .inr (.inr (.inr (.inr (va_up (fun _ => none) (0 : Int32).toNatClampNeg (some a0)))))))] := hD
  refine lv_aload_n hx hb dX13_keeps_81 rfl (lv_at hl 1 rfl) ?_
  refine lv_dup hx hb dX13_keeps_82 rfl ?_
  refine va_get (own := RX13) (D := D) (ci := 1) (v := .int 0) (C := RX13) (T := TX13) (N := 45) hx hb hts inF13 hown hK hP 0 rfl rfl 2 (by decide) (hg w8_207 rfl) (fun _ h9 => h9) rfl dX13_keeps_83 ?_
  refine lv_iconst (v := 1) hx hb dX13_keeps_86 (by decide) ?_
  refine lv_iadd hx hb dX13_keeps_87 ?_
  refine pv_setI 1 (by decide) ?_
  refine va_put (own := RX13) (D := D) (ci := 1) (v := .int 1) (ty := .int) (C := RX13) (T := TX13) (N := 45) hx hb hts inF13 tyX13 tyX13_ok nmX13 hown hK hP hD hS 0 rfl rfl 2 (by decide) (hg w8_207 rfl) (fun _ h9 => h9) rfl (by decide +kernel) rfl rfl (Nat.le_of_ble_eq_true rfl) dX13_keeps_88 (fun H locs hP hD hS => ?_)
  have hP : va_P D pv_cl [(h0, .inr (1, (pv_m 0 q).set 2 (.int 1))), (a0, .inr (11, [.ref b0, .ref b1])), ((q 0), .inl (cI, 60, .inl (upd (fun _ => 0) (0 : Int32).toNatClampNeg p0))), ((q 1), .inl (cT, 60, .inr (.inr (.inr (.inr (va_up (fun _ => none) (0 : Int32).toNatClampNeg (some a0)))))))] _ := hP
  have hD : va_D A [(h0, .inr (1, (pv_m 0 q).set 2 (.int 1))), (a0, .inr (11, [.ref b0, .ref b1])), ((q 0), .inl (cI, 60, .inl (upd (fun _ => 0) (0 : Int32).toNatClampNeg p0))), ((q 1), .inl (cT, 60, .inr (.inr (.inr (.inr (va_up (fun _ => none) (0 : Int32).toNatClampNeg (some a0)))))))] := hD
  refine lv_aload_n hx hb dX13_keeps_91 rfl (lv_at hl 1 rfl) ?_
  refine va_get (own := RX13) (D := D) (ci := 1) (v := .int 1) (C := RX13) (T := TX13) (N := 45) hx hb hts inF13 hown hK hP 0 rfl rfl 2 (by decide) (hg w8_207 rfl) (fun _ h9 => h9) rfl dX13_keeps_92 ?_
  refine lv_iconst (v := 1) hx hb dX13_keeps_95 (by decide) ?_
  refine lv_isub hx hb dX13_keeps_96 ?_
  refine pv_setI 0 (by decide) ?_
  refine W.widen (k := 0) (n := 0) (Nat.le_of_ble_eq_true rfl) (Nat.le_of_ble_eq_true rfl) ?_
  exact W.iret (v := 0) hx hb hr (fun t ht hW => ⟨⟨0, 0, rfl, ⟨rfl, rfl⟩, (pv_m 0 q).set 2 (.int 1), rfl, (by rw [ht]; exact hP.sub [0] rfl), va_K.moved hW.alike (hK.sub [] rfl), hD.sub [0] (by decide) rfl⟩, hS.F ht⟩) hS.2.2 dX13_keeps_97

theorem dX13_constant_0 : decode cX13_constant 0 = .ok (.aload_n 0, 1) := by decide +kernel
theorem dX13_constant_1 : decode cX13_constant 1 = .ok (.iconst 0, 1) := by decide +kernel
theorem dX13_constant_2 : decode cX13_constant 2 = .ok (.putfield 122, 3) := by decide +kernel
theorem dX13_constant_5 : decode cX13_constant 5 = .ok (.iload_n 1, 1) := by decide +kernel
theorem dX13_constant_6 : decode cX13_constant 6 = .ok (.ifCond .eq 16, 3) := by decide +kernel
theorem dX13_constant_22 : decode cX13_constant 22 = .ok (.aload_n 0, 1) := by decide +kernel
theorem dX13_constant_23 : decode cX13_constant 23 = .ok (.iload_n 1, 1) := by decide +kernel
theorem dX13_constant_24 : decode cX13_constant 24 = .ok (.iconst 0, 1) := by decide +kernel
theorem dX13_constant_25 : decode cX13_constant 25 = .ok (.iload_n 2, 1) := by decide +kernel
theorem dX13_constant_26 : decode cX13_constant 26 = .ok (.i2l, 1) := by decide +kernel
theorem dX13_constant_27 : decode cX13_constant 27 = .ok (.iload_n 1, 1) := by decide +kernel
theorem dX13_constant_28 : decode cX13_constant 28 = .ok (.invokestatic 153, 3) := by decide +kernel
theorem w9_117 : (Jvm.Cond.methodLink "PolyforgeModel" (153 : Nat) ({ cls := "PolyforgeModel", name := "mod", desc := "(JI)J" } : Jvm.MethodName)) ∈ lw_tbl := pv_t9 (pv_mg 117 rfl)
theorem w9_119 : (Jvm.Cond.code ({ cls := "PolyforgeModel", name := "mod", desc := "(JI)J" } : Jvm.MethodName) prog_14_method_17_code (5 : Nat) (Option.some Jvm.ClassFile.FieldType.long)) ∈ lw_tbl := pv_t9 (pv_mg 119 rfl)
theorem w9_118 : (Jvm.Cond.static ({ cls := "PolyforgeModel", name := "mod", desc := "(JI)J" } : Jvm.MethodName)) ∈ lw_tbl := pv_t9 (pv_mg 118 rfl)
theorem dX13_constant_31 : decode cX13_constant 31 = .ok (.invokestatic 209, 3) := by decide +kernel
theorem w9_120 : (Jvm.Cond.methodLink "PolyforgeModel" (209 : Nat) ({ cls := "PolyforgeModel", name := "single", desc := "(IJ)LPolyforgeModel$Terms;" } : Jvm.MethodName)) ∈ lw_tbl := pv_t9 (pv_mg 120 rfl)
theorem w9_122 : (Jvm.Cond.code ({ cls := "PolyforgeModel", name := "single", desc := "(IJ)LPolyforgeModel$Terms;" } : Jvm.MethodName) prog_14_method_20_code (4 : Nat) (Option.some (Jvm.ClassFile.FieldType.object "PolyforgeModel$Terms"))) ∈ lw_tbl := pv_t9 (pv_mg 122 rfl)
theorem w9_121 : (Jvm.Cond.static ({ cls := "PolyforgeModel", name := "single", desc := "(IJ)LPolyforgeModel$Terms;" } : Jvm.MethodName)) ∈ lw_tbl := pv_t9 (pv_mg 121 rfl)
theorem dX13_constant_34 : decode cX13_constant 34 = .ok (.iconst 2, 1) := by decide +kernel
theorem dX13_constant_35 : decode cX13_constant 35 = .ok (.invokevirtual 213, 3) := by decide +kernel
theorem w9_137 : (Jvm.Cond.methodLink "PolyforgeModel" (213 : Nat) ({ cls := "PolyforgeModel", name := "keeps", desc := "(ILPolyforgeModel$Terms;I)I" } : Jvm.MethodName)) ∈ lw_tbl := pv_t9 (pv_mg 137 rfl)
theorem w9_140 : (Jvm.Cond.code ({ cls := "PolyforgeModel", name := "keeps", desc := "(ILPolyforgeModel$Terms;I)I" } : Jvm.MethodName) prog_14_method_22_code (5 : Nat) (Option.some Jvm.ClassFile.FieldType.int)) ∈ lw_tbl := pv_t9 (pv_mg 140 rfl)
theorem wp5_10 : Cond.selects "PolyforgeModel" ⟨"PolyforgeModel", "keeps", "(ILPolyforgeModel$Terms;I)I"⟩ ⟨"PolyforgeModel", "keeps", "(ILPolyforgeModel$Terms;I)I"⟩ ∈ lw_tbl := pv_mg 74 rfl
theorem w9_139 : (Jvm.Cond.instanceMethod ({ cls := "PolyforgeModel", name := "keeps", desc := "(ILPolyforgeModel$Terms;I)I" } : Jvm.MethodName)) ∈ lw_tbl := pv_t9 (pv_mg 139 rfl)
theorem dX13_constant_38 : decode cX13_constant 38 = .ok (.ireturn, 1) := by decide +kernel
theorem dX13_constant_9 : decode cX13_constant 9 = .ok (.iload_n 1, 1) := by decide +kernel
theorem dX13_constant_10 : decode cX13_constant 10 = .ok (.invokestatic 206, 3) := by decide +kernel
theorem w9_110 : (Jvm.Cond.methodLink "PolyforgeModel" (206 : Nat) ({ cls := "PolyforgeModel", name := "isPrime", desc := "(I)Z" } : Jvm.MethodName)) ∈ lw_tbl := pv_t9 (pv_mg 110 rfl)
theorem w9_112 : (Jvm.Cond.code ({ cls := "PolyforgeModel", name := "isPrime", desc := "(I)Z" } : Jvm.MethodName) prog_14_method_5_code (1 : Nat) (Option.some Jvm.ClassFile.FieldType.boolean)) ∈ lw_tbl := pv_t9 (pv_mg 112 rfl)
theorem w9_111 : (Jvm.Cond.static ({ cls := "PolyforgeModel", name := "isPrime", desc := "(I)Z" } : Jvm.MethodName)) ∈ lw_tbl := pv_t9 (pv_mg 111 rfl)
theorem dX13_constant_13 : decode cX13_constant 13 = .ok (.ifCond .ne 9, 3) := by decide +kernel
theorem dX13_constant_16 : decode cX13_constant 16 = .ok (.aload_n 0, 1) := by decide +kernel
theorem dX13_constant_17 : decode cX13_constant 17 = .ok (.iconst 1, 1) := by decide +kernel
theorem dX13_constant_18 : decode cX13_constant 18 = .ok (.invokevirtual 185, 3) := by decide +kernel
theorem w9_113 : (Jvm.Cond.methodLink "PolyforgeModel" (185 : Nat) ({ cls := "PolyforgeModel", name := "fails", desc := "(I)I" } : Jvm.MethodName)) ∈ lw_tbl := pv_t9 (pv_mg 113 rfl)
theorem w9_116 : (Jvm.Cond.code ({ cls := "PolyforgeModel", name := "fails", desc := "(I)I" } : Jvm.MethodName) prog_14_method_4_code (2 : Nat) (Option.some Jvm.ClassFile.FieldType.int)) ∈ lw_tbl := pv_t9 (pv_mg 116 rfl)
theorem wp5_9 : Cond.selects "PolyforgeModel" ⟨"PolyforgeModel", "fails", "(I)I"⟩ ⟨"PolyforgeModel", "fails", "(I)I"⟩ ∈ lw_tbl := pv_mg 73 rfl
theorem w9_115 : (Jvm.Cond.instanceMethod ({ cls := "PolyforgeModel", name := "fails", desc := "(I)I" } : Jvm.MethodName)) ∈ lw_tbl := pv_t9 (pv_mg 115 rfl)
theorem dX13_constant_21 : decode cX13_constant 21 = .ok (.ireturn, 1) := by decide +kernel
set_option maxHeartbeats 4000000 in
set_option maxRecDepth 100000 in
/-- constant on a fresh object -/
theorem c_X13_constant (l : Launch) (hfl : l.stackTraces = false) (D : va_G) (sz : Nat) (h0 : Nat) (q : Nat → Nat) (cI cT : ClassId) (p0 p1 : Int32) : Met l yX13_constant (Cond.code yX13_constant cX13_constant 3 (some .int) :: pv_W) ({ frames := 3, cells := 3, slots := 4, locals := 84 } : Room) (va_Pc [.ref h0, .int p0, .int p1] (pv_P D [(cI, .int), (cT, .object "PolyforgeModel$Terms")] [(h0, .inr (1, pv_m 0 q)), ((q 0), .inl (cI, 60, .inl (fun _ => 0))), ((q 1), .inl (cT, 60, .inr (.inr (.inr (.inr (fun _ => none))))))] (va_A [(h0, .inr (1, pv_m 0 q)), ((q 0), .inl (cI, 60, .inl (fun _ => 0))), ((q 1), .inl (cT, 60, .inr (.inr (.inr (.inr (fun _ => none))))))] sz) sz)) (va_Qi (fun r (u : Int32) => (u = 0 ∧ r = 0 ∧ (p0 = 0 ∨ pv_pr p0)) ∨ (u = 1 ∧ ¬ (p0 = 0 ∨ pv_pr p0))) (fun (u : Int32) t => ∃ fs : List Value, fs[0]? = some (.int u) ∧ va_P D pv_cl [(h0, .inr (1, fs))] t.heap ∧ va_K D pv_cl [] t ∧ va_D (va_A [(h0, .inr (1, pv_m 0 q)), ((q 0), .inl (cI, 60, .inl (fun _ => 0))), ((q 1), .inl (cT, 60, .inr (.inr (.inr (.inr (fun _ => none))))))] sz) [(h0, .inr (1, fs))]) (va_A [(h0, .inr (1, pv_m 0 q)), ((q 0), .inl (cI, 60, .inl (fun _ => 0))), ((q 1), .inl (cT, 60, .inr (.inr (.inr (.inr (fun _ => none))))))] sz)) 3 4 (va_A [(h0, .inr (1, pv_m 0 q)), ((q 0), .inl (cI, 60, .inl (fun _ => 0))), ((q 1), .inl (cT, 60, .inr (.inr (.inr (.inr (fun _ => none))))))] sz) := by
  refine Met.ofW (cc := cX13_constant) (maxL := 3) (ret := (some .int)) (by decide) rfl ?_
  intro p e s m args below meth c s₁ B hml hv
  obtain ⟨rfl, hsz, hE, hP, hK, hD0⟩ := hv
  have hx := B.exec
  have hb := B.bytes
  have hr := B.returns
  have hts := fun (w : Cond) (h : w ∈ pv_W) => atoms_spec (ws := Cond.code yX13_constant cX13_constant 3 (some .int) :: pv_W) B.pre w (List.mem_cons_of_mem _ h)
  have hg := fun {w : Cond} (h : w ∈ lw_tbl) (g : goodWord w = true) => hts w (pv_in h g)
  have hown : s.vm.findClass RX13 = some m.cls := findClass_of_methodNamed B.named
  have hlocks := B.notSynchronized
  subst hsz
  have hD := hD0.self (sz := s.heap.size)
  generalize hAe : va_A [(h0, .inr (1, pv_m 0 q)), ((q 0), .inl (cI, 60, .inl (fun _ => 0))), ((q 1), .inl (cT, 60, .inr (.inr (.inr (.inr (fun _ => none))))))] s.heap.size = A at hD hE ⊢
  have hA : ∀ q : Nat, s.heap.size ≤ q → A q := fun q h => by rw [← hAe]; exact Or.inr h
  have hS : va_S A s.heap s.heap [] := va_S.rf
  have hP : va_P D pv_cl [(h0, .inr (1, pv_m 0 q)), ((q 0), .inl (cI, 60, .inl (fun _ => 0))), ((q 1), .inl (cT, 60, .inr (.inr (.inr (.inr (fun _ => none))))))] s.heap := hP
  have hl := lv_entry ([.ref h0, .int p0, .int p1]) (n := 3) (Nat.le_of_ble_eq_true rfl)
  rw [lg_entry_eq]
  generalize (lg_sl ([.ref h0, .int p0, .int p1]) ++ List.replicate (3 - (lg_sl ([.ref h0, .int p0, .int p1])).length) Slot.unset).toArray = ls at hl ⊢
  have hl : lv_has ls 3 [(0, .ref h0), (1, .int p0), (2, .int p1)] := hl
  refine lv_aload_n hx hb dX13_constant_0 rfl (lv_at hl 0 rfl) ?_
  refine lv_iconst (v := 0) hx hb dX13_constant_1 (by decide) ?_
  refine va_put (own := RX13) (D := D) (ci := 1) (v := .int 0) (ty := .int) (C := RX13) (T := TX13) (N := 45) hx hb hts inF13 tyX13 tyX13_ok nmX13 hown hK hP hD hS 0 rfl rfl 0 (by decide) (hg w8_205 rfl) (fun _ h9 => h9) rfl (by decide +kernel) rfl rfl (Nat.le_of_ble_eq_true rfl) dX13_constant_2 (fun H locs hP hD hS => ?_)
  have hP : va_P D pv_cl [(h0, .inr (1, pv_m 0 q)), ((q 0), .inl (cI, 60, .inl (fun _ => 0))), ((q 1), .inl (cT, 60, .inr (.inr (.inr (.inr (fun _ => none))))))] _ := hP
  have hD : va_D A [(h0, .inr (1, pv_m 0 q)), ((q 0), .inl (cI, 60, .inl (fun _ => 0))), ((q 1), .inl (cT, 60, .inr (.inr (.inr (.inr (fun _ => none))))))] := hD
  refine lv_iload_n hx hb dX13_constant_5 rfl (lv_at hl 1 rfl) ?_
  refine lv_if_eq (tgt := 22) hx hb dX13_constant_6 (by decide) (fun c_1 => ?_) (fun c_1 => ?_)
  · refine lv_aload_n hx hb dX13_constant_22 rfl (lv_at hl 0 rfl) ?_
    refine lv_iload_n hx hb dX13_constant_23 rfl (lv_at hl 1 rfl) ?_
    refine lv_iconst (v := 0) hx hb dX13_constant_24 (by decide) ?_
    refine lv_iload_n hx hb dX13_constant_25 rfl (lv_at hl 2 rfl) ?_
    refine lv_i2l hx hb dX13_constant_26 rfl ?_
    refine lv_iload_n hx hb dX13_constant_27 rfl (lv_at hl 1 rfl) ?_
    have hF := pv_new hA hS.1
    refine va_calll (va_runS (As := [.long p1.toInt64, .int p0]) (rest := [.int 0, .int p0, .ref h0]) ⟨hx, hb, hml, hown, hts⟩ (c_X13_mod l hfl D _ p1.toInt64 p0) (va_cwS 2 hts (pv_gS w9_117 w9_118 w1_10 w9_119) rfl rfl rfl (by decide +kernel) ⟨Nat.le_of_ble_eq_true rfl, Nat.le_of_ble_eq_true rfl⟩) (pv_ps hE hS hF (hP.sub [] rfl) (hK.sub [] rfl) (hD.sub [] (by decide) rfl)) rfl rfl hl.1 rfl (lv_room (Nat.le_of_ble_eq_true rfl)) dX13_constant_28 ⟨Nat.le_of_ble_eq_true rfl, Nat.le_of_ble_eq_true rfl⟩) hS (fun q _ h => hF q h) hF (fun r_1 u t H1 locs1 ht hvm hw hB hz1 hk1 hS => ?_)
    refine W.widen (k := 0) (n := 0) (Nat.le_of_ble_eq_true rfl) (Nat.le_of_ble_eq_true rfl) ?_
    have hP := pv_keep hP rfl hk1
    have hF := va_free (wc := []) hD hS hA [] rfl
    refine va_callr (va_runS (As := [.int 0, .long r_1]) (rest := [.int p0, .ref h0]) ⟨hx, hb, hml, hown, hts⟩ (c_X13_single l hfl D _ 0 r_1) (va_cwS 2 hts (pv_gS w9_120 w9_121 w1_10 w9_122) rfl rfl rfl (by decide +kernel) ⟨Nat.le_of_ble_eq_true rfl, Nat.le_of_ble_eq_true rfl⟩) (pv_ps hE hS hF (hP.sub [] rfl) (hK.sub [] rfl) (hD.sub [] (by decide) rfl)) rfl rfl hl.1 rfl (lv_room (Nat.le_of_ble_eq_true rfl)) dX13_constant_31 ⟨Nat.le_of_ble_eq_true rfl, Nat.le_of_ble_eq_true rfl⟩) hS (fun q _ h => hF q h) hF (fun u ra_2 t H1 locs1 ht hvm hw hB hz1 hk1 hS => ?_)
    refine W.widen (k := 3) (n := 4) (Nat.le_of_ble_eq_true rfl) (Nat.le_of_ble_eq_true rfl) ?_
    obtain ⟨b_4, c_5, hP1, hK1, hD1⟩ := hB
    rw [ht] at hP1
    have hK1 := va_K.moved hvm.symm hK1
    obtain ⟨hP, hD⟩ := va_join (wr := [(h0, .inr (1, pv_m 0 q)), ((q 0), .inl (cI, 60, .inl (fun _ => 0))), ((q 1), .inl (cT, 60, .inr (.inr (.inr (.inr (fun _ => none))))))]) (w1 := [(ra_2, .inr (11, [.ref b_4, .ref c_5]))]) hP hD [] [0, 1, 2] rfl rfl (by decide) (by decide) hk1 hF hP1 hD1
    have hP : va_P D pv_cl [(h0, .inr (1, pv_m 0 q)), ((q 0), .inl (cI, 60, .inl (fun _ => 0))), ((q 1), .inl (cT, 60, .inr (.inr (.inr (.inr (fun _ => none)))))), (ra_2, .inr (11, [.ref b_4, .ref c_5]))] _ := hP
    have hD : va_D A [(h0, .inr (1, pv_m 0 q)), ((q 0), .inl (cI, 60, .inl (fun _ => 0))), ((q 1), .inl (cT, 60, .inr (.inr (.inr (.inr (fun _ => none)))))), (ra_2, .inr (11, [.ref b_4, .ref c_5]))] := hD
    refine lv_iconst (v := 2) hx hb dX13_constant_34 (by decide) ?_
    have hF := va_free (wc := [(h0, .inr (1, pv_m 0 q)), (ra_2, .inr (11, [.ref b_4, .ref c_5])), ((q 0), .inl (cI, 60, .inl (fun _ => 0))), ((q 1), .inl (cT, 60, .inr (.inr (.inr (.inr (fun _ => none))))))]) hD hS hA [0, 3, 1, 2] rfl
    refine va_calli (va_runV (As := [.int p0, .ref ra_2, .int 2]) (rest := []) ⟨hx, hb, hml, hown, hts⟩ (c_X13_keeps l hfl D _ h0 q cI cT ra_2 b_4 c_5 p0 2) (cwV 3 hts (pv_gV w9_137 w9_139 wp5_10 w1_10 w9_140) rfl rfl rfl (by decide +kernel) ⟨Nat.le_of_ble_eq_true rfl, Nat.le_of_ble_eq_true rfl⟩) (pv_pV hE hS hF (hP.sub [0, 3, 1, 2] rfl) (hK.sub [0, 1] rfl) (hD.sub [0, 3, 1, 2] (by decide) rfl) (va_recv (ci := 1) (q0 := 0) hK hP rfl rfl)) rfl rfl hl.1 rfl (lv_room (Nat.le_of_ble_eq_true rfl)) dX13_constant_35 ⟨Nat.le_of_ble_eq_true rfl, Nat.le_of_ble_eq_true rfl⟩) hS (fun q _ h => hF q h) hF (fun r_5 u t H1 locs1 ht hvm hw hB hz1 hk1 hS => ?_)
    refine W.widen (k := 3) (n := 4) (Nat.le_of_ble_eq_true rfl) (Nat.le_of_ble_eq_true rfl) ?_
    obtain ⟨rfl, hw⟩ := hw
    subst hw
    obtain ⟨fs_7, hf_8, hP1, hK1, hD1⟩ := hB
    rw [ht] at hP1
    have hK1 := va_K.moved hvm.symm hK1
    obtain ⟨hP, hD⟩ := va_join (wr := []) (w1 := [(h0, .inr (1, fs_7))]) hP hD [0, 3, 1, 2] [] rfl rfl (by decide) (by decide) hk1 hF hP1 hD1
    have hP : va_P D pv_cl [(h0, .inr (1, fs_7))] _ := hP
    have hD : va_D A [(h0, .inr (1, fs_7))] := hD
    refine W.widen (k := 3) (n := 4) (Nat.le_of_ble_eq_true rfl) (Nat.le_of_ble_eq_true rfl) ?_
    exact W.iret (v := 0) hx hb hr (fun t ht hW => ⟨⟨0, 0, rfl, Or.inl ⟨rfl, rfl, Or.inl c_1⟩, fs_7, hf_8, (by rw [ht]; exact hP.sub [0] rfl), va_K.moved hW.alike (hK.sub [] rfl), hD.sub [0] (by decide) rfl⟩, hS.F ht⟩) hS.2.2 dX13_constant_38
  · refine lv_iload_n hx hb dX13_constant_9 rfl (lv_at hl 1 rfl) ?_
    have hF := pv_new hA hS.1
    refine va_calli (va_runS (As := [.int p0]) (rest := []) ⟨hx, hb, hml, hown, hts⟩ (c_X13_isPrime l hfl D _ p0) (va_cwS 1 hts (pv_gS w9_110 w9_111 w1_10 w9_112) rfl rfl rfl (by decide +kernel) ⟨Nat.le_of_ble_eq_true rfl, Nat.le_of_ble_eq_true rfl⟩) (pv_ps hE hS hF (hP.sub [] rfl) (hK.sub [] rfl) (hD.sub [] (by decide) rfl)) rfl rfl hl.1 rfl (lv_room (Nat.le_of_ble_eq_true rfl)) dX13_constant_10 ⟨Nat.le_of_ble_eq_true rfl, Nat.le_of_ble_eq_true rfl⟩) hS (fun q _ h => hF q h) hF (fun r_8 u t H1 locs1 ht hvm hw hB hz1 hk1 hS => ?_)
    refine W.widen (k := 0) (n := 0) (Nat.le_of_ble_eq_true rfl) (Nat.le_of_ble_eq_true rfl) ?_
    have hP := pv_keep hP rfl hk1
    rcases hw with ⟨rfl, a_10⟩ | ⟨rfl, a_10⟩
    · refine lv_if_ne (tgt := 22) hx hb dX13_constant_13 (by decide) (fun _ => ?_) (fun c_11 => absurd c_11 (by decide))
      refine lv_aload_n hx hb dX13_constant_22 rfl (lv_at hl 0 rfl) ?_
      refine lv_iload_n hx hb dX13_constant_23 rfl (lv_at hl 1 rfl) ?_
      refine lv_iconst (v := 0) hx hb dX13_constant_24 (by decide) ?_
      refine lv_iload_n hx hb dX13_constant_25 rfl (lv_at hl 2 rfl) ?_
      refine lv_i2l hx hb dX13_constant_26 rfl ?_
      refine lv_iload_n hx hb dX13_constant_27 rfl (lv_at hl 1 rfl) ?_
      have hF := pv_new hA hS.1
      refine va_calll (va_runS (As := [.long p1.toInt64, .int p0]) (rest := [.int 0, .int p0, .ref h0]) ⟨hx, hb, hml, hown, hts⟩ (c_X13_mod l hfl D _ p1.toInt64 p0) (va_cwS 2 hts (pv_gS w9_117 w9_118 w1_10 w9_119) rfl rfl rfl (by decide +kernel) ⟨Nat.le_of_ble_eq_true rfl, Nat.le_of_ble_eq_true rfl⟩) (pv_ps hE hS hF (hP.sub [] rfl) (hK.sub [] rfl) (hD.sub [] (by decide) rfl)) rfl rfl hl.1 rfl (lv_room (Nat.le_of_ble_eq_true rfl)) dX13_constant_28 ⟨Nat.le_of_ble_eq_true rfl, Nat.le_of_ble_eq_true rfl⟩) hS (fun q _ h => hF q h) hF (fun r_11 u t H1 locs1 ht hvm hw hB hz1 hk1 hS => ?_)
      refine W.widen (k := 0) (n := 0) (Nat.le_of_ble_eq_true rfl) (Nat.le_of_ble_eq_true rfl) ?_
      have hP := pv_keep hP rfl hk1
      have hF := va_free (wc := []) hD hS hA [] rfl
      refine va_callr (va_runS (As := [.int 0, .long r_11]) (rest := [.int p0, .ref h0]) ⟨hx, hb, hml, hown, hts⟩ (c_X13_single l hfl D _ 0 r_11) (va_cwS 2 hts (pv_gS w9_120 w9_121 w1_10 w9_122) rfl rfl rfl (by decide +kernel) ⟨Nat.le_of_ble_eq_true rfl, Nat.le_of_ble_eq_true rfl⟩) (pv_ps hE hS hF (hP.sub [] rfl) (hK.sub [] rfl) (hD.sub [] (by decide) rfl)) rfl rfl hl.1 rfl (lv_room (Nat.le_of_ble_eq_true rfl)) dX13_constant_31 ⟨Nat.le_of_ble_eq_true rfl, Nat.le_of_ble_eq_true rfl⟩) hS (fun q _ h => hF q h) hF (fun u ra_12 t H1 locs1 ht hvm hw hB hz1 hk1 hS => ?_)
      refine W.widen (k := 3) (n := 4) (Nat.le_of_ble_eq_true rfl) (Nat.le_of_ble_eq_true rfl) ?_
      obtain ⟨b_14, c_15, hP1, hK1, hD1⟩ := hB
      rw [ht] at hP1
      have hK1 := va_K.moved hvm.symm hK1
      obtain ⟨hP, hD⟩ := va_join (wr := [(h0, .inr (1, pv_m 0 q)), ((q 0), .inl (cI, 60, .inl (fun _ => 0))), ((q 1), .inl (cT, 60, .inr (.inr (.inr (.inr (fun _ => none))))))]) (w1 := [(ra_12, .inr (11, [.ref b_14, .ref c_15]))]) hP hD [] [0, 1, 2] rfl rfl (by decide) (by decide) hk1 hF hP1 hD1
      have hP : va_P D pv_cl [(h0, .inr (1, pv_m 0 q)), ((q 0), .inl (cI, 60, .inl (fun _ => 0))), ((q 1), .inl (cT, 60, .inr (.inr (.inr (.inr (fun _ => none)))))), (ra_12, .inr (11, [.ref b_14, .ref c_15]))] _ := hP
      have hD : va_D A [(h0, .inr (1, pv_m 0 q)), ((q 0), .inl (cI, 60, .inl (fun _ => 0))), ((q 1), .inl (cT, 60, .inr (.inr (.inr (.inr (fun _ => none)))))), (ra_12, .inr (11, [.ref b_14, .ref c_15]))] := hD
      refine lv_iconst (v := 2) hx hb dX13_constant_34 (by decide) ?_
      have hF := va_free (wc := [(h0, .inr (1, pv_m 0 q)), (ra_12, .inr (11, [.ref b_14, .ref c_15])), ((q 0), .inl (cI, 60, .inl (fun _ => 0))), ((q 1), .inl (cT, 60, .inr (.inr (.inr (.inr (fun _ => none))))))]) hD hS hA [0, 3, 1, 2] rfl
      refine va_calli (va_runV (As := [.int p0, .ref ra_12, .int 2]) (rest := []) ⟨hx, hb, hml, hown, hts⟩ (c_X13_keeps l hfl D _ h0 q cI cT ra_12 b_14 c_15 p0 2) (cwV 3 hts (pv_gV w9_137 w9_139 wp5_10 w1_10 w9_140) rfl rfl rfl (by decide +kernel) ⟨Nat.le_of_ble_eq_true rfl, Nat.le_of_ble_eq_true rfl⟩) (pv_pV hE hS hF (hP.sub [0, 3, 1, 2] rfl) (hK.sub [0, 1] rfl) (hD.sub [0, 3, 1, 2] (by decide) rfl) (va_recv (ci := 1) (q0 := 0) hK hP rfl rfl)) rfl rfl hl.1 rfl (lv_room (Nat.le_of_ble_eq_true rfl)) dX13_constant_35 ⟨Nat.le_of_ble_eq_true rfl, Nat.le_of_ble_eq_true rfl⟩) hS (fun q _ h => hF q h) hF (fun r_15 u t H1 locs1 ht hvm hw hB hz1 hk1 hS => ?_)
      refine W.widen (k := 3) (n := 4) (Nat.le_of_ble_eq_true rfl) (Nat.le_of_ble_eq_true rfl) ?_
      obtain ⟨rfl, hw⟩ := hw
      subst hw
      obtain ⟨fs_17, hf_18, hP1, hK1, hD1⟩ := hB
      rw [ht] at hP1
      have hK1 := va_K.moved hvm.symm hK1
      obtain ⟨hP, hD⟩ := va_join (wr := []) (w1 := [(h0, .inr (1, fs_17))]) hP hD [0, 3, 1, 2] [] rfl rfl (by decide) (by decide) hk1 hF hP1 hD1
      have hP : va_P D pv_cl [(h0, .inr (1, fs_17))] _ := hP
      have hD : va_D A [(h0, .inr (1, fs_17))] := hD
      refine W.widen (k := 3) (n := 4) (Nat.le_of_ble_eq_true rfl) (Nat.le_of_ble_eq_true rfl) ?_
      exact W.iret (v := 0) hx hb hr (fun t ht hW => ⟨⟨0, 0, rfl, Or.inl ⟨rfl, rfl, Or.inr a_10⟩, fs_17, hf_18, (by rw [ht]; exact hP.sub [0] rfl), va_K.moved hW.alike (hK.sub [] rfl), hD.sub [0] (by decide) rfl⟩, hS.F ht⟩) hS.2.2 dX13_constant_38
    · refine lv_if_ne (tgt := 22) hx hb dX13_constant_13 (by decide) (fun c_19 => absurd (by decide) c_19) (fun _ => ?_)
      refine lv_aload_n hx hb dX13_constant_16 rfl (lv_at hl 0 rfl) ?_
      refine lv_iconst (v := 1) hx hb dX13_constant_17 (by decide) ?_
      have hF := va_free (wc := [(h0, .inr (1, pv_m 0 q))]) hD hS hA [0] rfl
      refine va_calli (va_runV (As := [.int 1]) (rest := []) ⟨hx, hb, hml, hown, hts⟩ (c_X13_fails l hfl D _ h0 q 1) (cwV 1 hts (pv_gV w9_113 w9_115 wp5_9 w1_10 w9_116) rfl rfl rfl (by decide +kernel) ⟨Nat.le_of_ble_eq_true rfl, Nat.le_of_ble_eq_true rfl⟩) (pv_pV hE hS hF (hP.sub [0] rfl) (hK.sub [] rfl) (hD.sub [0] (by decide) rfl) (va_recv (ci := 1) (q0 := 0) hK hP rfl rfl)) rfl rfl hl.1 rfl (lv_room (Nat.le_of_ble_eq_true rfl)) dX13_constant_18 ⟨Nat.le_of_ble_eq_true rfl, Nat.le_of_ble_eq_true rfl⟩) hS (fun q _ h => hF q h) hF (fun r_19 u t H1 locs1 ht hvm hw hB hz1 hk1 hS => ?_)
      refine W.widen (k := 0) (n := 0) (Nat.le_of_ble_eq_true rfl) (Nat.le_of_ble_eq_true rfl) ?_
      obtain rfl := hw
      obtain ⟨hP1, hK1, hD1⟩ := hB
      rw [ht] at hP1
      have hK1 := va_K.moved hvm.symm hK1
      obtain ⟨hP, hD⟩ := va_join (wr := [((q 0), .inl (cI, 60, .inl (fun _ => 0))), ((q 1), .inl (cT, 60, .inr (.inr (.inr (.inr (fun _ => none))))))]) (w1 := [(h0, .inr (1, pv_m 1 q))]) hP hD [0] [1, 2] rfl rfl (by decide) (by decide) hk1 hF hP1 hD1
      have hP : va_P D pv_cl [((q 0), .inl (cI, 60, .inl (fun _ => 0))), ((q 1), .inl (cT, 60, .inr (.inr (.inr (.inr (fun _ => none)))))), (h0, .inr (1, pv_m 1 q))] _ := hP
      have hD : va_D A [((q 0), .inl (cI, 60, .inl (fun _ => 0))), ((q 1), .inl (cT, 60, .inr (.inr (.inr (.inr (fun _ => none)))))), (h0, .inr (1, pv_m 1 q))] := hD
      refine W.widen (k := 3) (n := 4) (Nat.le_of_ble_eq_true rfl) (Nat.le_of_ble_eq_true rfl) ?_
      exact W.iret (v := 0) hx hb hr (fun t ht hW => ⟨⟨0, 1, rfl, Or.inr ⟨rfl, pv_no2 c_1 a_10⟩, pv_m 1 q, rfl, (by rw [ht]; exact hP.sub [2] rfl), va_K.moved hW.alike (hK.sub [] rfl), hD.sub [2] (by decide) rfl⟩, hS.F ht⟩) hS.2.2 dX13_constant_21

theorem dX13_variable_0 : decode cX13_variable 0 = .ok (.aload_n 0, 1) := by decide +kernel
theorem dX13_variable_1 : decode cX13_variable 1 = .ok (.iconst 0, 1) := by decide +kernel
theorem dX13_variable_2 : decode cX13_variable 2 = .ok (.putfield 122, 3) := by decide +kernel
theorem dX13_variable_5 : decode cX13_variable 5 = .ok (.iload_n 1, 1) := by decide +kernel
theorem dX13_variable_6 : decode cX13_variable 6 = .ok (.ifCond .eq 10, 3) := by decide +kernel
theorem dX13_variable_16 : decode cX13_variable 16 = .ok (.iload_n 2, 1) := by decide +kernel
theorem dX13_variable_17 : decode cX13_variable 17 = .ok (.iconst 0, 1) := by decide +kernel
theorem dX13_variable_18 : decode cX13_variable 18 = .ok (.iconst 2, 1) := by decide +kernel
theorem dX13_variable_19 : decode cX13_variable 19 = .ok (.invokestatic 128, 3) := by decide +kernel
theorem dX13_variable_22 : decode cX13_variable 22 = .ok (.ifCond .ne 9, 3) := by decide +kernel
theorem dX13_variable_31 : decode cX13_variable 31 = .ok (.aload_n 0, 1) := by decide +kernel
theorem dX13_variable_32 : decode cX13_variable 32 = .ok (.iload_n 1, 1) := by decide +kernel
theorem dX13_variable_33 : decode cX13_variable 33 = .ok (.iload_n 2, 1) := by decide +kernel
theorem dX13_variable_34 : decode cX13_variable 34 = .ok (.ifCond .ne 8, 3) := by decide +kernel
theorem dX13_variable_42 : decode cX13_variable 42 = .ok (.iload_n 2, 1) := by decide +kernel
theorem dX13_variable_43 : decode cX13_variable 43 = .ok (.iconst 1, 1) := by decide +kernel
theorem dX13_variable_44 : decode cX13_variable 44 = .ok (.if_icmp .ne 9, 3) := by decide +kernel
theorem dX13_variable_53 : decode cX13_variable 53 = .ok (.iconst 1, 1) := by decide +kernel
theorem dX13_variable_54 : decode cX13_variable 54 = .ok (.lconst 1, 1) := by decide +kernel
theorem dX13_variable_55 : decode cX13_variable 55 = .ok (.invokestatic 209, 3) := by decide +kernel
theorem dX13_variable_58 : decode cX13_variable 58 = .ok (.iconst 2, 1) := by decide +kernel
theorem dX13_variable_59 : decode cX13_variable 59 = .ok (.invokevirtual 213, 3) := by decide +kernel
theorem dX13_variable_62 : decode cX13_variable 62 = .ok (.ireturn, 1) := by decide +kernel
theorem dX13_variable_47 : decode cX13_variable 47 = .ok (.sipush 1024, 3) := by decide +kernel
theorem dX13_variable_50 : decode cX13_variable 50 = .ok (.goto 4, 3) := by decide +kernel
theorem dX13_variable_37 : decode cX13_variable 37 = .ok (.ldc 217, 2) := by decide +kernel
theorem w9_155 : (Jvm.Cond.constant "PolyforgeModel" (217 : Nat) (1048576 : Int32)) ∈ lw_tbl := pv_t9 (pv_mg 155 rfl)
theorem dX13_variable_39 : decode cX13_variable 39 = .ok (.goto 15, 3) := by decide +kernel
theorem dX13_variable_25 : decode cX13_variable 25 = .ok (.aload_n 0, 1) := by decide +kernel
theorem dX13_variable_26 : decode cX13_variable 26 = .ok (.iconst 1, 1) := by decide +kernel
theorem dX13_variable_27 : decode cX13_variable 27 = .ok (.invokevirtual 185, 3) := by decide +kernel
theorem dX13_variable_30 : decode cX13_variable 30 = .ok (.ireturn, 1) := by decide +kernel
theorem dX13_variable_9 : decode cX13_variable 9 = .ok (.iload_n 1, 1) := by decide +kernel
theorem dX13_variable_10 : decode cX13_variable 10 = .ok (.invokestatic 206, 3) := by decide +kernel
theorem dX13_variable_13 : decode cX13_variable 13 = .ok (.ifCond .eq 12, 3) := by decide +kernel
set_option maxHeartbeats 4000000 in
set_option maxRecDepth 100000 in
/-- variable on a fresh object -/
theorem c_X13_variable (l : Launch) (hfl : l.stackTraces = false) (D : va_G) (sz : Nat) (h0 : Nat) (q : Nat → Nat) (cI cT : ClassId) (p0 p1 : Int32) : Met l yX13_variable (Cond.code yX13_variable cX13_variable 3 (some .int) :: pv_W) ({ frames := 3, cells := 3, slots := 4, locals := 84 } : Room) (va_Pc [.ref h0, .int p0, .int p1] (pv_P D [(cI, .int), (cT, .object "PolyforgeModel$Terms")] [(h0, .inr (1, pv_m 0 q)), ((q 0), .inl (cI, 60, .inl (fun _ => 0))), ((q 1), .inl (cT, 60, .inr (.inr (.inr (.inr (fun _ => none))))))] (va_A [(h0, .inr (1, pv_m 0 q)), ((q 0), .inl (cI, 60, .inl (fun _ => 0))), ((q 1), .inl (cT, 60, .inr (.inr (.inr (.inr (fun _ => none))))))] sz) sz)) (va_Qi (fun r (u : Int32) => (u = 0 ∧ r = 0 ∧ ((p0 = 0 ∨ pv_pr p0) ∧ pv_vr p1)) ∨ (u = 1 ∧ ¬ ((p0 = 0 ∨ pv_pr p0) ∧ pv_vr p1))) (fun (u : Int32) t => ∃ fs : List Value, fs[0]? = some (.int u) ∧ va_P D pv_cl [(h0, .inr (1, fs))] t.heap ∧ va_K D pv_cl [] t ∧ va_D (va_A [(h0, .inr (1, pv_m 0 q)), ((q 0), .inl (cI, 60, .inl (fun _ => 0))), ((q 1), .inl (cT, 60, .inr (.inr (.inr (.inr (fun _ => none))))))] sz) [(h0, .inr (1, fs))]) (va_A [(h0, .inr (1, pv_m 0 q)), ((q 0), .inl (cI, 60, .inl (fun _ => 0))), ((q 1), .inl (cT, 60, .inr (.inr (.inr (.inr (fun _ => none))))))] sz)) 3 4 (va_A [(h0, .inr (1, pv_m 0 q)), ((q 0), .inl (cI, 60, .inl (fun _ => 0))), ((q 1), .inl (cT, 60, .inr (.inr (.inr (.inr (fun _ => none))))))] sz) := by
  refine Met.ofW (cc := cX13_variable) (maxL := 3) (ret := (some .int)) (by decide) rfl ?_
  intro p e s m args below meth c s₁ B hml hv
  obtain ⟨rfl, hsz, hE, hP, hK, hD0⟩ := hv
  have hx := B.exec
  have hb := B.bytes
  have hr := B.returns
  have hts := fun (w : Cond) (h : w ∈ pv_W) => atoms_spec (ws := Cond.code yX13_variable cX13_variable 3 (some .int) :: pv_W) B.pre w (List.mem_cons_of_mem _ h)
  have hg := fun {w : Cond} (h : w ∈ lw_tbl) (g : goodWord w = true) => hts w (pv_in h g)
  have hown : s.vm.findClass RX13 = some m.cls := findClass_of_methodNamed B.named
  have hlocks := B.notSynchronized
  subst hsz
  have hD := hD0.self (sz := s.heap.size)
  generalize hAe : va_A [(h0, .inr (1, pv_m 0 q)), ((q 0), .inl (cI, 60, .inl (fun _ => 0))), ((q 1), .inl (cT, 60, .inr (.inr (.inr (.inr (fun _ => none))))))] s.heap.size = A at hD hE ⊢
  have hA : ∀ q : Nat, s.heap.size ≤ q → A q := fun q h => by rw [← hAe]; exact Or.inr h
  have hS : va_S A s.heap s.heap [] := va_S.rf
  have hP : va_P D pv_cl [(h0, .inr (1, pv_m 0 q)), ((q 0), .inl (cI, 60, .inl (fun _ => 0))), ((q 1), .inl (cT, 60, .inr (.inr (.inr (.inr (fun _ => none))))))] s.heap := hP
  have hl := lv_entry ([.ref h0, .int p0, .int p1]) (n := 3) (Nat.le_of_ble_eq_true rfl)
  rw [lg_entry_eq]
  generalize (lg_sl ([.ref h0, .int p0, .int p1]) ++ List.replicate (3 - (lg_sl ([.ref h0, .int p0, .int p1])).length) Slot.unset).toArray = ls at hl ⊢
  have hl : lv_has ls 3 [(0, .ref h0), (1, .int p0), (2, .int p1)] := hl
  refine lv_aload_n hx hb dX13_variable_0 rfl (lv_at hl 0 rfl) ?_
  refine lv_iconst (v := 0) hx hb dX13_variable_1 (by decide) ?_
  refine va_put (own := RX13) (D := D) (ci := 1) (v := .int 0) (ty := .int) (C := RX13) (T := TX13) (N := 45) hx hb hts inF13 tyX13 tyX13_ok nmX13 hown hK hP hD hS 0 rfl rfl 0 (by decide) (hg w8_205 rfl) (fun _ h9 => h9) rfl (by decide +kernel) rfl rfl (Nat.le_of_ble_eq_true rfl) dX13_variable_2 (fun H locs hP hD hS => ?_)
  have hP : va_P D pv_cl [(h0, .inr (1, pv_m 0 q)), ((q 0), .inl (cI, 60, .inl (fun _ => 0))), ((q 1), .inl (cT, 60, .inr (.inr (.inr (.inr (fun _ => none))))))] _ := hP
  have hD : va_D A [(h0, .inr (1, pv_m 0 q)), ((q 0), .inl (cI, 60, .inl (fun _ => 0))), ((q 1), .inl (cT, 60, .inr (.inr (.inr (.inr (fun _ => none))))))] := hD
  refine lv_iload_n hx hb dX13_variable_5 rfl (lv_at hl 1 rfl) ?_
  refine lv_if_eq (tgt := 16) hx hb dX13_variable_6 (by decide) (fun c_1 => ?_) (fun c_1 => ?_)
  · refine lv_iload_n hx hb dX13_variable_16 rfl (lv_at hl 2 rfl) ?_
    refine lv_iconst (v := 0) hx hb dX13_variable_17 (by decide) ?_
    refine lv_iconst (v := 2) hx hb dX13_variable_18 (by decide) ?_
    have hF := pv_new hA hS.1
    refine va_calli (va_runS (As := [.int p1, .int 0, .int 2]) (rest := []) ⟨hx, hb, hml, hown, hts⟩ (c_X13_in l hfl D _ p1 0 2) (va_cwS 3 hts (pv_gS w9_152 w9_153 w1_10 w9_154) rfl rfl rfl (by decide +kernel) ⟨Nat.le_of_ble_eq_true rfl, Nat.le_of_ble_eq_true rfl⟩) (pv_ps hE hS hF (hP.sub [] rfl) (hK.sub [] rfl) (hD.sub [] (by decide) rfl)) rfl rfl hl.1 rfl (lv_room (Nat.le_of_ble_eq_true rfl)) dX13_variable_19 ⟨Nat.le_of_ble_eq_true rfl, Nat.le_of_ble_eq_true rfl⟩) hS (fun q _ h => hF q h) hF (fun r_1 u t H1 locs1 ht hvm hw hB hz1 hk1 hS => ?_)
    refine W.widen (k := 0) (n := 0) (Nat.le_of_ble_eq_true rfl) (Nat.le_of_ble_eq_true rfl) ?_
    have hP := pv_keep hP rfl hk1
    rcases hw with ⟨rfl, a_3⟩ | ⟨rfl, a_3⟩
    · refine lv_if_ne (tgt := 31) hx hb dX13_variable_22 (by decide) (fun _ => ?_) (fun c_4 => absurd c_4 (by decide))
      refine lv_aload_n hx hb dX13_variable_31 rfl (lv_at hl 0 rfl) ?_
      refine lv_iload_n hx hb dX13_variable_32 rfl (lv_at hl 1 rfl) ?_
      refine lv_iload_n hx hb dX13_variable_33 rfl (lv_at hl 2 rfl) ?_
      refine lv_if_ne (tgt := 42) hx hb dX13_variable_34 (by decide) (fun c_5 => ?_) (fun c_5 => ?_)
      · refine lv_iload_n hx hb dX13_variable_42 rfl (lv_at hl 2 rfl) ?_
        refine lv_iconst (v := 1) hx hb dX13_variable_43 (by decide) ?_
        refine lv_icmp_ne (tgt := 53) hx hb dX13_variable_44 (by decide) (fun c_6 => ?_) (fun c_6 => ?_)
        · refine lv_iconst (v := 1) hx hb dX13_variable_53 (by decide) ?_
          refine lv_lconst (v := 1) hx hb dX13_variable_54 (by decide) ?_
          have hF := va_free (wc := []) hD hS hA [] rfl
          refine va_callr (va_runS (As := [.int 1, .long 1]) (rest := [.int p0, .ref h0]) ⟨hx, hb, hml, hown, hts⟩ (c_X13_single l hfl D _ 1 1) (va_cwS 2 hts (pv_gS w9_120 w9_121 w1_10 w9_122) rfl rfl rfl (by decide +kernel) ⟨Nat.le_of_ble_eq_true rfl, Nat.le_of_ble_eq_true rfl⟩) (pv_ps hE hS hF (hP.sub [] rfl) (hK.sub [] rfl) (hD.sub [] (by decide) rfl)) rfl rfl hl.1 rfl (lv_room (Nat.le_of_ble_eq_true rfl)) dX13_variable_55 ⟨Nat.le_of_ble_eq_true rfl, Nat.le_of_ble_eq_true rfl⟩) hS (fun q _ h => hF q h) hF (fun u ra_6 t H1 locs1 ht hvm hw hB hz1 hk1 hS => ?_)
          refine W.widen (k := 3) (n := 4) (Nat.le_of_ble_eq_true rfl) (Nat.le_of_ble_eq_true rfl) ?_
          obtain ⟨b_8, c_9, hP1, hK1, hD1⟩ := hB
          rw [ht] at hP1
          have hK1 := va_K.moved hvm.symm hK1
          obtain ⟨hP, hD⟩ := va_join (wr := [(h0, .inr (1, pv_m 0 q)), ((q 0), .inl (cI, 60, .inl (fun _ => 0))), ((q 1), .inl (cT, 60, .inr (.inr (.inr (.inr (fun _ => none))))))]) (w1 := [(ra_6, .inr (11, [.ref b_8, .ref c_9]))]) hP hD [] [0, 1, 2] rfl rfl (by decide) (by decide) hk1 hF hP1 hD1
          have hP : va_P D pv_cl [(h0, .inr (1, pv_m 0 q)), ((q 0), .inl (cI, 60, .inl (fun _ => 0))), ((q 1), .inl (cT, 60, .inr (.inr (.inr (.inr (fun _ => none)))))), (ra_6, .inr (11, [.ref b_8, .ref c_9]))] _ := hP
          have hD : va_D A [(h0, .inr (1, pv_m 0 q)), ((q 0), .inl (cI, 60, .inl (fun _ => 0))), ((q 1), .inl (cT, 60, .inr (.inr (.inr (.inr (fun _ => none)))))), (ra_6, .inr (11, [.ref b_8, .ref c_9]))] := hD
          refine lv_iconst (v := 2) hx hb dX13_variable_58 (by decide) ?_
          have hF := va_free (wc := [(h0, .inr (1, pv_m 0 q)), (ra_6, .inr (11, [.ref b_8, .ref c_9])), ((q 0), .inl (cI, 60, .inl (fun _ => 0))), ((q 1), .inl (cT, 60, .inr (.inr (.inr (.inr (fun _ => none))))))]) hD hS hA [0, 3, 1, 2] rfl
          refine va_calli (va_runV (As := [.int p0, .ref ra_6, .int 2]) (rest := []) ⟨hx, hb, hml, hown, hts⟩ (c_X13_keeps l hfl D _ h0 q cI cT ra_6 b_8 c_9 p0 2) (cwV 3 hts (pv_gV w9_137 w9_139 wp5_10 w1_10 w9_140) rfl rfl rfl (by decide +kernel) ⟨Nat.le_of_ble_eq_true rfl, Nat.le_of_ble_eq_true rfl⟩) (pv_pV hE hS hF (hP.sub [0, 3, 1, 2] rfl) (hK.sub [0, 1] rfl) (hD.sub [0, 3, 1, 2] (by decide) rfl) (va_recv (ci := 1) (q0 := 0) hK hP rfl rfl)) rfl rfl hl.1 rfl (lv_room (Nat.le_of_ble_eq_true rfl)) dX13_variable_59 ⟨Nat.le_of_ble_eq_true rfl, Nat.le_of_ble_eq_true rfl⟩) hS (fun q _ h => hF q h) hF (fun r_9 u t H1 locs1 ht hvm hw hB hz1 hk1 hS => ?_)
          refine W.widen (k := 3) (n := 4) (Nat.le_of_ble_eq_true rfl) (Nat.le_of_ble_eq_true rfl) ?_
          obtain ⟨rfl, hw⟩ := hw
          subst hw
          obtain ⟨fs_11, hf_12, hP1, hK1, hD1⟩ := hB
          rw [ht] at hP1
          have hK1 := va_K.moved hvm.symm hK1
          obtain ⟨hP, hD⟩ := va_join (wr := []) (w1 := [(h0, .inr (1, fs_11))]) hP hD [0, 3, 1, 2] [] rfl rfl (by decide) (by decide) hk1 hF hP1 hD1
          have hP : va_P D pv_cl [(h0, .inr (1, fs_11))] _ := hP
          have hD : va_D A [(h0, .inr (1, fs_11))] := hD
          refine W.widen (k := 3) (n := 4) (Nat.le_of_ble_eq_true rfl) (Nat.le_of_ble_eq_true rfl) ?_
          exact W.iret (v := 0) hx hb hr (fun t ht hW => ⟨⟨0, 0, rfl, Or.inl ⟨rfl, rfl, ⟨Or.inl c_1, pv_in3.mp a_3⟩⟩, fs_11, hf_12, (by rw [ht]; exact hP.sub [0] rfl), va_K.moved hW.alike (hK.sub [] rfl), hD.sub [0] (by decide) rfl⟩, hS.F ht⟩) hS.2.2 dX13_variable_62
        · refine lv_sipush (v := 1024) hx hb dX13_variable_47 (by decide) ?_
          refine lv_goto (tgt := 54) hx hb dX13_variable_50 (by decide) ?_
          refine lv_lconst (v := 1) hx hb dX13_variable_54 (by decide) ?_
          have hF := va_free (wc := []) hD hS hA [] rfl
          refine va_callr (va_runS (As := [.int 1024, .long 1]) (rest := [.int p0, .ref h0]) ⟨hx, hb, hml, hown, hts⟩ (c_X13_single l hfl D _ 1024 1) (va_cwS 2 hts (pv_gS w9_120 w9_121 w1_10 w9_122) rfl rfl rfl (by decide +kernel) ⟨Nat.le_of_ble_eq_true rfl, Nat.le_of_ble_eq_true rfl⟩) (pv_ps hE hS hF (hP.sub [] rfl) (hK.sub [] rfl) (hD.sub [] (by decide) rfl)) rfl rfl hl.1 rfl (lv_room (Nat.le_of_ble_eq_true rfl)) dX13_variable_55 ⟨Nat.le_of_ble_eq_true rfl, Nat.le_of_ble_eq_true rfl⟩) hS (fun q _ h => hF q h) hF (fun u ra_12 t H1 locs1 ht hvm hw hB hz1 hk1 hS => ?_)
          refine W.widen (k := 3) (n := 4) (Nat.le_of_ble_eq_true rfl) (Nat.le_of_ble_eq_true rfl) ?_
          obtain ⟨b_14, c_15, hP1, hK1, hD1⟩ := hB
          rw [ht] at hP1
          have hK1 := va_K.moved hvm.symm hK1
          obtain ⟨hP, hD⟩ := va_join (wr := [(h0, .inr (1, pv_m 0 q)), ((q 0), .inl (cI, 60, .inl (fun _ => 0))), ((q 1), .inl (cT, 60, .inr (.inr (.inr (.inr (fun _ => none))))))]) (w1 := [(ra_12, .inr (11, [.ref b_14, .ref c_15]))]) hP hD [] [0, 1, 2] rfl rfl (by decide) (by decide) hk1 hF hP1 hD1
          have hP : va_P D pv_cl [(h0, .inr (1, pv_m 0 q)), ((q 0), .inl (cI, 60, .inl (fun _ => 0))), ((q 1), .inl (cT, 60, .inr (.inr (.inr (.inr (fun _ => none)))))), (ra_12, .inr (11, [.ref b_14, .ref c_15]))] _ := hP
          have hD : va_D A [(h0, .inr (1, pv_m 0 q)), ((q 0), .inl (cI, 60, .inl (fun _ => 0))), ((q 1), .inl (cT, 60, .inr (.inr (.inr (.inr (fun _ => none)))))), (ra_12, .inr (11, [.ref b_14, .ref c_15]))] := hD
          refine lv_iconst (v := 2) hx hb dX13_variable_58 (by decide) ?_
          have hF := va_free (wc := [(h0, .inr (1, pv_m 0 q)), (ra_12, .inr (11, [.ref b_14, .ref c_15])), ((q 0), .inl (cI, 60, .inl (fun _ => 0))), ((q 1), .inl (cT, 60, .inr (.inr (.inr (.inr (fun _ => none))))))]) hD hS hA [0, 3, 1, 2] rfl
          refine va_calli (va_runV (As := [.int p0, .ref ra_12, .int 2]) (rest := []) ⟨hx, hb, hml, hown, hts⟩ (c_X13_keeps l hfl D _ h0 q cI cT ra_12 b_14 c_15 p0 2) (cwV 3 hts (pv_gV w9_137 w9_139 wp5_10 w1_10 w9_140) rfl rfl rfl (by decide +kernel) ⟨Nat.le_of_ble_eq_true rfl, Nat.le_of_ble_eq_true rfl⟩) (pv_pV hE hS hF (hP.sub [0, 3, 1, 2] rfl) (hK.sub [0, 1] rfl) (hD.sub [0, 3, 1, 2] (by decide) rfl) (va_recv (ci := 1) (q0 := 0) hK hP rfl rfl)) rfl rfl hl.1 rfl (lv_room (Nat.le_of_ble_eq_true rfl)) dX13_variable_59 ⟨Nat.le_of_ble_eq_true rfl, Nat.le_of_ble_eq_true rfl⟩) hS (fun q _ h => hF q h) hF (fun r_15 u t H1 locs1 ht hvm hw hB hz1 hk1 hS => ?_)
          refine W.widen (k := 3) (n := 4) (Nat.le_of_ble_eq_true rfl) (Nat.le_of_ble_eq_true rfl) ?_
          obtain ⟨rfl, hw⟩ := hw
          subst hw
          obtain ⟨fs_17, hf_18, hP1, hK1, hD1⟩ := hB
          rw [ht] at hP1
          have hK1 := va_K.moved hvm.symm hK1
          obtain ⟨hP, hD⟩ := va_join (wr := []) (w1 := [(h0, .inr (1, fs_17))]) hP hD [0, 3, 1, 2] [] rfl rfl (by decide) (by decide) hk1 hF hP1 hD1
          have hP : va_P D pv_cl [(h0, .inr (1, fs_17))] _ := hP
          have hD : va_D A [(h0, .inr (1, fs_17))] := hD
          refine W.widen (k := 3) (n := 4) (Nat.le_of_ble_eq_true rfl) (Nat.le_of_ble_eq_true rfl) ?_
          exact W.iret (v := 0) hx hb hr (fun t ht hW => ⟨⟨0, 0, rfl, Or.inl ⟨rfl, rfl, ⟨Or.inl c_1, pv_in3.mp a_3⟩⟩, fs_17, hf_18, (by rw [ht]; exact hP.sub [0] rfl), va_K.moved hW.alike (hK.sub [] rfl), hD.sub [0] (by decide) rfl⟩, hS.F ht⟩) hS.2.2 dX13_variable_62
      · refine lv_ldc (own := RX13) (v := 1048576) hx hb hown (hg w9_155 rfl) dX13_variable_37 ?_
        refine lv_goto (tgt := 54) hx hb dX13_variable_39 (by decide) ?_
        refine lv_lconst (v := 1) hx hb dX13_variable_54 (by decide) ?_
        have hF := va_free (wc := []) hD hS hA [] rfl
        refine va_callr (va_runS (As := [.int 1048576, .long 1]) (rest := [.int p0, .ref h0]) ⟨hx, hb, hml, hown, hts⟩ (c_X13_single l hfl D _ 1048576 1) (va_cwS 2 hts (pv_gS w9_120 w9_121 w1_10 w9_122) rfl rfl rfl (by decide +kernel) ⟨Nat.le_of_ble_eq_true rfl, Nat.le_of_ble_eq_true rfl⟩) (pv_ps hE hS hF (hP.sub [] rfl) (hK.sub [] rfl) (hD.sub [] (by decide) rfl)) rfl rfl hl.1 rfl (lv_room (Nat.le_of_ble_eq_true rfl)) dX13_variable_55 ⟨Nat.le_of_ble_eq_true rfl, Nat.le_of_ble_eq_true rfl⟩) hS (fun q _ h => hF q h) hF (fun u ra_18 t H1 locs1 ht hvm hw hB hz1 hk1 hS => ?_)
        refine W.widen (k := 3) (n := 4) (Nat.le_of_ble_eq_true rfl) (Nat.le_of_ble_eq_true rfl) ?_
        obtain ⟨b_20, c_21, hP1, hK1, hD1⟩ := hB
        rw [ht] at hP1
        have hK1 := va_K.moved hvm.symm hK1
        obtain ⟨hP, hD⟩ := va_join (wr := [(h0, .inr (1, pv_m 0 q)), ((q 0), .inl (cI, 60, .inl (fun _ => 0))), ((q 1), .inl (cT, 60, .inr (.inr (.inr (.inr (fun _ => none))))))]) (w1 := [(ra_18, .inr (11, [.ref b_20, .ref c_21]))]) hP hD [] [0, 1, 2] rfl rfl (by decide) (by decide) hk1 hF hP1 hD1
        have hP : va_P D pv_cl [(h0, .inr (1, pv_m 0 q)), ((q 0), .inl (cI, 60, .inl (fun _ => 0))), ((q 1), .inl (cT, 60, .inr (.inr (.inr (.inr (fun _ => none)))))), (ra_18, .inr (11, [.ref b_20, .ref c_21]))] _ := hP
        have hD : va_D A [(h0, .inr (1, pv_m 0 q)), ((q 0), .inl (cI, 60, .inl (fun _ => 0))), ((q 1), .inl (cT, 60, .inr (.inr (.inr (.inr (fun _ => none)))))), (ra_18, .inr (11, [.ref b_20, .ref c_21]))] := hD
        refine lv_iconst (v := 2) hx hb dX13_variable_58 (by decide) ?_
        have hF := va_free (wc := [(h0, .inr (1, pv_m 0 q)), (ra_18, .inr (11, [.ref b_20, .ref c_21])), ((q 0), .inl (cI, 60, .inl (fun _ => 0))), ((q 1), .inl (cT, 60, .inr (.inr (.inr (.inr (fun _ => none))))))]) hD hS hA [0, 3, 1, 2] rfl
        refine va_calli (va_runV (As := [.int p0, .ref ra_18, .int 2]) (rest := []) ⟨hx, hb, hml, hown, hts⟩ (c_X13_keeps l hfl D _ h0 q cI cT ra_18 b_20 c_21 p0 2) (cwV 3 hts (pv_gV w9_137 w9_139 wp5_10 w1_10 w9_140) rfl rfl rfl (by decide +kernel) ⟨Nat.le_of_ble_eq_true rfl, Nat.le_of_ble_eq_true rfl⟩) (pv_pV hE hS hF (hP.sub [0, 3, 1, 2] rfl) (hK.sub [0, 1] rfl) (hD.sub [0, 3, 1, 2] (by decide) rfl) (va_recv (ci := 1) (q0 := 0) hK hP rfl rfl)) rfl rfl hl.1 rfl (lv_room (Nat.le_of_ble_eq_true rfl)) dX13_variable_59 ⟨Nat.le_of_ble_eq_true rfl, Nat.le_of_ble_eq_true rfl⟩) hS (fun q _ h => hF q h) hF (fun r_21 u t H1 locs1 ht hvm hw hB hz1 hk1 hS => ?_)
        refine W.widen (k := 3) (n := 4) (Nat.le_of_ble_eq_true rfl) (Nat.le_of_ble_eq_true rfl) ?_
        obtain ⟨rfl, hw⟩ := hw
        subst hw
        obtain ⟨fs_23, hf_24, hP1, hK1, hD1⟩ := hB
        rw [ht] at hP1
        have hK1 := va_K.moved hvm.symm hK1
        obtain ⟨hP, hD⟩ := va_join (wr := []) (w1 := [(h0, .inr (1, fs_23))]) hP hD [0, 3, 1, 2] [] rfl rfl (by decide) (by decide) hk1 hF hP1 hD1
        have hP : va_P D pv_cl [(h0, .inr (1, fs_23))] _ := hP
        have hD : va_D A [(h0, .inr (1, fs_23))] := hD
        refine W.widen (k := 3) (n := 4) (Nat.le_of_ble_eq_true rfl) (Nat.le_of_ble_eq_true rfl) ?_
        exact W.iret (v := 0) hx hb hr (fun t ht hW => ⟨⟨0, 0, rfl, Or.inl ⟨rfl, rfl, ⟨Or.inl c_1, pv_in3.mp a_3⟩⟩, fs_23, hf_24, (by rw [ht]; exact hP.sub [0] rfl), va_K.moved hW.alike (hK.sub [] rfl), hD.sub [0] (by decide) rfl⟩, hS.F ht⟩) hS.2.2 dX13_variable_62
    · refine lv_if_ne (tgt := 31) hx hb dX13_variable_22 (by decide) (fun c_25 => absurd (by decide) c_25) (fun _ => ?_)
      refine lv_aload_n hx hb dX13_variable_25 rfl (lv_at hl 0 rfl) ?_
      refine lv_iconst (v := 1) hx hb dX13_variable_26 (by decide) ?_
      have hF := va_free (wc := [(h0, .inr (1, pv_m 0 q))]) hD hS hA [0] rfl
      refine va_calli (va_runV (As := [.int 1]) (rest := []) ⟨hx, hb, hml, hown, hts⟩ (c_X13_fails l hfl D _ h0 q 1) (cwV 1 hts (pv_gV w9_113 w9_115 wp5_9 w1_10 w9_116) rfl rfl rfl (by decide +kernel) ⟨Nat.le_of_ble_eq_true rfl, Nat.le_of_ble_eq_true rfl⟩) (pv_pV hE hS hF (hP.sub [0] rfl) (hK.sub [] rfl) (hD.sub [0] (by decide) rfl) (va_recv (ci := 1) (q0 := 0) hK hP rfl rfl)) rfl rfl hl.1 rfl (lv_room (Nat.le_of_ble_eq_true rfl)) dX13_variable_27 ⟨Nat.le_of_ble_eq_true rfl, Nat.le_of_ble_eq_true rfl⟩) hS (fun q _ h => hF q h) hF (fun r_25 u t H1 locs1 ht hvm hw hB hz1 hk1 hS => ?_)
      refine W.widen (k := 0) (n := 0) (Nat.le_of_ble_eq_true rfl) (Nat.le_of_ble_eq_true rfl) ?_
      obtain rfl := hw
      obtain ⟨hP1, hK1, hD1⟩ := hB
      rw [ht] at hP1
      have hK1 := va_K.moved hvm.symm hK1
      obtain ⟨hP, hD⟩ := va_join (wr := [((q 0), .inl (cI, 60, .inl (fun _ => 0))), ((q 1), .inl (cT, 60, .inr (.inr (.inr (.inr (fun _ => none))))))]) (w1 := [(h0, .inr (1, pv_m 1 q))]) hP hD [0] [1, 2] rfl rfl (by decide) (by decide) hk1 hF hP1 hD1
      have hP : va_P D pv_cl [((q 0), .inl (cI, 60, .inl (fun _ => 0))), ((q 1), .inl (cT, 60, .inr (.inr (.inr (.inr (fun _ => none)))))), (h0, .inr (1, pv_m 1 q))] _ := hP
      have hD : va_D A [((q 0), .inl (cI, 60, .inl (fun _ => 0))), ((q 1), .inl (cT, 60, .inr (.inr (.inr (.inr (fun _ => none)))))), (h0, .inr (1, pv_m 1 q))] := hD
      refine W.widen (k := 3) (n := 4) (Nat.le_of_ble_eq_true rfl) (Nat.le_of_ble_eq_true rfl) ?_
      exact W.iret (v := 0) hx hb hr (fun t ht hW => ⟨⟨0, 1, rfl, Or.inr ⟨rfl, fun h => a_3 (pv_in3.mpr h.2)⟩, pv_m 1 q, rfl, (by rw [ht]; exact hP.sub [2] rfl), va_K.moved hW.alike (hK.sub [] rfl), hD.sub [2] (by decide) rfl⟩, hS.F ht⟩) hS.2.2 dX13_variable_30
  · refine lv_iload_n hx hb dX13_variable_9 rfl (lv_at hl 1 rfl) ?_
    have hF := pv_new hA hS.1
    refine va_calli (va_runS (As := [.int p0]) (rest := []) ⟨hx, hb, hml, hown, hts⟩ (c_X13_isPrime l hfl D _ p0) (va_cwS 1 hts (pv_gS w9_110 w9_111 w1_10 w9_112) rfl rfl rfl (by decide +kernel) ⟨Nat.le_of_ble_eq_true rfl, Nat.le_of_ble_eq_true rfl⟩) (pv_ps hE hS hF (hP.sub [] rfl) (hK.sub [] rfl) (hD.sub [] (by decide) rfl)) rfl rfl hl.1 rfl (lv_room (Nat.le_of_ble_eq_true rfl)) dX13_variable_10 ⟨Nat.le_of_ble_eq_true rfl, Nat.le_of_ble_eq_true rfl⟩) hS (fun q _ h => hF q h) hF (fun r_26 u t H1 locs1 ht hvm hw hB hz1 hk1 hS => ?_)
    refine W.widen (k := 0) (n := 0) (Nat.le_of_ble_eq_true rfl) (Nat.le_of_ble_eq_true rfl) ?_
    have hP := pv_keep hP rfl hk1
    rcases hw with ⟨rfl, a_28⟩ | ⟨rfl, a_28⟩
    · refine lv_if_eq (tgt := 25) hx hb dX13_variable_13 (by decide) (fun c_29 => absurd c_29 (by decide)) (fun _ => ?_)
      refine lv_iload_n hx hb dX13_variable_16 rfl (lv_at hl 2 rfl) ?_
      refine lv_iconst (v := 0) hx hb dX13_variable_17 (by decide) ?_
      refine lv_iconst (v := 2) hx hb dX13_variable_18 (by decide) ?_
      have hF := pv_new hA hS.1
      refine va_calli (va_runS (As := [.int p1, .int 0, .int 2]) (rest := []) ⟨hx, hb, hml, hown, hts⟩ (c_X13_in l hfl D _ p1 0 2) (va_cwS 3 hts (pv_gS w9_152 w9_153 w1_10 w9_154) rfl rfl rfl (by decide +kernel) ⟨Nat.le_of_ble_eq_true rfl, Nat.le_of_ble_eq_true rfl⟩) (pv_ps hE hS hF (hP.sub [] rfl) (hK.sub [] rfl) (hD.sub [] (by decide) rfl)) rfl rfl hl.1 rfl (lv_room (Nat.le_of_ble_eq_true rfl)) dX13_variable_19 ⟨Nat.le_of_ble_eq_true rfl, Nat.le_of_ble_eq_true rfl⟩) hS (fun q _ h => hF q h) hF (fun r_29 u t H1 locs1 ht hvm hw hB hz1 hk1 hS => ?_)
      refine W.widen (k := 0) (n := 0) (Nat.le_of_ble_eq_true rfl) (Nat.le_of_ble_eq_true rfl) ?_
      have hP := pv_keep hP rfl hk1
      rcases hw with ⟨rfl, a_31⟩ | ⟨rfl, a_31⟩
      · refine lv_if_ne (tgt := 31) hx hb dX13_variable_22 (by decide) (fun _ => ?_) (fun c_32 => absurd c_32 (by decide))
        refine lv_aload_n hx hb dX13_variable_31 rfl (lv_at hl 0 rfl) ?_
        refine lv_iload_n hx hb dX13_variable_32 rfl (lv_at hl 1 rfl) ?_
        refine lv_iload_n hx hb dX13_variable_33 rfl (lv_at hl 2 rfl) ?_
        refine lv_if_ne (tgt := 42) hx hb dX13_variable_34 (by decide) (fun c_33 => ?_) (fun c_33 => ?_)
        · refine lv_iload_n hx hb dX13_variable_42 rfl (lv_at hl 2 rfl) ?_
          refine lv_iconst (v := 1) hx hb dX13_variable_43 (by decide) ?_
          refine lv_icmp_ne (tgt := 53) hx hb dX13_variable_44 (by decide) (fun c_34 => ?_) (fun c_34 => ?_)
          · refine lv_iconst (v := 1) hx hb dX13_variable_53 (by decide) ?_
            refine lv_lconst (v := 1) hx hb dX13_variable_54 (by decide) ?_
            have hF := va_free (wc := []) hD hS hA [] rfl
            refine va_callr (va_runS (As := [.int 1, .long 1]) (rest := [.int p0, .ref h0]) ⟨hx, hb, hml, hown, hts⟩ (c_X13_single l hfl D _ 1 1) (va_cwS 2 hts (pv_gS w9_120 w9_121 w1_10 w9_122) rfl rfl rfl (by decide +kernel) ⟨Nat.le_of_ble_eq_true rfl, Nat.le_of_ble_eq_true rfl⟩) (pv_ps hE hS hF (hP.sub [] rfl) (hK.sub [] rfl) (hD.sub [] (by decide) rfl)) rfl rfl hl.1 rfl (lv_room (Nat.le_of_ble_eq_true rfl)) dX13_variable_55 ⟨Nat.le_of_ble_eq_true rfl, Nat.le_of_ble_eq_true rfl⟩) hS (fun q _ h => hF q h) hF (fun u ra_34 t H1 locs1 ht hvm hw hB hz1 hk1 hS => ?_)
            refine W.widen (k := 3) (n := 4) (Nat.le_of_ble_eq_true rfl) (Nat.le_of_ble_eq_true rfl) ?_
            obtain ⟨b_36, c_37, hP1, hK1, hD1⟩ := hB
            rw [ht] at hP1
            have hK1 := va_K.moved hvm.symm hK1
            obtain ⟨hP, hD⟩ := va_join (wr := [(h0, .inr (1, pv_m 0 q)), ((q 0), .inl (cI, 60, .inl (fun _ => 0))), ((q 1), .inl (cT, 60, .inr (.inr (.inr (.inr (fun _ => none))))))]) (w1 := [(ra_34, .inr (11, [.ref b_36, .ref c_37]))]) hP hD [] [0, 1, 2] rfl rfl (by decide) (by decide) hk1 hF hP1 hD1
            have hP : va_P D pv_cl [(h0, .inr (1, pv_m 0 q)), ((q 0), .inl (cI, 60, .inl (fun _ => 0))), ((q 1), .inl (cT, 60, .inr (.inr (.inr (.inr (fun _ => none)))))), (ra_34, .inr (11, [.ref b_36, .ref c_37]))] _ := hP
            have hD : va_D A [(h0, .inr (1, pv_m 0 q)), ((q 0), .inl (cI, 60, .inl (fun _ => 0))), ((q 1), .inl (cT, 60, .inr (.inr (.inr (.inr (fun _ => none)))))), (ra_34, .inr (11, [.ref b_36, .ref c_37]))] := hD
            refine lv_iconst (v := 2) hx hb dX13_variable_58 (by decide) ?_
            have hF := va_free (wc := [(h0, .inr (1, pv_m 0 q)), (ra_34, .inr (11, [.ref b_36, .ref c_37])), ((q 0), .inl (cI, 60, .inl (fun _ => 0))), ((q 1), .inl (cT, 60, .inr (.inr (.inr (.inr (fun _ => none))))))]) hD hS hA [0, 3, 1, 2] rfl
            refine va_calli (va_runV (As := [.int p0, .ref ra_34, .int 2]) (rest := []) ⟨hx, hb, hml, hown, hts⟩ (c_X13_keeps l hfl D _ h0 q cI cT ra_34 b_36 c_37 p0 2) (cwV 3 hts (pv_gV w9_137 w9_139 wp5_10 w1_10 w9_140) rfl rfl rfl (by decide +kernel) ⟨Nat.le_of_ble_eq_true rfl, Nat.le_of_ble_eq_true rfl⟩) (pv_pV hE hS hF (hP.sub [0, 3, 1, 2] rfl) (hK.sub [0, 1] rfl) (hD.sub [0, 3, 1, 2] (by decide) rfl) (va_recv (ci := 1) (q0 := 0) hK hP rfl rfl)) rfl rfl hl.1 rfl (lv_room (Nat.le_of_ble_eq_true rfl)) dX13_variable_59 ⟨Nat.le_of_ble_eq_true rfl, Nat.le_of_ble_eq_true rfl⟩) hS (fun q _ h => hF q h) hF (fun r_37 u t H1 locs1 ht hvm hw hB hz1 hk1 hS => ?_)
            refine W.widen (k := 3) (n := 4) (Nat.le_of_ble_eq_true rfl) (Nat.le_of_ble_eq_true rfl) ?_
            obtain ⟨rfl, hw⟩ := hw
            subst hw
            obtain ⟨fs_39, hf_40, hP1, hK1, hD1⟩ := hB
            rw [ht] at hP1
            have hK1 := va_K.moved hvm.symm hK1
            obtain ⟨hP, hD⟩ := va_join (wr := []) (w1 := [(h0, .inr (1, fs_39))]) hP hD [0, 3, 1, 2] [] rfl rfl (by decide) (by decide) hk1 hF hP1 hD1
            have hP : va_P D pv_cl [(h0, .inr (1, fs_39))] _ := hP
            have hD : va_D A [(h0, .inr (1, fs_39))] := hD
            refine W.widen (k := 3) (n := 4) (Nat.le_of_ble_eq_true rfl) (Nat.le_of_ble_eq_true rfl) ?_
            exact W.iret (v := 0) hx hb hr (fun t ht hW => ⟨⟨0, 0, rfl, Or.inl ⟨rfl, rfl, ⟨Or.inr a_28, pv_in3.mp a_31⟩⟩, fs_39, hf_40, (by rw [ht]; exact hP.sub [0] rfl), va_K.moved hW.alike (hK.sub [] rfl), hD.sub [0] (by decide) rfl⟩, hS.F ht⟩) hS.2.2 dX13_variable_62
          · refine lv_sipush (v := 1024) hx hb dX13_variable_47 (by decide) ?_
            refine lv_goto (tgt := 54) hx hb dX13_variable_50 (by decide) ?_
            refine lv_lconst (v := 1) hx hb dX13_variable_54 (by decide) ?_
            have hF := va_free (wc := []) hD hS hA [] rfl
            refine va_callr (va_runS (As := [.int 1024, .long 1]) (rest := [.int p0, .ref h0]) ⟨hx, hb, hml, hown, hts⟩ (c_X13_single l hfl D _ 1024 1) (va_cwS 2 hts (pv_gS w9_120 w9_121 w1_10 w9_122) rfl rfl rfl (by decide +kernel) ⟨Nat.le_of_ble_eq_true rfl, Nat.le_of_ble_eq_true rfl⟩) (pv_ps hE hS hF (hP.sub [] rfl) (hK.sub [] rfl) (hD.sub [] (by decide) rfl)) rfl rfl hl.1 rfl (lv_room (Nat.le_of_ble_eq_true rfl)) dX13_variable_55 ⟨Nat.le_of_ble_eq_true rfl, Nat.le_of_ble_eq_true rfl⟩) hS (fun q _ h => hF q h) hF (fun u ra_40 t H1 locs1 ht hvm hw hB hz1 hk1 hS => ?_)
            refine W.widen (k := 3) (n := 4) (Nat.le_of_ble_eq_true rfl) (Nat.le_of_ble_eq_true rfl) ?_
            obtain ⟨b_42, c_43, hP1, hK1, hD1⟩ := hB
            rw [ht] at hP1
            have hK1 := va_K.moved hvm.symm hK1
            obtain ⟨hP, hD⟩ := va_join (wr := [(h0, .inr (1, pv_m 0 q)), ((q 0), .inl (cI, 60, .inl (fun _ => 0))), ((q 1), .inl (cT, 60, .inr (.inr (.inr (.inr (fun _ => none))))))]) (w1 := [(ra_40, .inr (11, [.ref b_42, .ref c_43]))]) hP hD [] [0, 1, 2] rfl rfl (by decide) (by decide) hk1 hF hP1 hD1
            have hP : va_P D pv_cl [(h0, .inr (1, pv_m 0 q)), ((q 0), .inl (cI, 60, .inl (fun _ => 0))), ((q 1), .inl (cT, 60, .inr (.inr (.inr (.inr (fun _ => none)))))), (ra_40, .inr (11, [.ref b_42, .ref c_43]))] _ := hP
            have hD : va_D A [(h0, .inr (1, pv_m 0 q)), ((q 0), .inl (cI, 60, .inl (fun _ => 0))), ((q 1), .inl (cT, 60, .inr (.inr (.inr (.inr (fun _ => none)))))), (ra_40, .inr (11, [.ref b_42, .ref c_43]))] := hD
            refine lv_iconst (v := 2) hx hb dX13_variable_58 (by decide) ?_
            have hF := va_free (wc := [(h0, .inr (1, pv_m 0 q)), (ra_40, .inr (11, [.ref b_42, .ref c_43])), ((q 0), .inl (cI, 60, .inl (fun _ => 0))), ((q 1), .inl (cT, 60, .inr (.inr (.inr (.inr (fun _ => none))))))]) hD hS hA [0, 3, 1, 2] rfl
            refine va_calli (va_runV (As := [.int p0, .ref ra_40, .int 2]) (rest := []) ⟨hx, hb, hml, hown, hts⟩ (c_X13_keeps l hfl D _ h0 q cI cT ra_40 b_42 c_43 p0 2) (cwV 3 hts (pv_gV w9_137 w9_139 wp5_10 w1_10 w9_140) rfl rfl rfl (by decide +kernel) ⟨Nat.le_of_ble_eq_true rfl, Nat.le_of_ble_eq_true rfl⟩) (pv_pV hE hS hF (hP.sub [0, 3, 1, 2] rfl) (hK.sub [0, 1] rfl) (hD.sub [0, 3, 1, 2] (by decide) rfl) (va_recv (ci := 1) (q0 := 0) hK hP rfl rfl)) rfl rfl hl.1 rfl (lv_room (Nat.le_of_ble_eq_true rfl)) dX13_variable_59 ⟨Nat.le_of_ble_eq_true rfl, Nat.le_of_ble_eq_true rfl⟩) hS (fun q _ h => hF q h) hF (fun r_43 u t H1 locs1 ht hvm hw hB hz1 hk1 hS => ?_)
            refine W.widen (k := 3) (n := 4) (Nat.le_of_ble_eq_true rfl) (Nat.le_of_ble_eq_true rfl) ?_
            obtain ⟨rfl, hw⟩ := hw
            subst hw
            obtain ⟨fs_45, hf_46, hP1, hK1, hD1⟩ := hB
            rw [ht] at hP1
            have hK1 := va_K.moved hvm.symm hK1
            obtain ⟨hP, hD⟩ := va_join (wr := []) (w1 := [(h0, .inr (1, fs_45))]) hP hD [0, 3, 1, 2] [] rfl rfl (by decide) (by decide) hk1 hF hP1 hD1
            have hP : va_P D pv_cl [(h0, .inr (1, fs_45))] _ := hP
            have hD : va_D A [(h0, .inr (1, fs_45))] := hD
            refine W.widen (k := 3) (n := 4) (Nat.le_of_ble_eq_true rfl) (Nat.le_of_ble_eq_true rfl) ?_
            exact W.iret (v := 0) hx hb hr (fun t ht hW => ⟨⟨0, 0, rfl, Or.inl ⟨rfl, rfl, ⟨Or.inr a_28, pv_in3.mp a_31⟩⟩, fs_45, hf_46, (by rw [ht]; exact hP.sub [0] rfl), va_K.moved hW.alike (hK.sub [] rfl), hD.sub [0] (by decide) rfl⟩, hS.F ht⟩) hS.2.2 dX13_variable_62
        · refine lv_ldc (own := RX13) (v := 1048576) hx hb hown (hg w9_155 rfl) dX13_variable_37 ?_
          refine lv_goto (tgt := 54) hx hb dX13_variable_39 (by decide) ?_
          refine lv_lconst (v := 1) hx hb dX13_variable_54 (by decide) ?_
          have hF := va_free (wc := []) hD hS hA [] rfl
          refine va_callr (va_runS (As := [.int 1048576, .long 1]) (rest := [.int p0, .ref h0]) ⟨hx, hb, hml, hown, hts⟩ (c_X13_single l hfl D _ 1048576 1) (va_cwS 2 hts (pv_gS w9_120 w9_121 w1_10 w9_122) rfl rfl rfl (by decide +kernel) ⟨Nat.le_of_ble_eq_true rfl, Nat.le_of_ble_eq_true rfl⟩) (pv_ps hE hS hF (hP.sub [] rfl) (hK.sub [] rfl) (hD.sub [] (by decide) rfl)) rfl rfl hl.1 rfl (lv_room (Nat.le_of_ble_eq_true rfl)) dX13_variable_55 ⟨Nat.le_of_ble_eq_true rfl, Nat.le_of_ble_eq_true rfl⟩) hS (fun q _ h => hF q h) hF (fun u ra_46 t H1 locs1 ht hvm hw hB hz1 hk1 hS => ?_)
          refine W.widen (k := 3) (n := 4) (Nat.le_of_ble_eq_true rfl) (Nat.le_of_ble_eq_true rfl) ?_
          obtain ⟨b_48, c_49, hP1, hK1, hD1⟩ := hB
          rw [ht] at hP1
          have hK1 := va_K.moved hvm.symm hK1
          obtain ⟨hP, hD⟩ := va_join (wr := [(h0, .inr (1, pv_m 0 q)), ((q 0), .inl (cI, 60, .inl (fun _ => 0))), ((q 1), .inl (cT, 60, .inr (.inr (.inr (.inr (fun _ => none))))))]) (w1 := [(ra_46, .inr (11, [.ref b_48, .ref c_49]))]) hP hD [] [0, 1, 2] rfl rfl (by decide) (by decide) hk1 hF hP1 hD1
          have hP : va_P D pv_cl [(h0, .inr (1, pv_m 0 q)), ((q 0), .inl (cI, 60, .inl (fun _ => 0))), ((q 1), .inl (cT, 60, .inr (.inr (.inr (.inr (fun _ => none)))))), (ra_46, .inr (11, [.ref b_48, .ref c_49]))] _ := hP
          have hD : va_D A [(h0, .inr (1, pv_m 0 q)), ((q 0), .inl (cI, 60, .inl (fun _ => 0))), ((q 1), .inl (cT, 60, .inr (.inr (.inr (.inr (fun _ => none)))))), (ra_46, .inr (11, [.ref b_48, .ref c_49]))] := hD
          refine lv_iconst (v := 2) hx hb dX13_variable_58 (by decide) ?_
          have hF := va_free (wc := [(h0, .inr (1, pv_m 0 q)), (ra_46, .inr (11, [.ref b_48, .ref c_49])), ((q 0), .inl (cI, 60, .inl (fun _ => 0))), ((q 1), .inl (cT, 60, .inr (.inr (.inr (.inr (fun _ => none))))))]) hD hS hA [0, 3, 1, 2] rfl
          refine va_calli (va_runV (As := [.int p0, .ref ra_46, .int 2]) (rest := []) ⟨hx, hb, hml, hown, hts⟩ (c_X13_keeps l hfl D _ h0 q cI cT ra_46 b_48 c_49 p0 2) (cwV 3 hts (pv_gV w9_137 w9_139 wp5_10 w1_10 w9_140) rfl rfl rfl (by decide +kernel) ⟨Nat.le_of_ble_eq_true rfl, Nat.le_of_ble_eq_true rfl⟩) (pv_pV hE hS hF (hP.sub [0, 3, 1, 2] rfl) (hK.sub [0, 1] rfl) (hD.sub [0, 3, 1, 2] (by decide) rfl) (va_recv (ci := 1) (q0 := 0) hK hP rfl rfl)) rfl rfl hl.1 rfl (lv_room (Nat.le_of_ble_eq_true rfl)) dX13_variable_59 ⟨Nat.le_of_ble_eq_true rfl, Nat.le_of_ble_eq_true rfl⟩) hS (fun q _ h => hF q h) hF (fun r_49 u t H1 locs1 ht hvm hw hB hz1 hk1 hS => ?_)
          refine W.widen (k := 3) (n := 4) (Nat.le_of_ble_eq_true rfl) (Nat.le_of_ble_eq_true rfl) ?_
          obtain ⟨rfl, hw⟩ := hw
          subst hw
          obtain ⟨fs_51, hf_52, hP1, hK1, hD1⟩ := hB
          rw [ht] at hP1
          have hK1 := va_K.moved hvm.symm hK1
          obtain ⟨hP, hD⟩ := va_join (wr := []) (w1 := [(h0, .inr (1, fs_51))]) hP hD [0, 3, 1, 2] [] rfl rfl (by decide) (by decide) hk1 hF hP1 hD1
          have hP : va_P D pv_cl [(h0, .inr (1, fs_51))] _ := hP
          have hD : va_D A [(h0, .inr (1, fs_51))] := hD
          refine W.widen (k := 3) (n := 4) (Nat.le_of_ble_eq_true rfl) (Nat.le_of_ble_eq_true rfl) ?_
          exact W.iret (v := 0) hx hb hr (fun t ht hW => ⟨⟨0, 0, rfl, Or.inl ⟨rfl, rfl, ⟨Or.inr a_28, pv_in3.mp a_31⟩⟩, fs_51, hf_52, (by rw [ht]; exact hP.sub [0] rfl), va_K.moved hW.alike (hK.sub [] rfl), hD.sub [0] (by decide) rfl⟩, hS.F ht⟩) hS.2.2 dX13_variable_62
      · refine lv_if_ne (tgt := 31) hx hb dX13_variable_22 (by decide) (fun c_53 => absurd (by decide) c_53) (fun _ => ?_)
        refine lv_aload_n hx hb dX13_variable_25 rfl (lv_at hl 0 rfl) ?_
        refine lv_iconst (v := 1) hx hb dX13_variable_26 (by decide) ?_
        have hF := va_free (wc := [(h0, .inr (1, pv_m 0 q))]) hD hS hA [0] rfl
        refine va_calli (va_runV (As := [.int 1]) (rest := []) ⟨hx, hb, hml, hown, hts⟩ (c_X13_fails l hfl D _ h0 q 1) (cwV 1 hts (pv_gV w9_113 w9_115 wp5_9 w1_10 w9_116) rfl rfl rfl (by decide +kernel) ⟨Nat.le_of_ble_eq_true rfl, Nat.le_of_ble_eq_true rfl⟩) (pv_pV hE hS hF (hP.sub [0] rfl) (hK.sub [] rfl) (hD.sub [0] (by decide) rfl) (va_recv (ci := 1) (q0 := 0) hK hP rfl rfl)) rfl rfl hl.1 rfl (lv_room (Nat.le_of_ble_eq_true rfl)) dX13_variable_27 ⟨Nat.le_of_ble_eq_true rfl, Nat.le_of_ble_eq_true rfl⟩) hS (fun q _ h => hF q h) hF (fun r_53 u t H1 locs1 ht hvm hw hB hz1 hk1 hS => ?_)
        refine W.widen (k := 0) (n := 0) (Nat.le_of_ble_eq_true rfl) (Nat.le_of_ble_eq_true rfl) ?_
        obtain rfl := hw
        obtain ⟨hP1, hK1, hD1⟩ := hB
        rw [ht] at hP1
        have hK1 := va_K.moved hvm.symm hK1
        obtain ⟨hP, hD⟩ := va_join (wr := [((q 0), .inl (cI, 60, .inl (fun _ => 0))), ((q 1), .inl (cT, 60, .inr (.inr (.inr (.inr (fun _ => none))))))]) (w1 := [(h0, .inr (1, pv_m 1 q))]) hP hD [0] [1, 2] rfl rfl (by decide) (by decide) hk1 hF hP1 hD1
        have hP : va_P D pv_cl [((q 0), .inl (cI, 60, .inl (fun _ => 0))), ((q 1), .inl (cT, 60, .inr (.inr (.inr (.inr (fun _ => none)))))), (h0, .inr (1, pv_m 1 q))] _ := hP
        have hD : va_D A [((q 0), .inl (cI, 60, .inl (fun _ => 0))), ((q 1), .inl (cT, 60, .inr (.inr (.inr (.inr (fun _ => none)))))), (h0, .inr (1, pv_m 1 q))] := hD
        refine W.widen (k := 3) (n := 4) (Nat.le_of_ble_eq_true rfl) (Nat.le_of_ble_eq_true rfl) ?_
        exact W.iret (v := 0) hx hb hr (fun t ht hW => ⟨⟨0, 1, rfl, Or.inr ⟨rfl, fun h => a_31 (pv_in3.mpr h.2)⟩, pv_m 1 q, rfl, (by rw [ht]; exact hP.sub [2] rfl), va_K.moved hW.alike (hK.sub [] rfl), hD.sub [2] (by decide) rfl⟩, hS.F ht⟩) hS.2.2 dX13_variable_30
    · refine lv_if_eq (tgt := 25) hx hb dX13_variable_13 (by decide) (fun _ => ?_) (fun c_55 => absurd (by decide) c_55)
      refine lv_aload_n hx hb dX13_variable_25 rfl (lv_at hl 0 rfl) ?_
      refine lv_iconst (v := 1) hx hb dX13_variable_26 (by decide) ?_
      have hF := va_free (wc := [(h0, .inr (1, pv_m 0 q))]) hD hS hA [0] rfl
      refine va_calli (va_runV (As := [.int 1]) (rest := []) ⟨hx, hb, hml, hown, hts⟩ (c_X13_fails l hfl D _ h0 q 1) (cwV 1 hts (pv_gV w9_113 w9_115 wp5_9 w1_10 w9_116) rfl rfl rfl (by decide +kernel) ⟨Nat.le_of_ble_eq_true rfl, Nat.le_of_ble_eq_true rfl⟩) (pv_pV hE hS hF (hP.sub [0] rfl) (hK.sub [] rfl) (hD.sub [0] (by decide) rfl) (va_recv (ci := 1) (q0 := 0) hK hP rfl rfl)) rfl rfl hl.1 rfl (lv_room (Nat.le_of_ble_eq_true rfl)) dX13_variable_27 ⟨Nat.le_of_ble_eq_true rfl, Nat.le_of_ble_eq_true rfl⟩) hS (fun q _ h => hF q h) hF (fun r_55 u t H1 locs1 ht hvm hw hB hz1 hk1 hS => ?_)
      refine W.widen (k := 0) (n := 0) (Nat.le_of_ble_eq_true rfl) (Nat.le_of_ble_eq_true rfl) ?_
      obtain rfl := hw
      obtain ⟨hP1, hK1, hD1⟩ := hB
      rw [ht] at hP1
      have hK1 := va_K.moved hvm.symm hK1
      obtain ⟨hP, hD⟩ := va_join (wr := [((q 0), .inl (cI, 60, .inl (fun _ => 0))), ((q 1), .inl (cT, 60, .inr (.inr (.inr (.inr (fun _ => none))))))]) (w1 := [(h0, .inr (1, pv_m 1 q))]) hP hD [0] [1, 2] rfl rfl (by decide) (by decide) hk1 hF hP1 hD1
      have hP : va_P D pv_cl [((q 0), .inl (cI, 60, .inl (fun _ => 0))), ((q 1), .inl (cT, 60, .inr (.inr (.inr (.inr (fun _ => none)))))), (h0, .inr (1, pv_m 1 q))] _ := hP
      have hD : va_D A [((q 0), .inl (cI, 60, .inl (fun _ => 0))), ((q 1), .inl (cT, 60, .inr (.inr (.inr (.inr (fun _ => none)))))), (h0, .inr (1, pv_m 1 q))] := hD
      refine W.widen (k := 3) (n := 4) (Nat.le_of_ble_eq_true rfl) (Nat.le_of_ble_eq_true rfl) ?_
      exact W.iret (v := 0) hx hb hr (fun t ht hW => ⟨⟨0, 1, rfl, Or.inr ⟨rfl, fun h => pv_no2 c_1 a_28 h.1⟩, pv_m 1 q, rfl, (by rw [ht]; exact hP.sub [2] rfl), va_K.moved hW.alike (hK.sub [] rfl), hD.sub [2] (by decide) rfl⟩, hS.F ht⟩) hS.2.2 dX13_variable_30

theorem dX13_setOrder_0 : decode cX13_setOrder 0 = .ok (.aload_n 0, 1) := by decide +kernel
theorem dX13_setOrder_1 : decode cX13_setOrder 1 = .ok (.iload_n 1, 1) := by decide +kernel
theorem dX13_setOrder_2 : decode cX13_setOrder 2 = .ok (.bipush 108, 2) := by decide +kernel
theorem dX13_setOrder_4 : decode cX13_setOrder 4 = .ok (.if_icmp .eq 15, 3) := by decide +kernel
theorem dX13_setOrder_19 : decode cX13_setOrder 19 = .ok (.iconst 0, 1) := by decide +kernel
theorem dX13_setOrder_20 : decode cX13_setOrder 20 = .ok (.goto 4, 3) := by decide +kernel
theorem dX13_setOrder_24 : decode cX13_setOrder 24 = .ok (.putfield 122, 3) := by decide +kernel
theorem dX13_setOrder_27 : decode cX13_setOrder 27 = .ok (.aload_n 0, 1) := by decide +kernel
theorem dX13_setOrder_28 : decode cX13_setOrder 28 = .ok (.getfield 122, 3) := by decide +kernel
theorem dX13_setOrder_31 : decode cX13_setOrder 31 = .ok (.ifCond .le 5, 3) := by decide +kernel
theorem dX13_setOrder_36 : decode cX13_setOrder 36 = .ok (.aload_n 0, 1) := by decide +kernel
theorem dX13_setOrder_37 : decode cX13_setOrder 37 = .ok (.getfield 7, 3) := by decide +kernel
theorem w8_206 : (Jvm.Cond.fieldLink "PolyforgeModel" (7 : Nat) "PolyforgeModel" "order" "C") ∈ lw_tbl := pv_t8 (pv_mg 206 rfl)
theorem dX13_setOrder_40 : decode cX13_setOrder 40 = .ok (.istore_n 2, 1) := by decide +kernel
theorem dX13_setOrder_41 : decode cX13_setOrder 41 = .ok (.aload_n 0, 1) := by decide +kernel
theorem dX13_setOrder_42 : decode cX13_setOrder 42 = .ok (.iload_n 1, 1) := by decide +kernel
theorem dX13_setOrder_43 : decode cX13_setOrder 43 = .ok (.putfield 7, 3) := by decide +kernel
theorem dX13_setOrder_46 : decode cX13_setOrder 46 = .ok (.iload_n 2, 1) := by decide +kernel
theorem dX13_setOrder_47 : decode cX13_setOrder 47 = .ok (.ireturn, 1) := by decide +kernel
theorem dX13_setOrder_7 : decode cX13_setOrder 7 = .ok (.iload_n 1, 1) := by decide +kernel
theorem dX13_setOrder_8 : decode cX13_setOrder 8 = .ok (.bipush 100, 2) := by decide +kernel
theorem dX13_setOrder_10 : decode cX13_setOrder 10 = .ok (.if_icmp .eq 9, 3) := by decide +kernel
theorem dX13_setOrder_13 : decode cX13_setOrder 13 = .ok (.iload_n 1, 1) := by decide +kernel
theorem dX13_setOrder_14 : decode cX13_setOrder 14 = .ok (.bipush 114, 2) := by decide +kernel
theorem dX13_setOrder_16 : decode cX13_setOrder 16 = .ok (.if_icmp .ne 7, 3) := by decide +kernel
theorem dX13_setOrder_23 : decode cX13_setOrder 23 = .ok (.iconst 1, 1) := by decide +kernel
theorem dX13_setOrder_34 : decode cX13_setOrder 34 = .ok (.iconst 0, 1) := by decide +kernel
theorem dX13_setOrder_35 : decode cX13_setOrder 35 = .ok (.ireturn, 1) := by decide +kernel
set_option maxHeartbeats 4000000 in
set_option maxRecDepth 100000 in
/-- setOrder on a fresh object -/
theorem c_X13_setOrder (l : Launch) (hfl : l.stackTraces = false) (D : va_G) (sz : Nat) (h0 : Nat) (q : Nat → Nat) (p0 : Int32) : Met l yX13_setOrder (Cond.code yX13_setOrder cX13_setOrder 3 (some .char) :: pv_W) ({ frames := 0, cells := 0, slots := 0, locals := 0 } : Room) (va_Pc [.ref h0, .int p0] (pv_P D [] [(h0, .inr (1, pv_m 0 q))] (va_A [(h0, .inr (1, pv_m 0 q))] sz) sz)) (va_Qi (fun r (u : Int32) => (u = 0 ∧ r = 108 ∧ pv_od p0) ∨ (u = 1 ∧ ¬ pv_od p0)) (fun (u : Int32) t => ∃ fs : List Value, fs[0]? = some (.int u) ∧ va_P D pv_cl [(h0, .inr (1, fs))] t.heap ∧ va_K D pv_cl [] t ∧ va_D (va_A [(h0, .inr (1, pv_m 0 q))] sz) [(h0, .inr (1, fs))]) (va_A [(h0, .inr (1, pv_m 0 q))] sz)) 0 0 (va_A [(h0, .inr (1, pv_m 0 q))] sz) := by
  refine Met.ofW (cc := cX13_setOrder) (maxL := 3) (ret := (some .char)) (by decide) rfl ?_
  intro p e s m args below meth c s₁ B hml hv
  obtain ⟨rfl, hsz, hE, hP, hK, hD0⟩ := hv
  have hx := B.exec
  have hb := B.bytes
  have hr := B.returns
  have hts := fun (w : Cond) (h : w ∈ pv_W) => atoms_spec (ws := Cond.code yX13_setOrder cX13_setOrder 3 (some .char) :: pv_W) B.pre w (List.mem_cons_of_mem _ h)
  have hg := fun {w : Cond} (h : w ∈ lw_tbl) (g : goodWord w = true) => hts w (pv_in h g)
  have hown : s.vm.findClass RX13 = some m.cls := findClass_of_methodNamed B.named
  have hlocks := B.notSynchronized
  subst hsz
  have hD := hD0.self (sz := s.heap.size)
  generalize hAe : va_A [(h0, .inr (1, pv_m 0 q))] s.heap.size = A at hD hE ⊢
  have hA : ∀ q : Nat, s.heap.size ≤ q → A q := fun q h => by rw [← hAe]; exact Or.inr h
  have hS : va_S A s.heap s.heap [] := va_S.rf
  have hP : va_P D pv_cl [(h0, .inr (1, pv_m 0 q))] s.heap := hP
  have hl := lv_entry ([.ref h0, .int p0]) (n := 3) (Nat.le_of_ble_eq_true rfl)
  rw [lg_entry_eq]
  generalize (lg_sl ([.ref h0, .int p0]) ++ List.replicate (3 - (lg_sl ([.ref h0, .int p0])).length) Slot.unset).toArray = ls at hl ⊢
  have hl : lv_has ls 3 [(0, .ref h0), (1, .int p0)] := hl
  refine lv_aload_n hx hb dX13_setOrder_0 rfl (lv_at hl 0 rfl) ?_
  refine lv_iload_n hx hb dX13_setOrder_1 rfl (lv_at hl 1 rfl) ?_
  refine lv_bipush (v := 108) hx hb dX13_setOrder_2 (by decide) ?_
  refine lv_icmp_eq (tgt := 19) hx hb dX13_setOrder_4 (by decide) (fun c_1 => ?_) (fun c_1 => ?_)
  · refine lv_iconst (v := 0) hx hb dX13_setOrder_19 (by decide) ?_
    refine lv_goto (tgt := 24) hx hb dX13_setOrder_20 (by decide) ?_
    refine va_put (own := RX13) (D := D) (ci := 1) (v := .int 0) (ty := .int) (C := RX13) (T := TX13) (N := 45) hx hb hts inF13 tyX13 tyX13_ok nmX13 hown hK hP hD hS 0 rfl rfl 0 (by decide) (hg w8_205 rfl) (fun _ h9 => h9) rfl (by decide +kernel) rfl rfl (Nat.le_of_ble_eq_true rfl) dX13_setOrder_24 (fun H locs hP hD hS => ?_)
    have hP : va_P D pv_cl [(h0, .inr (1, pv_m 0 q))] _ := hP
    have hD : va_D A [(h0, .inr (1, pv_m 0 q))] := hD
    refine lv_aload_n hx hb dX13_setOrder_27 rfl (lv_at hl 0 rfl) ?_
    refine va_get (own := RX13) (D := D) (ci := 1) (v := .int 0) (C := RX13) (T := TX13) (N := 45) hx hb hts inF13 hown hK hP 0 rfl rfl 0 (by decide) (hg w8_205 rfl) (fun _ h9 => h9) rfl dX13_setOrder_28 ?_
    refine lv_if_le (tgt := 36) hx hb dX13_setOrder_31 (by decide) (fun _ => ?_) (fun c_2 => absurd (by decide) c_2)
    refine lv_aload_n hx hb dX13_setOrder_36 rfl (lv_at hl 0 rfl) ?_
    refine va_get (own := RX13) (D := D) (ci := 1) (v := .int 108) (C := RX13) (T := TX13) (N := 45) hx hb hts inF13 hown hK hP 0 rfl rfl 1 (by decide) (hg w8_206 rfl) (fun _ h9 => h9) rfl dX13_setOrder_37 ?_
    refine lv_istore_n (lv' := [(2, .int 108), (0, .ref h0), (1, .int p0)]) hx hb dX13_setOrder_40 rfl hl (by decide) rfl (fun ls hl => ?_)
    refine lv_aload_n hx hb dX13_setOrder_41 rfl (lv_at hl 1 rfl) ?_
    refine lv_iload_n hx hb dX13_setOrder_42 rfl (lv_at hl 2 rfl) ?_
    have hod : pv_od p0 := Or.inl c_1
    refine va_put (own := RX13) (D := D) (ci := 1) (v := .int p0) (ty := .char) (C := RX13) (T := TX13) (N := 45) hx hb hts inF13 tyX13 tyX13_ok nmX13 hown hK hP hD hS 0 rfl rfl 1 (by decide) (hg w8_206 rfl) (fun _ h9 => h9) rfl (by decide +kernel) (by rcases hod with rfl | rfl | rfl <;> rfl) (by rcases hod with rfl | rfl | rfl <;> rfl) (Nat.le_of_ble_eq_true rfl) dX13_setOrder_43 (fun H locs hP hD hS => ?_)
    have hP : va_P D pv_cl [(h0, .inr (1, (pv_m 0 q).set 1 (.int p0)))] _ := hP
    have hD : va_D A [(h0, .inr (1, (pv_m 0 q).set 1 (.int p0)))] := hD
    refine lv_iload_n hx hb dX13_setOrder_46 rfl (lv_at hl 0 rfl) ?_
    refine W.widen (k := 0) (n := 0) (Nat.le_of_ble_eq_true rfl) (Nat.le_of_ble_eq_true rfl) ?_
    exact W.zret (v := 108) (ty := .char) hx hb hr rfl (fun t ht hW => ⟨⟨108, 0, rfl, Or.inl ⟨rfl, rfl, hod⟩, (pv_m 0 q).set 1 (.int p0), rfl, (by rw [ht]; exact hP.sub [0] rfl), va_K.moved hW.alike (hK.sub [] rfl), hD.sub [0] (by decide) rfl⟩, hS.F ht⟩) hS.2.2 dX13_setOrder_47
  · refine lv_iload_n hx hb dX13_setOrder_7 rfl (lv_at hl 1 rfl) ?_
    refine lv_bipush (v := 100) hx hb dX13_setOrder_8 (by decide) ?_
    refine lv_icmp_eq (tgt := 19) hx hb dX13_setOrder_10 (by decide) (fun c_3 => ?_) (fun c_3 => ?_)
    · refine lv_iconst (v := 0) hx hb dX13_setOrder_19 (by decide) ?_
      refine lv_goto (tgt := 24) hx hb dX13_setOrder_20 (by decide) ?_
      refine va_put (own := RX13) (D := D) (ci := 1) (v := .int 0) (ty := .int) (C := RX13) (T := TX13) (N := 45) hx hb hts inF13 tyX13 tyX13_ok nmX13 hown hK hP hD hS 0 rfl rfl 0 (by decide) (hg w8_205 rfl) (fun _ h9 => h9) rfl (by decide +kernel) rfl rfl (Nat.le_of_ble_eq_true rfl) dX13_setOrder_24 (fun H locs hP hD hS => ?_)
      have hP : va_P D pv_cl [(h0, .inr (1, pv_m 0 q))] _ := hP
      have hD : va_D A [(h0, .inr (1, pv_m 0 q))] := hD
      refine lv_aload_n hx hb dX13_setOrder_27 rfl (lv_at hl 0 rfl) ?_
      refine va_get (own := RX13) (D := D) (ci := 1) (v := .int 0) (C := RX13) (T := TX13) (N := 45) hx hb hts inF13 hown hK hP 0 rfl rfl 0 (by decide) (hg w8_205 rfl) (fun _ h9 => h9) rfl dX13_setOrder_28 ?_
      refine lv_if_le (tgt := 36) hx hb dX13_setOrder_31 (by decide) (fun _ => ?_) (fun c_4 => absurd (by decide) c_4)
      refine lv_aload_n hx hb dX13_setOrder_36 rfl (lv_at hl 0 rfl) ?_
      refine va_get (own := RX13) (D := D) (ci := 1) (v := .int 108) (C := RX13) (T := TX13) (N := 45) hx hb hts inF13 hown hK hP 0 rfl rfl 1 (by decide) (hg w8_206 rfl) (fun _ h9 => h9) rfl dX13_setOrder_37 ?_
      refine lv_istore_n (lv' := [(2, .int 108), (0, .ref h0), (1, .int p0)]) hx hb dX13_setOrder_40 rfl hl (by decide) rfl (fun ls hl => ?_)
      refine lv_aload_n hx hb dX13_setOrder_41 rfl (lv_at hl 1 rfl) ?_
      refine lv_iload_n hx hb dX13_setOrder_42 rfl (lv_at hl 2 rfl) ?_
      have hod : pv_od p0 := Or.inr (Or.inl c_3)
      refine va_put (own := RX13) (D := D) (ci := 1) (v := .int p0) (ty := .char) (C := RX13) (T := TX13) (N := 45) hx hb hts inF13 tyX13 tyX13_ok nmX13 hown hK hP hD hS 0 rfl rfl 1 (by decide) (hg w8_206 rfl) (fun _ h9 => h9) rfl (by decide +kernel) (by rcases hod with rfl | rfl | rfl <;> rfl) (by rcases hod with rfl | rfl | rfl <;> rfl) (Nat.le_of_ble_eq_true rfl) dX13_setOrder_43 (fun H locs hP hD hS => ?_)
      have hP : va_P D pv_cl [(h0, .inr (1, (pv_m 0 q).set 1 (.int p0)))] _ := hP
      have hD : va_D A [(h0, .inr (1, (pv_m 0 q).set 1 (.int p0)))] := hD
      refine lv_iload_n hx hb dX13_setOrder_46 rfl (lv_at hl 0 rfl) ?_
      refine W.widen (k := 0) (n := 0) (Nat.le_of_ble_eq_true rfl) (Nat.le_of_ble_eq_true rfl) ?_
      exact W.zret (v := 108) (ty := .char) hx hb hr rfl (fun t ht hW => ⟨⟨108, 0, rfl, Or.inl ⟨rfl, rfl, hod⟩, (pv_m 0 q).set 1 (.int p0), rfl, (by rw [ht]; exact hP.sub [0] rfl), va_K.moved hW.alike (hK.sub [] rfl), hD.sub [0] (by decide) rfl⟩, hS.F ht⟩) hS.2.2 dX13_setOrder_47
    · refine lv_iload_n hx hb dX13_setOrder_13 rfl (lv_at hl 1 rfl) ?_
      refine lv_bipush (v := 114) hx hb dX13_setOrder_14 (by decide) ?_
      refine lv_icmp_ne (tgt := 23) hx hb dX13_setOrder_16 (by decide) (fun c_5 => ?_) (fun c_5 => ?_)
      · refine lv_iconst (v := 1) hx hb dX13_setOrder_23 (by decide) ?_
        refine va_put (own := RX13) (D := D) (ci := 1) (v := .int 1) (ty := .int) (C := RX13) (T := TX13) (N := 45) hx hb hts inF13 tyX13 tyX13_ok nmX13 hown hK hP hD hS 0 rfl rfl 0 (by decide) (hg w8_205 rfl) (fun _ h9 => h9) rfl (by decide +kernel) rfl rfl (Nat.le_of_ble_eq_true rfl) dX13_setOrder_24 (fun H locs hP hD hS => ?_)
        have hP : va_P D pv_cl [(h0, .inr (1, pv_m 1 q))] _ := hP
        have hD : va_D A [(h0, .inr (1, pv_m 1 q))] := hD
        refine lv_aload_n hx hb dX13_setOrder_27 rfl (lv_at hl 0 rfl) ?_
        refine va_get (own := RX13) (D := D) (ci := 1) (v := .int 1) (C := RX13) (T := TX13) (N := 45) hx hb hts inF13 hown hK hP 0 rfl rfl 0 (by decide) (hg w8_205 rfl) (fun _ h9 => h9) rfl dX13_setOrder_28 ?_
        refine lv_if_le (tgt := 36) hx hb dX13_setOrder_31 (by decide) (fun c_6 => absurd c_6 (by decide)) (fun _ => ?_)
        refine lv_iconst (v := 0) hx hb dX13_setOrder_34 (by decide) ?_
        refine W.widen (k := 0) (n := 0) (Nat.le_of_ble_eq_true rfl) (Nat.le_of_ble_eq_true rfl) ?_
        exact W.zret (v := 0) (ty := .char) hx hb hr rfl (fun t ht hW => ⟨⟨0, 1, rfl, Or.inr ⟨rfl, pv_no3 c_1 c_3 c_5⟩, pv_m 1 q, rfl, (by rw [ht]; exact hP.sub [0] rfl), va_K.moved hW.alike (hK.sub [] rfl), hD.sub [0] (by decide) rfl⟩, hS.F ht⟩) hS.2.2 dX13_setOrder_35
      · refine lv_iconst (v := 0) hx hb dX13_setOrder_19 (by decide) ?_
        refine lv_goto (tgt := 24) hx hb dX13_setOrder_20 (by decide) ?_
        refine va_put (own := RX13) (D := D) (ci := 1) (v := .int 0) (ty := .int) (C := RX13) (T := TX13) (N := 45) hx hb hts inF13 tyX13 tyX13_ok nmX13 hown hK hP hD hS 0 rfl rfl 0 (by decide) (hg w8_205 rfl) (fun _ h9 => h9) rfl (by decide +kernel) rfl rfl (Nat.le_of_ble_eq_true rfl) dX13_setOrder_24 (fun H locs hP hD hS => ?_)
        have hP : va_P D pv_cl [(h0, .inr (1, pv_m 0 q))] _ := hP
        have hD : va_D A [(h0, .inr (1, pv_m 0 q))] := hD
        refine lv_aload_n hx hb dX13_setOrder_27 rfl (lv_at hl 0 rfl) ?_
        refine va_get (own := RX13) (D := D) (ci := 1) (v := .int 0) (C := RX13) (T := TX13) (N := 45) hx hb hts inF13 hown hK hP 0 rfl rfl 0 (by decide) (hg w8_205 rfl) (fun _ h9 => h9) rfl dX13_setOrder_28 ?_
        refine lv_if_le (tgt := 36) hx hb dX13_setOrder_31 (by decide) (fun _ => ?_) (fun c_7 => absurd (by decide) c_7)
        refine lv_aload_n hx hb dX13_setOrder_36 rfl (lv_at hl 0 rfl) ?_
        refine va_get (own := RX13) (D := D) (ci := 1) (v := .int 108) (C := RX13) (T := TX13) (N := 45) hx hb hts inF13 hown hK hP 0 rfl rfl 1 (by decide) (hg w8_206 rfl) (fun _ h9 => h9) rfl dX13_setOrder_37 ?_
        refine lv_istore_n (lv' := [(2, .int 108), (0, .ref h0), (1, .int p0)]) hx hb dX13_setOrder_40 rfl hl (by decide) rfl (fun ls hl => ?_)
        refine lv_aload_n hx hb dX13_setOrder_41 rfl (lv_at hl 1 rfl) ?_
        refine lv_iload_n hx hb dX13_setOrder_42 rfl (lv_at hl 2 rfl) ?_
        have hod : pv_od p0 := Or.inr (Or.inr (c_5))
        refine va_put (own := RX13) (D := D) (ci := 1) (v := .int p0) (ty := .char) (C := RX13) (T := TX13) (N := 45) hx hb hts inF13 tyX13 tyX13_ok nmX13 hown hK hP hD hS 0 rfl rfl 1 (by decide) (hg w8_206 rfl) (fun _ h9 => h9) rfl (by decide +kernel) (by rcases hod with rfl | rfl | rfl <;> rfl) (by rcases hod with rfl | rfl | rfl <;> rfl) (Nat.le_of_ble_eq_true rfl) dX13_setOrder_43 (fun H locs hP hD hS => ?_)
        have hP : va_P D pv_cl [(h0, .inr (1, (pv_m 0 q).set 1 (.int p0)))] _ := hP
        have hD : va_D A [(h0, .inr (1, (pv_m 0 q).set 1 (.int p0)))] := hD
        refine lv_iload_n hx hb dX13_setOrder_46 rfl (lv_at hl 0 rfl) ?_
        refine W.widen (k := 0) (n := 0) (Nat.le_of_ble_eq_true rfl) (Nat.le_of_ble_eq_true rfl) ?_
        exact W.zret (v := 108) (ty := .char) hx hb hr rfl (fun t ht hW => ⟨⟨108, 0, rfl, Or.inl ⟨rfl, rfl, hod⟩, (pv_m 0 q).set 1 (.int p0), rfl, (by rw [ht]; exact hP.sub [0] rfl), va_K.moved hW.alike (hK.sub [] rfl), hD.sub [0] (by decide) rfl⟩, hS.F ht⟩) hS.2.2 dX13_setOrder_47

theorem dX13_addIdeal_0 : decode cX13_addIdeal 0 = .ok (.aload_n 0, 1) := by decide +kernel
theorem dX13_addIdeal_1 : decode cX13_addIdeal 1 = .ok (.iconst 0, 1) := by decide +kernel
theorem dX13_addIdeal_2 : decode cX13_addIdeal 2 = .ok (.putfield 122, 3) := by decide +kernel
theorem dX13_addIdeal_5 : decode cX13_addIdeal 5 = .ok (.iload_n 1, 1) := by decide +kernel
theorem dX13_addIdeal_6 : decode cX13_addIdeal 6 = .ok (.invokestatic 206, 3) := by decide +kernel
theorem dX13_addIdeal_9 : decode cX13_addIdeal 9 = .ok (.ifCond .ne 9, 3) := by decide +kernel
theorem dX13_addIdeal_18 : decode cX13_addIdeal 18 = .ok (.aload_n 0, 1) := by decide +kernel
theorem dX13_addIdeal_19 : decode cX13_addIdeal 19 = .ok (.getfield 399, 3) := by decide +kernel
theorem dX13_addIdeal_22 : decode cX13_addIdeal 22 = .ok (.iconst 5, 1) := by decide +kernel
theorem dX13_addIdeal_23 : decode cX13_addIdeal 23 = .ok (.if_icmp .ne 9, 3) := by decide +kernel
theorem dX13_addIdeal_32 : decode cX13_addIdeal 32 = .ok (.aload_n 0, 1) := by decide +kernel
theorem dX13_addIdeal_33 : decode cX13_addIdeal 33 = .ok (.getfield 23, 3) := by decide +kernel
theorem w8_212 : (Jvm.Cond.fieldLink "PolyforgeModel" (23 : Nat) "PolyforgeModel" "idealPrime" "[I") ∈ lw_tbl := pv_t8 (pv_mg 212 rfl)
theorem dX13_addIdeal_36 : decode cX13_addIdeal 36 = .ok (.aload_n 0, 1) := by decide +kernel
theorem dX13_addIdeal_37 : decode cX13_addIdeal 37 = .ok (.getfield 399, 3) := by decide +kernel
theorem dX13_addIdeal_40 : decode cX13_addIdeal 40 = .ok (.iload_n 1, 1) := by decide +kernel
theorem dX13_addIdeal_41 : decode cX13_addIdeal 41 = .ok (.iastore, 1) := by decide +kernel
theorem dX13_addIdeal_42 : decode cX13_addIdeal 42 = .ok (.aload_n 0, 1) := by decide +kernel
theorem dX13_addIdeal_43 : decode cX13_addIdeal 43 = .ok (.dup, 1) := by decide +kernel
theorem dX13_addIdeal_44 : decode cX13_addIdeal 44 = .ok (.getfield 399, 3) := by decide +kernel
theorem dX13_addIdeal_47 : decode cX13_addIdeal 47 = .ok (.iconst 1, 1) := by decide +kernel
theorem dX13_addIdeal_48 : decode cX13_addIdeal 48 = .ok (.iadd, 1) := by decide +kernel
theorem dX13_addIdeal_49 : decode cX13_addIdeal 49 = .ok (.putfield 399, 3) := by decide +kernel
theorem dX13_addIdeal_52 : decode cX13_addIdeal 52 = .ok (.aload_n 0, 1) := by decide +kernel
theorem dX13_addIdeal_53 : decode cX13_addIdeal 53 = .ok (.getfield 399, 3) := by decide +kernel
theorem dX13_addIdeal_56 : decode cX13_addIdeal 56 = .ok (.iconst 1, 1) := by decide +kernel
theorem dX13_addIdeal_57 : decode cX13_addIdeal 57 = .ok (.isub, 1) := by decide +kernel
theorem dX13_addIdeal_58 : decode cX13_addIdeal 58 = .ok (.ireturn, 1) := by decide +kernel
theorem dX13_addIdeal_12 : decode cX13_addIdeal 12 = .ok (.aload_n 0, 1) := by decide +kernel
theorem dX13_addIdeal_13 : decode cX13_addIdeal 13 = .ok (.iconst 1, 1) := by decide +kernel
theorem dX13_addIdeal_14 : decode cX13_addIdeal 14 = .ok (.invokevirtual 185, 3) := by decide +kernel
theorem dX13_addIdeal_17 : decode cX13_addIdeal 17 = .ok (.ireturn, 1) := by decide +kernel
set_option maxHeartbeats 4000000 in
set_option maxRecDepth 100000 in
/-- addIdeal on a fresh object -/
theorem c_X13_addIdeal (l : Launch) (hfl : l.stackTraces = false) (D : va_G) (sz : Nat) (h0 : Nat) (q : Nat → Nat) (cI : ClassId) (p0 : Int32) : Met l yX13_addIdeal (Cond.code yX13_addIdeal cX13_addIdeal 2 (some .int) :: pv_W) ({ frames := 1, cells := 0, slots := 0, locals := 21 } : Room) (va_Pc [.ref h0, .int p0] (pv_P D [(cI, .int)] [(h0, .inr (1, pv_m 0 q)), ((q 2), .inl (cI, 5, .inl (fun _ => 0)))] (va_A [(h0, .inr (1, pv_m 0 q)), ((q 2), .inl (cI, 5, .inl (fun _ => 0)))] sz) sz)) (va_Qi (fun r (u : Int32) => (u = 0 ∧ r = 0 ∧ pv_pr p0) ∨ (u = 1 ∧ ¬ pv_pr p0)) (fun (u : Int32) t => ∃ fs : List Value, fs[0]? = some (.int u) ∧ va_P D pv_cl [(h0, .inr (1, fs))] t.heap ∧ va_K D pv_cl [] t ∧ va_D (va_A [(h0, .inr (1, pv_m 0 q)), ((q 2), .inl (cI, 5, .inl (fun _ => 0)))] sz) [(h0, .inr (1, fs))]) (va_A [(h0, .inr (1, pv_m 0 q)), ((q 2), .inl (cI, 5, .inl (fun _ => 0)))] sz)) 0 0 (va_A [(h0, .inr (1, pv_m 0 q)), ((q 2), .inl (cI, 5, .inl (fun _ => 0)))] sz) := by
  refine Met.ofW (cc := cX13_addIdeal) (maxL := 2) (ret := (some .int)) (by decide) rfl ?_
  intro p e s m args below meth c s₁ B hml hv
  obtain ⟨rfl, hsz, hE, hP, hK, hD0⟩ := hv
  have hx := B.exec
  have hb := B.bytes
  have hr := B.returns
  have hts := fun (w : Cond) (h : w ∈ pv_W) => atoms_spec (ws := Cond.code yX13_addIdeal cX13_addIdeal 2 (some .int) :: pv_W) B.pre w (List.mem_cons_of_mem _ h)
  have hg := fun {w : Cond} (h : w ∈ lw_tbl) (g : goodWord w = true) => hts w (pv_in h g)
  have hown : s.vm.findClass RX13 = some m.cls := findClass_of_methodNamed B.named
  have hlocks := B.notSynchronized
  subst hsz
  have hD := hD0.self (sz := s.heap.size)
  generalize hAe : va_A [(h0, .inr (1, pv_m 0 q)), ((q 2), .inl (cI, 5, .inl (fun _ => 0)))] s.heap.size = A at hD hE ⊢
  have hA : ∀ q : Nat, s.heap.size ≤ q → A q := fun q h => by rw [← hAe]; exact Or.inr h
  have hS : va_S A s.heap s.heap [] := va_S.rf
  have hP : va_P D pv_cl [(h0, .inr (1, pv_m 0 q)), ((q 2), .inl (cI, 5, .inl (fun _ => 0)))] s.heap := hP
  have hl := lv_entry ([.ref h0, .int p0]) (n := 2) (Nat.le_of_ble_eq_true rfl)
  rw [lg_entry_eq]
  generalize (lg_sl ([.ref h0, .int p0]) ++ List.replicate (2 - (lg_sl ([.ref h0, .int p0])).length) Slot.unset).toArray = ls at hl ⊢
  have hl : lv_has ls 2 [(0, .ref h0), (1, .int p0)] := hl
  refine lv_aload_n hx hb dX13_addIdeal_0 rfl (lv_at hl 0 rfl) ?_
  refine lv_iconst (v := 0) hx hb dX13_addIdeal_1 (by decide) ?_
  refine va_put (own := RX13) (D := D) (ci := 1) (v := .int 0) (ty := .int) (C := RX13) (T := TX13) (N := 45) hx hb hts inF13 tyX13 tyX13_ok nmX13 hown hK hP hD hS 0 rfl rfl 0 (by decide) (hg w8_205 rfl) (fun _ h9 => h9) rfl (by decide +kernel) rfl rfl (Nat.le_of_ble_eq_true rfl) dX13_addIdeal_2 (fun H locs hP hD hS => ?_)
  have hP : va_P D pv_cl [(h0, .inr (1, pv_m 0 q)), ((q 2), .inl (cI, 5, .inl (fun _ => 0)))] _ := hP
  have hD : va_D A [(h0, .inr (1, pv_m 0 q)), ((q 2), .inl (cI, 5, .inl (fun _ => 0)))] := hD
  refine lv_iload_n hx hb dX13_addIdeal_5 rfl (lv_at hl 1 rfl) ?_
  have hF := pv_new hA hS.1
  refine va_calli (va_runS (As := [.int p0]) (rest := []) ⟨hx, hb, hml, hown, hts⟩ (c_X13_isPrime l hfl D _ p0) (va_cwS 1 hts (pv_gS w9_110 w9_111 w1_10 w9_112) rfl rfl rfl (by decide +kernel) ⟨Nat.le_of_ble_eq_true rfl, Nat.le_of_ble_eq_true rfl⟩) (pv_ps hE hS hF (hP.sub [] rfl) (hK.sub [] rfl) (hD.sub [] (by decide) rfl)) rfl rfl hl.1 rfl (lv_room (Nat.le_of_ble_eq_true rfl)) dX13_addIdeal_6 ⟨Nat.le_of_ble_eq_true rfl, Nat.le_of_ble_eq_true rfl⟩) hS (fun q _ h => hF q h) hF (fun r_0 u t H1 locs1 ht hvm hw hB hz1 hk1 hS => ?_)
  refine W.widen (k := 0) (n := 0) (Nat.le_of_ble_eq_true rfl) (Nat.le_of_ble_eq_true rfl) ?_
  have hP := pv_keep hP rfl hk1
  rcases hw with ⟨rfl, a_2⟩ | ⟨rfl, a_2⟩
  · refine lv_if_ne (tgt := 18) hx hb dX13_addIdeal_9 (by decide) (fun _ => ?_) (fun c_3 => absurd c_3 (by decide))
    refine lv_aload_n hx hb dX13_addIdeal_18 rfl (lv_at hl 0 rfl) ?_
    refine va_get (own := RX13) (D := D) (ci := 1) (v := .int 0) (C := RX13) (T := TX13) (N := 45) hx hb hts inF13 hown hK hP 0 rfl rfl 6 (by decide) (hg w8_211 rfl) (fun _ h9 => h9) rfl dX13_addIdeal_19 ?_
    refine lv_iconst (v := 5) hx hb dX13_addIdeal_22 (by decide) ?_
    refine lv_icmp_ne (tgt := 32) hx hb dX13_addIdeal_23 (by decide) (fun _ => ?_) (fun c_4 => absurd c_4 (by decide))
    refine lv_aload_n hx hb dX13_addIdeal_32 rfl (lv_at hl 0 rfl) ?_
    refine va_get (own := RX13) (D := D) (ci := 1) (v := .ref (q 2)) (C := RX13) (T := TX13) (N := 45) hx hb hts inF13 hown hK hP 0 rfl rfl 7 (by decide) (hg w8_212 rfl) (fun _ h9 => h9) rfl dX13_addIdeal_33 ?_
    refine lv_aload_n hx hb dX13_addIdeal_36 rfl (lv_at hl 0 rfl) ?_
    refine va_get (own := RX13) (D := D) (ci := 1) (v := .int 0) (C := RX13) (T := TX13) (N := 45) hx hb hts inF13 hown hK hP 0 rfl rfl 6 (by decide) (hg w8_211 rfl) (fun _ h9 => h9) rfl dX13_addIdeal_37 ?_
    refine lv_iload_n hx hb dX13_addIdeal_40 rfl (lv_at hl 1 rfl) ?_
    refine va_iast hx hb hK hP hD hS 1 0 rfl rfl (by unfold vp_in; decide) dX13_addIdeal_41 (fun H locs hP hD hS => ?_)
    have hP : va_P D pv_cl [(h0, .inr (1, pv_m 0 q)), ((q 2), .inl (cI, 5, .inl (upd (fun _ => 0) (0 : Int32).toNatClampNeg p0)))] _ := hP
    have hD : va_D A [(h0, .inr (1, pv_m 0 q)), ((q 2), .inl (cI, 5, .inl (upd (fun _ => 0) (0 : Int32).toNatClampNeg p0)))] := hD
    refine lv_aload_n hx hb dX13_addIdeal_42 rfl (lv_at hl 0 rfl) ?_
    refine lv_dup hx hb dX13_addIdeal_43 rfl ?_
    refine va_get (own := RX13) (D := D) (ci := 1) (v := .int 0) (C := RX13) (T := TX13) (N := 45) hx hb hts inF13 hown hK hP 0 rfl rfl 6 (by decide) (hg w8_211 rfl) (fun _ h9 => h9) rfl dX13_addIdeal_44 ?_
    refine lv_iconst (v := 1) hx hb dX13_addIdeal_47 (by decide) ?_
    refine lv_iadd hx hb dX13_addIdeal_48 ?_
    refine pv_setI 1 (by decide) ?_
    refine va_put (own := RX13) (D := D) (ci := 1) (v := .int 1) (ty := .int) (C := RX13) (T := TX13) (N := 45) hx hb hts inF13 tyX13 tyX13_ok nmX13 hown hK hP hD hS 0 rfl rfl 6 (by decide) (hg w8_211 rfl) (fun _ h9 => h9) rfl (by decide +kernel) rfl rfl (Nat.le_of_ble_eq_true rfl) dX13_addIdeal_49 (fun H locs hP hD hS => ?_)
    have hP : va_P D pv_cl [(h0, .inr (1, (pv_m 0 q).set 6 (.int 1))), ((q 2), .inl (cI, 5, .inl (upd (fun _ => 0) (0 : Int32).toNatClampNeg p0)))] _ := hP
    have hD : va_D A [(h0, .inr (1, (pv_m 0 q).set 6 (.int 1))), ((q 2), .inl (cI, 5, .inl (upd (fun _ => 0) (0 : Int32).toNatClampNeg p0)))] := hD
    refine lv_aload_n hx hb dX13_addIdeal_52 rfl (lv_at hl 0 rfl) ?_
    refine va_get (own := RX13) (D := D) (ci := 1) (v := .int 1) (C := RX13) (T := TX13) (N := 45) hx hb hts inF13 hown hK hP 0 rfl rfl 6 (by decide) (hg w8_211 rfl) (fun _ h9 => h9) rfl dX13_addIdeal_53 ?_
    refine lv_iconst (v := 1) hx hb dX13_addIdeal_56 (by decide) ?_
    refine lv_isub hx hb dX13_addIdeal_57 ?_
    refine pv_setI 0 (by decide) ?_
    refine W.widen (k := 0) (n := 0) (Nat.le_of_ble_eq_true rfl) (Nat.le_of_ble_eq_true rfl) ?_
    exact W.iret (v := 0) hx hb hr (fun t ht hW => ⟨⟨0, 0, rfl, Or.inl ⟨rfl, rfl, a_2⟩, (pv_m 0 q).set 6 (.int 1), rfl, (by rw [ht]; exact hP.sub [0] rfl), va_K.moved hW.alike (hK.sub [] rfl), hD.sub [0] (by decide) rfl⟩, hS.F ht⟩) hS.2.2 dX13_addIdeal_58
  · refine lv_if_ne (tgt := 18) hx hb dX13_addIdeal_9 (by decide) (fun c_5 => absurd (by decide) c_5) (fun _ => ?_)
    refine lv_aload_n hx hb dX13_addIdeal_12 rfl (lv_at hl 0 rfl) ?_
    refine lv_iconst (v := 1) hx hb dX13_addIdeal_13 (by decide) ?_
    have hF := va_free (wc := [(h0, .inr (1, pv_m 0 q))]) hD hS hA [0] rfl
    refine va_calli (va_runV (As := [.int 1]) (rest := []) ⟨hx, hb, hml, hown, hts⟩ (c_X13_fails l hfl D _ h0 q 1) (cwV 1 hts (pv_gV w9_113 w9_115 wp5_9 w1_10 w9_116) rfl rfl rfl (by decide +kernel) ⟨Nat.le_of_ble_eq_true rfl, Nat.le_of_ble_eq_true rfl⟩) (pv_pV hE hS hF (hP.sub [0] rfl) (hK.sub [] rfl) (hD.sub [0] (by decide) rfl) (va_recv (ci := 1) (q0 := 0) hK hP rfl rfl)) rfl rfl hl.1 rfl (lv_room (Nat.le_of_ble_eq_true rfl)) dX13_addIdeal_14 ⟨Nat.le_of_ble_eq_true rfl, Nat.le_of_ble_eq_true rfl⟩) hS (fun q _ h => hF q h) hF (fun r_5 u t H1 locs1 ht hvm hw hB hz1 hk1 hS => ?_)
    refine W.widen (k := 0) (n := 0) (Nat.le_of_ble_eq_true rfl) (Nat.le_of_ble_eq_true rfl) ?_
    obtain rfl := hw
    obtain ⟨hP1, hK1, hD1⟩ := hB
    rw [ht] at hP1
    have hK1 := va_K.moved hvm.symm hK1
    obtain ⟨hP, hD⟩ := va_join (wr := [((q 2), .inl (cI, 5, .inl (fun _ => 0)))]) (w1 := [(h0, .inr (1, pv_m 1 q))]) hP hD [0] [1] rfl rfl (by decide) (by decide) hk1 hF hP1 hD1
    have hP : va_P D pv_cl [((q 2), .inl (cI, 5, .inl (fun _ => 0))), (h0, .inr (1, pv_m 1 q))] _ := hP
    have hD : va_D A [((q 2), .inl (cI, 5, .inl (fun _ => 0))), (h0, .inr (1, pv_m 1 q))] := hD
    refine W.widen (k := 0) (n := 0) (Nat.le_of_ble_eq_true rfl) (Nat.le_of_ble_eq_true rfl) ?_
    exact W.iret (v := 0) hx hb hr (fun t ht hW => ⟨⟨0, 1, rfl, Or.inr ⟨rfl, a_2⟩, pv_m 1 q, rfl, (by rw [ht]; exact hP.sub [1] rfl), va_K.moved hW.alike (hK.sub [] rfl), hD.sub [1] (by decide) rfl⟩, hS.F ht⟩) hS.2.2 dX13_addIdeal_17

theorem dX13_openFrame_0 : decode cX13_openFrame 0 = .ok (.aload_n 0, 1) := by decide +kernel
theorem dX13_openFrame_1 : decode cX13_openFrame 1 = .ok (.iconst 0, 1) := by decide +kernel
theorem dX13_openFrame_2 : decode cX13_openFrame 2 = .ok (.putfield 122, 3) := by decide +kernel
theorem dX13_openFrame_5 : decode cX13_openFrame 5 = .ok (.aload_n 0, 1) := by decide +kernel
theorem dX13_openFrame_6 : decode cX13_openFrame 6 = .ok (.getfield 45, 3) := by decide +kernel
theorem w8_220 : (Jvm.Cond.fieldLink "PolyforgeModel" (45 : Nat) "PolyforgeModel" "frames" "I") ∈ lw_tbl := pv_t8 (pv_mg 220 rfl)
theorem dX13_openFrame_9 : decode cX13_openFrame 9 = .ok (.bipush 6, 2) := by decide +kernel
theorem dX13_openFrame_11 : decode cX13_openFrame 11 = .ok (.if_icmp .ne 9, 3) := by decide +kernel
theorem dX13_openFrame_20 : decode cX13_openFrame 20 = .ok (.aload_n 0, 1) := by decide +kernel
theorem dX13_openFrame_21 : decode cX13_openFrame 21 = .ok (.dup, 1) := by decide +kernel
theorem dX13_openFrame_22 : decode cX13_openFrame 22 = .ok (.getfield 45, 3) := by decide +kernel
theorem dX13_openFrame_25 : decode cX13_openFrame 25 = .ok (.iconst 1, 1) := by decide +kernel
theorem dX13_openFrame_26 : decode cX13_openFrame 26 = .ok (.iadd, 1) := by decide +kernel
theorem dX13_openFrame_27 : decode cX13_openFrame 27 = .ok (.putfield 45, 3) := by decide +kernel
theorem dX13_openFrame_30 : decode cX13_openFrame 30 = .ok (.aload_n 0, 1) := by decide +kernel
theorem dX13_openFrame_31 : decode cX13_openFrame 31 = .ok (.getfield 45, 3) := by decide +kernel
theorem dX13_openFrame_34 : decode cX13_openFrame 34 = .ok (.ireturn, 1) := by decide +kernel
set_option maxHeartbeats 4000000 in
set_option maxRecDepth 100000 in
/-- openFrame on a fresh object -/
theorem c_X13_openFrame (l : Launch) (hfl : l.stackTraces = false) (D : va_G) (sz : Nat) (h0 : Nat) (q : Nat → Nat) : Met l yX13_openFrame (Cond.code yX13_openFrame cX13_openFrame 1 (some .int) :: pv_W) ({ frames := 0, cells := 0, slots := 0, locals := 0 } : Room) (va_Pc [.ref h0] (pv_P D [] [(h0, .inr (1, pv_m 0 q))] (va_A [(h0, .inr (1, pv_m 0 q))] sz) sz)) (va_Qi (fun r (u : Int32) => u = 0 ∧ r = 2) (fun (u : Int32) t => ∃ fs : List Value, fs[0]? = some (.int u) ∧ va_P D pv_cl [(h0, .inr (1, fs))] t.heap ∧ va_K D pv_cl [] t ∧ va_D (va_A [(h0, .inr (1, pv_m 0 q))] sz) [(h0, .inr (1, fs))]) (va_A [(h0, .inr (1, pv_m 0 q))] sz)) 0 0 (va_A [(h0, .inr (1, pv_m 0 q))] sz) := by
  refine Met.ofW (cc := cX13_openFrame) (maxL := 1) (ret := (some .int)) (by decide) rfl ?_
  intro p e s m args below meth c s₁ B hml hv
  obtain ⟨rfl, hsz, hE, hP, hK, hD0⟩ := hv
  have hx := B.exec
  have hb := B.bytes
  have hr := B.returns
  have hts := fun (w : Cond) (h : w ∈ pv_W) => atoms_spec (ws := Cond.code yX13_openFrame cX13_openFrame 1 (some .int) :: pv_W) B.pre w (List.mem_cons_of_mem _ h)
  have hg := fun {w : Cond} (h : w ∈ lw_tbl) (g : goodWord w = true) => hts w (pv_in h g)
  have hown : s.vm.findClass RX13 = some m.cls := findClass_of_methodNamed B.named
  have hlocks := B.notSynchronized
  subst hsz
  have hD := hD0.self (sz := s.heap.size)
  generalize hAe : va_A [(h0, .inr (1, pv_m 0 q))] s.heap.size = A at hD hE ⊢
  have hA : ∀ q : Nat, s.heap.size ≤ q → A q := fun q h => by rw [← hAe]; exact Or.inr h
  have hS : va_S A s.heap s.heap [] := va_S.rf
  have hP : va_P D pv_cl [(h0, .inr (1, pv_m 0 q))] s.heap := hP
  have hl := lv_entry ([.ref h0]) (n := 1) (Nat.le_of_ble_eq_true rfl)
  rw [lg_entry_eq]
  generalize (lg_sl ([.ref h0]) ++ List.replicate (1 - (lg_sl ([.ref h0])).length) Slot.unset).toArray = ls at hl ⊢
  have hl : lv_has ls 1 [(0, .ref h0)] := hl
  refine lv_aload_n hx hb dX13_openFrame_0 rfl (lv_at hl 0 rfl) ?_
  refine lv_iconst (v := 0) hx hb dX13_openFrame_1 (by decide) ?_
  refine va_put (own := RX13) (D := D) (ci := 1) (v := .int 0) (ty := .int) (C := RX13) (T := TX13) (N := 45) hx hb hts inF13 tyX13 tyX13_ok nmX13 hown hK hP hD hS 0 rfl rfl 0 (by decide) (hg w8_205 rfl) (fun _ h9 => h9) rfl (by decide +kernel) rfl rfl (Nat.le_of_ble_eq_true rfl) dX13_openFrame_2 (fun H locs hP hD hS => ?_)
  have hP : va_P D pv_cl [(h0, .inr (1, pv_m 0 q))] _ := hP
  have hD : va_D A [(h0, .inr (1, pv_m 0 q))] := hD
  refine lv_aload_n hx hb dX13_openFrame_5 rfl (lv_at hl 0 rfl) ?_
  refine va_get (own := RX13) (D := D) (ci := 1) (v := .int 1) (C := RX13) (T := TX13) (N := 45) hx hb hts inF13 hown hK hP 0 rfl rfl 15 (by decide) (hg w8_220 rfl) (fun _ h9 => h9) rfl dX13_openFrame_6 ?_
  refine lv_bipush (v := 6) hx hb dX13_openFrame_9 (by decide) ?_
  refine lv_icmp_ne (tgt := 20) hx hb dX13_openFrame_11 (by decide) (fun _ => ?_) (fun c_1 => absurd c_1 (by decide))
  refine lv_aload_n hx hb dX13_openFrame_20 rfl (lv_at hl 0 rfl) ?_
  refine lv_dup hx hb dX13_openFrame_21 rfl ?_
  refine va_get (own := RX13) (D := D) (ci := 1) (v := .int 1) (C := RX13) (T := TX13) (N := 45) hx hb hts inF13 hown hK hP 0 rfl rfl 15 (by decide) (hg w8_220 rfl) (fun _ h9 => h9) rfl dX13_openFrame_22 ?_
  refine lv_iconst (v := 1) hx hb dX13_openFrame_25 (by decide) ?_
  refine lv_iadd hx hb dX13_openFrame_26 ?_
  refine pv_setI 2 (by decide) ?_
  refine va_put (own := RX13) (D := D) (ci := 1) (v := .int 2) (ty := .int) (C := RX13) (T := TX13) (N := 45) hx hb hts inF13 tyX13 tyX13_ok nmX13 hown hK hP hD hS 0 rfl rfl 15 (by decide) (hg w8_220 rfl) (fun _ h9 => h9) rfl (by decide +kernel) rfl rfl (Nat.le_of_ble_eq_true rfl) dX13_openFrame_27 (fun H locs hP hD hS => ?_)
  have hP : va_P D pv_cl [(h0, .inr (1, (pv_m 0 q).set 15 (.int 2)))] _ := hP
  have hD : va_D A [(h0, .inr (1, (pv_m 0 q).set 15 (.int 2)))] := hD
  refine lv_aload_n hx hb dX13_openFrame_30 rfl (lv_at hl 0 rfl) ?_
  refine va_get (own := RX13) (D := D) (ci := 1) (v := .int 2) (C := RX13) (T := TX13) (N := 45) hx hb hts inF13 hown hK hP 0 rfl rfl 15 (by decide) (hg w8_220 rfl) (fun _ h9 => h9) rfl dX13_openFrame_31 ?_
  refine W.widen (k := 0) (n := 0) (Nat.le_of_ble_eq_true rfl) (Nat.le_of_ble_eq_true rfl) ?_
  exact W.iret (v := 2) hx hb hr (fun t ht hW => ⟨⟨2, 0, rfl, ⟨rfl, rfl⟩, (pv_m 0 q).set 15 (.int 2), rfl, (by rw [ht]; exact hP.sub [0] rfl), va_K.moved hW.alike (hK.sub [] rfl), hD.sub [0] (by decide) rfl⟩, hS.F ht⟩) hS.2.2 dX13_openFrame_34

theorem dX13_polynomials_0 : decode cX13_polynomials 0 = .ok (.aload_n 0, 1) := by decide +kernel
theorem dX13_polynomials_1 : decode cX13_polynomials 1 = .ok (.iconst 0, 1) := by decide +kernel
theorem dX13_polynomials_2 : decode cX13_polynomials 2 = .ok (.putfield 122, 3) := by decide +kernel
theorem dX13_polynomials_5 : decode cX13_polynomials 5 = .ok (.aload_n 0, 1) := by decide +kernel
theorem dX13_polynomials_6 : decode cX13_polynomials 6 = .ok (.getfield 125, 3) := by decide +kernel
theorem dX13_polynomials_9 : decode cX13_polynomials 9 = .ok (.ireturn, 1) := by decide +kernel
set_option maxHeartbeats 4000000 in
set_option maxRecDepth 100000 in
/-- polynomials on a fresh object -/
theorem c_X13_polynomials (l : Launch) (hfl : l.stackTraces = false) (D : va_G) (sz : Nat) (h0 : Nat) (q : Nat → Nat) : Met l yX13_polynomials (Cond.code yX13_polynomials cX13_polynomials 1 (some .int) :: pv_W) ({ frames := 0, cells := 0, slots := 0, locals := 0 } : Room) (va_Pc [.ref h0] (pv_P D [] [(h0, .inr (1, pv_m 0 q))] (va_A [(h0, .inr (1, pv_m 0 q))] sz) sz)) (va_Qi (fun r (u : Int32) => u = 0 ∧ r = 0) (fun (u : Int32) t => ∃ fs : List Value, fs[0]? = some (.int u) ∧ va_P D pv_cl [(h0, .inr (1, fs))] t.heap ∧ va_K D pv_cl [] t ∧ va_D (va_A [(h0, .inr (1, pv_m 0 q))] sz) [(h0, .inr (1, fs))]) (va_A [(h0, .inr (1, pv_m 0 q))] sz)) 0 0 (va_A [(h0, .inr (1, pv_m 0 q))] sz) := by
  refine Met.ofW (cc := cX13_polynomials) (maxL := 1) (ret := (some .int)) (by decide) rfl ?_
  intro p e s m args below meth c s₁ B hml hv
  obtain ⟨rfl, hsz, hE, hP, hK, hD0⟩ := hv
  have hx := B.exec
  have hb := B.bytes
  have hr := B.returns
  have hts := fun (w : Cond) (h : w ∈ pv_W) => atoms_spec (ws := Cond.code yX13_polynomials cX13_polynomials 1 (some .int) :: pv_W) B.pre w (List.mem_cons_of_mem _ h)
  have hg := fun {w : Cond} (h : w ∈ lw_tbl) (g : goodWord w = true) => hts w (pv_in h g)
  have hown : s.vm.findClass RX13 = some m.cls := findClass_of_methodNamed B.named
  have hlocks := B.notSynchronized
  subst hsz
  have hD := hD0.self (sz := s.heap.size)
  generalize hAe : va_A [(h0, .inr (1, pv_m 0 q))] s.heap.size = A at hD hE ⊢
  have hA : ∀ q : Nat, s.heap.size ≤ q → A q := fun q h => by rw [← hAe]; exact Or.inr h
  have hS : va_S A s.heap s.heap [] := va_S.rf
  have hP : va_P D pv_cl [(h0, .inr (1, pv_m 0 q))] s.heap := hP
  have hl := lv_entry ([.ref h0]) (n := 1) (Nat.le_of_ble_eq_true rfl)
  rw [lg_entry_eq]
  generalize (lg_sl ([.ref h0]) ++ List.replicate (1 - (lg_sl ([.ref h0])).length) Slot.unset).toArray = ls at hl ⊢
  have hl : lv_has ls 1 [(0, .ref h0)] := hl
  refine lv_aload_n hx hb dX13_polynomials_0 rfl (lv_at hl 0 rfl) ?_
  refine lv_iconst (v := 0) hx hb dX13_polynomials_1 (by decide) ?_
  refine va_put (own := RX13) (D := D) (ci := 1) (v := .int 0) (ty := .int) (C := RX13) (T := TX13) (N := 45) hx hb hts inF13 tyX13 tyX13_ok nmX13 hown hK hP hD hS 0 rfl rfl 0 (by decide) (hg w8_205 rfl) (fun _ h9 => h9) rfl (by decide +kernel) rfl rfl (Nat.le_of_ble_eq_true rfl) dX13_polynomials_2 (fun H locs hP hD hS => ?_)
  have hP : va_P D pv_cl [(h0, .inr (1, pv_m 0 q))] _ := hP
  have hD : va_D A [(h0, .inr (1, pv_m 0 q))] := hD
  refine lv_aload_n hx hb dX13_polynomials_5 rfl (lv_at hl 0 rfl) ?_
  refine va_get (own := RX13) (D := D) (ci := 1) (v := .int 0) (C := RX13) (T := TX13) (N := 45) hx hb hts inF13 hown hK hP 0 rfl rfl 2 (by decide) (hg w8_207 rfl) (fun _ h9 => h9) rfl dX13_polynomials_6 ?_
  refine W.widen (k := 0) (n := 0) (Nat.le_of_ble_eq_true rfl) (Nat.le_of_ble_eq_true rfl) ?_
  exact W.iret (v := 0) hx hb hr (fun t ht hW => ⟨⟨0, 0, rfl, ⟨rfl, rfl⟩, pv_m 0 q, rfl, (by rw [ht]; exact hP.sub [0] rfl), va_K.moved hW.alike (hK.sub [] rfl), hD.sub [0] (by decide) rfl⟩, hS.F ht⟩) hS.2.2 dX13_polynomials_9

theorem dX13_isSound_0 : decode cX13_isSound 0 = .ok (.aload_n 0, 1) := by decide +kernel
theorem dX13_isSound_1 : decode cX13_isSound 1 = .ok (.iconst 0, 1) := by decide +kernel
theorem dX13_isSound_2 : decode cX13_isSound 2 = .ok (.putfield 122, 3) := by decide +kernel
theorem dX13_isSound_5 : decode cX13_isSound 5 = .ok (.iconst 1, 1) := by decide +kernel
theorem dX13_isSound_6 : decode cX13_isSound 6 = .ok (.ireturn, 1) := by decide +kernel
set_option maxHeartbeats 4000000 in
set_option maxRecDepth 100000 in
/-- isSound on a fresh object -/
theorem c_X13_isSound (l : Launch) (hfl : l.stackTraces = false) (D : va_G) (sz : Nat) (h0 : Nat) (q : Nat → Nat) : Met l yX13_isSound (Cond.code yX13_isSound cX13_isSound 1 (some .boolean) :: pv_W) ({ frames := 0, cells := 0, slots := 0, locals := 0 } : Room) (va_Pc [.ref h0] (pv_P D [] [(h0, .inr (1, pv_m 0 q))] (va_A [(h0, .inr (1, pv_m 0 q))] sz) sz)) (va_Qi (fun r (u : Int32) => u = 0 ∧ r = 1) (fun (u : Int32) t => ∃ fs : List Value, fs[0]? = some (.int u) ∧ va_P D pv_cl [(h0, .inr (1, fs))] t.heap ∧ va_K D pv_cl [] t ∧ va_D (va_A [(h0, .inr (1, pv_m 0 q))] sz) [(h0, .inr (1, fs))]) (va_A [(h0, .inr (1, pv_m 0 q))] sz)) 0 0 (va_A [(h0, .inr (1, pv_m 0 q))] sz) := by
  refine Met.ofW (cc := cX13_isSound) (maxL := 1) (ret := (some .boolean)) (by decide) rfl ?_
  intro p e s m args below meth c s₁ B hml hv
  obtain ⟨rfl, hsz, hE, hP, hK, hD0⟩ := hv
  have hx := B.exec
  have hb := B.bytes
  have hr := B.returns
  have hts := fun (w : Cond) (h : w ∈ pv_W) => atoms_spec (ws := Cond.code yX13_isSound cX13_isSound 1 (some .boolean) :: pv_W) B.pre w (List.mem_cons_of_mem _ h)
  have hg := fun {w : Cond} (h : w ∈ lw_tbl) (g : goodWord w = true) => hts w (pv_in h g)
  have hown : s.vm.findClass RX13 = some m.cls := findClass_of_methodNamed B.named
  have hlocks := B.notSynchronized
  subst hsz
  have hD := hD0.self (sz := s.heap.size)
  generalize hAe : va_A [(h0, .inr (1, pv_m 0 q))] s.heap.size = A at hD hE ⊢
  have hA : ∀ q : Nat, s.heap.size ≤ q → A q := fun q h => by rw [← hAe]; exact Or.inr h
  have hS : va_S A s.heap s.heap [] := va_S.rf
  have hP : va_P D pv_cl [(h0, .inr (1, pv_m 0 q))] s.heap := hP
  have hl := lv_entry ([.ref h0]) (n := 1) (Nat.le_of_ble_eq_true rfl)
  rw [lg_entry_eq]
  generalize (lg_sl ([.ref h0]) ++ List.replicate (1 - (lg_sl ([.ref h0])).length) Slot.unset).toArray = ls at hl ⊢
  have hl : lv_has ls 1 [(0, .ref h0)] := hl
  refine lv_aload_n hx hb dX13_isSound_0 rfl (lv_at hl 0 rfl) ?_
  refine lv_iconst (v := 0) hx hb dX13_isSound_1 (by decide) ?_
  refine va_put (own := RX13) (D := D) (ci := 1) (v := .int 0) (ty := .int) (C := RX13) (T := TX13) (N := 45) hx hb hts inF13 tyX13 tyX13_ok nmX13 hown hK hP hD hS 0 rfl rfl 0 (by decide) (hg w8_205 rfl) (fun _ h9 => h9) rfl (by decide +kernel) rfl rfl (Nat.le_of_ble_eq_true rfl) dX13_isSound_2 (fun H locs hP hD hS => ?_)
  have hP : va_P D pv_cl [(h0, .inr (1, pv_m 0 q))] _ := hP
  have hD : va_D A [(h0, .inr (1, pv_m 0 q))] := hD
  refine lv_iconst (v := 1) hx hb dX13_isSound_5 (by decide) ?_
  refine W.widen (k := 0) (n := 0) (Nat.le_of_ble_eq_true rfl) (Nat.le_of_ble_eq_true rfl) ?_
  exact W.zret (v := 1) (ty := .boolean) hx hb hr rfl (fun t ht hW => ⟨⟨1, 0, rfl, ⟨rfl, rfl⟩, pv_m 0 q, rfl, (by rw [ht]; exact hP.sub [0] rfl), va_K.moved hW.alike (hK.sub [] rfl), hD.sub [0] (by decide) rfl⟩, hS.F ht⟩) hS.2.2 dX13_isSound_6

theorem dX13_sign_0 : decode cX13_sign 0 = .ok (.aload_n 0, 1) := by decide +kernel
theorem dX13_sign_1 : decode cX13_sign 1 = .ok (.iload_n 1, 1) := by decide +kernel
theorem dX13_sign_2 : decode cX13_sign 2 = .ok (.iconst 0, 1) := by decide +kernel
theorem dX13_sign_3 : decode cX13_sign 3 = .ok (.iconst 2, 1) := by decide +kernel
theorem dX13_sign_4 : decode cX13_sign 4 = .ok (.invokestatic 128, 3) := by decide +kernel
theorem dX13_sign_7 : decode cX13_sign 7 = .ok (.ifCond .eq 7, 3) := by decide +kernel
theorem dX13_sign_10 : decode cX13_sign 10 = .ok (.iconst 0, 1) := by decide +kernel
theorem dX13_sign_11 : decode cX13_sign 11 = .ok (.goto 4, 3) := by decide +kernel
theorem dX13_sign_15 : decode cX13_sign 15 = .ok (.putfield 122, 3) := by decide +kernel
theorem dX13_sign_18 : decode cX13_sign 18 = .ok (.aload_n 0, 1) := by decide +kernel
theorem dX13_sign_19 : decode cX13_sign 19 = .ok (.getfield 122, 3) := by decide +kernel
theorem dX13_sign_22 : decode cX13_sign 22 = .ok (.ifCond .le 7, 3) := by decide +kernel
theorem dX13_sign_29 : decode cX13_sign 29 = .ok (.aload_n 0, 1) := by decide +kernel
theorem dX13_sign_30 : decode cX13_sign 30 = .ok (.getfield 49, 3) := by decide +kernel
theorem w8_221 : (Jvm.Cond.fieldLink "PolyforgeModel" (49 : Nat) "PolyforgeModel" "signs" "[C") ∈ lw_tbl := pv_t8 (pv_mg 221 rfl)
theorem dX13_sign_33 : decode cX13_sign 33 = .ok (.iload_n 1, 1) := by decide +kernel
theorem dX13_sign_34 : decode cX13_sign 34 = .ok (.caload, 1) := by decide +kernel
theorem dX13_sign_35 : decode cX13_sign 35 = .ok (.ireturn, 1) := by decide +kernel
theorem dX13_sign_14 : decode cX13_sign 14 = .ok (.iconst 1, 1) := by decide +kernel
theorem dX13_sign_25 : decode cX13_sign 25 = .ok (.iconst 0, 1) := by decide +kernel
theorem dX13_sign_26 : decode cX13_sign 26 = .ok (.goto 9, 3) := by decide +kernel
set_option maxHeartbeats 4000000 in
set_option maxRecDepth 100000 in
/-- sign on a fresh object -/
theorem c_X13_sign (l : Launch) (hfl : l.stackTraces = false) (D : va_G) (sz : Nat) (h0 : Nat) (q : Nat → Nat) (cC : ClassId) (sg : Nat → Int32) (hsg : ∀ j, j < 3 → sg j = 63) (p0 : Int32) : Met l yX13_sign (Cond.code yX13_sign cX13_sign 2 (some .char) :: pv_W) ({ frames := 1, cells := 0, slots := 0, locals := 22 } : Room) (va_Pc [.ref h0, .int p0] (pv_P D [(cC, .char)] [(h0, .inr (1, pv_m 0 q)), ((q 9), .inl (cC, 3, .inl sg))] (va_A [(h0, .inr (1, pv_m 0 q)), ((q 9), .inl (cC, 3, .inl sg))] sz) sz)) (va_Qi (fun r (u : Int32) => (u = 0 ∧ r = 63 ∧ pv_vr p0) ∨ (u = 1 ∧ ¬ pv_vr p0)) (fun (u : Int32) t => ∃ fs : List Value, fs[0]? = some (.int u) ∧ va_P D pv_cl [(h0, .inr (1, fs))] t.heap ∧ va_K D pv_cl [] t ∧ va_D (va_A [(h0, .inr (1, pv_m 0 q)), ((q 9), .inl (cC, 3, .inl sg))] sz) [(h0, .inr (1, fs))]) (va_A [(h0, .inr (1, pv_m 0 q)), ((q 9), .inl (cC, 3, .inl sg))] sz)) 0 0 (va_A [(h0, .inr (1, pv_m 0 q)), ((q 9), .inl (cC, 3, .inl sg))] sz) := by
  refine Met.ofW (cc := cX13_sign) (maxL := 2) (ret := (some .char)) (by decide) rfl ?_
  intro p e s m args below meth c s₁ B hml hv
  obtain ⟨rfl, hsz, hE, hP, hK, hD0⟩ := hv
  have hx := B.exec
  have hb := B.bytes
  have hr := B.returns
  have hts := fun (w : Cond) (h : w ∈ pv_W) => atoms_spec (ws := Cond.code yX13_sign cX13_sign 2 (some .char) :: pv_W) B.pre w (List.mem_cons_of_mem _ h)
  have hg := fun {w : Cond} (h : w ∈ lw_tbl) (g : goodWord w = true) => hts w (pv_in h g)
  have hown : s.vm.findClass RX13 = some m.cls := findClass_of_methodNamed B.named
  have hlocks := B.notSynchronized
  subst hsz
  have hD := hD0.self (sz := s.heap.size)
  generalize hAe : va_A [(h0, .inr (1, pv_m 0 q)), ((q 9), .inl (cC, 3, .inl sg))] s.heap.size = A at hD hE ⊢
  have hA : ∀ q : Nat, s.heap.size ≤ q → A q := fun q h => by rw [← hAe]; exact Or.inr h
  have hS : va_S A s.heap s.heap [] := va_S.rf
  have hP : va_P D pv_cl [(h0, .inr (1, pv_m 0 q)), ((q 9), .inl (cC, 3, .inl sg))] s.heap := hP
  have hl := lv_entry ([.ref h0, .int p0]) (n := 2) (Nat.le_of_ble_eq_true rfl)
  rw [lg_entry_eq]
  generalize (lg_sl ([.ref h0, .int p0]) ++ List.replicate (2 - (lg_sl ([.ref h0, .int p0])).length) Slot.unset).toArray = ls at hl ⊢
  have hl : lv_has ls 2 [(0, .ref h0), (1, .int p0)] := hl
  refine lv_aload_n hx hb dX13_sign_0 rfl (lv_at hl 0 rfl) ?_
  refine lv_iload_n hx hb dX13_sign_1 rfl (lv_at hl 1 rfl) ?_
  refine lv_iconst (v := 0) hx hb dX13_sign_2 (by decide) ?_
  refine lv_iconst (v := 2) hx hb dX13_sign_3 (by decide) ?_
  have hF := pv_new hA hS.1
  refine va_calli (va_runS (As := [.int p0, .int 0, .int 2]) (rest := [.ref h0]) ⟨hx, hb, hml, hown, hts⟩ (c_X13_in l hfl D _ p0 0 2) (va_cwS 3 hts (pv_gS w9_152 w9_153 w1_10 w9_154) rfl rfl rfl (by decide +kernel) ⟨Nat.le_of_ble_eq_true rfl, Nat.le_of_ble_eq_true rfl⟩) (pv_ps hE hS hF (hP.sub [] rfl) (hK.sub [] rfl) (hD.sub [] (by decide) rfl)) rfl rfl hl.1 rfl (lv_room (Nat.le_of_ble_eq_true rfl)) dX13_sign_4 ⟨Nat.le_of_ble_eq_true rfl, Nat.le_of_ble_eq_true rfl⟩) hS (fun q _ h => hF q h) hF (fun r_0 u t H1 locs1 ht hvm hw hB hz1 hk1 hS => ?_)
  refine W.widen (k := 0) (n := 0) (Nat.le_of_ble_eq_true rfl) (Nat.le_of_ble_eq_true rfl) ?_
  have hP := pv_keep hP rfl hk1
  rcases hw with ⟨rfl, a_2⟩ | ⟨rfl, a_2⟩
  · refine lv_if_eq (tgt := 14) hx hb dX13_sign_7 (by decide) (fun c_3 => absurd c_3 (by decide)) (fun _ => ?_)
    refine lv_iconst (v := 0) hx hb dX13_sign_10 (by decide) ?_
    refine lv_goto (tgt := 15) hx hb dX13_sign_11 (by decide) ?_
    refine va_put (own := RX13) (D := D) (ci := 1) (v := .int 0) (ty := .int) (C := RX13) (T := TX13) (N := 45) hx hb hts inF13 tyX13 tyX13_ok nmX13 hown hK hP hD hS 0 rfl rfl 0 (by decide) (hg w8_205 rfl) (fun _ h9 => h9) rfl (by decide +kernel) rfl rfl (Nat.le_of_ble_eq_true rfl) dX13_sign_15 (fun H locs hP hD hS => ?_)
    have hP : va_P D pv_cl [(h0, .inr (1, pv_m 0 q)), ((q 9), .inl (cC, 3, .inl sg))] _ := hP
    have hD : va_D A [(h0, .inr (1, pv_m 0 q)), ((q 9), .inl (cC, 3, .inl sg))] := hD
    refine lv_aload_n hx hb dX13_sign_18 rfl (lv_at hl 0 rfl) ?_
    refine va_get (own := RX13) (D := D) (ci := 1) (v := .int 0) (C := RX13) (T := TX13) (N := 45) hx hb hts inF13 hown hK hP 0 rfl rfl 0 (by decide) (hg w8_205 rfl) (fun _ h9 => h9) rfl dX13_sign_19 ?_
    refine lv_if_le (tgt := 29) hx hb dX13_sign_22 (by decide) (fun _ => ?_) (fun c_4 => absurd (by decide) c_4)
    refine lv_aload_n hx hb dX13_sign_29 rfl (lv_at hl 0 rfl) ?_
    refine va_get (own := RX13) (D := D) (ci := 1) (v := .ref (q 9)) (C := RX13) (T := TX13) (N := 45) hx hb hts inF13 hown hK hP 0 rfl rfl 16 (by decide) (hg w8_221 rfl) (fun _ h9 => h9) rfl dX13_sign_30 ?_
    refine lv_iload_n hx hb dX13_sign_33 rfl (lv_at hl 1 rfl) ?_
    refine va_cald hx hb hK hP 1 0 rfl rfl (pv_vin (pv_in3.mp a_2)) dX13_sign_34 ?_
    refine pv_setI 63 (hsg _ (pv_vcl (pv_in3.mp a_2))) ?_
    refine W.widen (k := 0) (n := 0) (Nat.le_of_ble_eq_true rfl) (Nat.le_of_ble_eq_true rfl) ?_
    exact W.zret (v := 63) (ty := .char) hx hb hr rfl (fun t ht hW => ⟨⟨63, 0, rfl, Or.inl ⟨rfl, rfl, pv_in3.mp a_2⟩, pv_m 0 q, rfl, (by rw [ht]; exact hP.sub [0] rfl), va_K.moved hW.alike (hK.sub [] rfl), hD.sub [0] (by decide) rfl⟩, hS.F ht⟩) hS.2.2 dX13_sign_35
  · refine lv_if_eq (tgt := 14) hx hb dX13_sign_7 (by decide) (fun _ => ?_) (fun c_5 => absurd (by decide) c_5)
    refine lv_iconst (v := 1) hx hb dX13_sign_14 (by decide) ?_
    refine va_put (own := RX13) (D := D) (ci := 1) (v := .int 1) (ty := .int) (C := RX13) (T := TX13) (N := 45) hx hb hts inF13 tyX13 tyX13_ok nmX13 hown hK hP hD hS 0 rfl rfl 0 (by decide) (hg w8_205 rfl) (fun _ h9 => h9) rfl (by decide +kernel) rfl rfl (Nat.le_of_ble_eq_true rfl) dX13_sign_15 (fun H locs hP hD hS => ?_)
    have hP : va_P D pv_cl [(h0, .inr (1, pv_m 1 q)), ((q 9), .inl (cC, 3, .inl sg))] _ := hP
    have hD : va_D A [(h0, .inr (1, pv_m 1 q)), ((q 9), .inl (cC, 3, .inl sg))] := hD
    refine lv_aload_n hx hb dX13_sign_18 rfl (lv_at hl 0 rfl) ?_
    refine va_get (own := RX13) (D := D) (ci := 1) (v := .int 1) (C := RX13) (T := TX13) (N := 45) hx hb hts inF13 hown hK hP 0 rfl rfl 0 (by decide) (hg w8_205 rfl) (fun _ h9 => h9) rfl dX13_sign_19 ?_
    refine lv_if_le (tgt := 29) hx hb dX13_sign_22 (by decide) (fun c_6 => absurd c_6 (by decide)) (fun _ => ?_)
    refine lv_iconst (v := 0) hx hb dX13_sign_25 (by decide) ?_
    refine lv_goto (tgt := 35) hx hb dX13_sign_26 (by decide) ?_
    refine W.widen (k := 0) (n := 0) (Nat.le_of_ble_eq_true rfl) (Nat.le_of_ble_eq_true rfl) ?_
    exact W.zret (v := 0) (ty := .char) hx hb hr rfl (fun t ht hW => ⟨⟨0, 1, rfl, Or.inr ⟨rfl, fun h => a_2 (pv_in3.mpr h)⟩, pv_m 1 q, rfl, (by rw [ht]; exact hP.sub [0] rfl), va_K.moved hW.alike (hK.sub [] rfl), hD.sub [0] (by decide) rfl⟩, hS.F ht⟩) hS.2.2 dX13_sign_35

theorem dX13_isSign_0 : decode cX13_isSign 0 = .ok (.iload_n 0, 1) := by decide +kernel
theorem dX13_isSign_1 : decode cX13_isSign 1 = .ok (.bipush 43, 2) := by decide +kernel
theorem dX13_isSign_3 : decode cX13_isSign 3 = .ok (.if_icmp .eq 15, 3) := by decide +kernel
theorem dX13_isSign_18 : decode cX13_isSign 18 = .ok (.iconst 1, 1) := by decide +kernel
theorem dX13_isSign_19 : decode cX13_isSign 19 = .ok (.goto 4, 3) := by decide +kernel
theorem dX13_isSign_23 : decode cX13_isSign 23 = .ok (.ireturn, 1) := by decide +kernel
theorem dX13_isSign_6 : decode cX13_isSign 6 = .ok (.iload_n 0, 1) := by decide +kernel
theorem dX13_isSign_7 : decode cX13_isSign 7 = .ok (.bipush 45, 2) := by decide +kernel
theorem dX13_isSign_9 : decode cX13_isSign 9 = .ok (.if_icmp .eq 9, 3) := by decide +kernel
theorem dX13_isSign_12 : decode cX13_isSign 12 = .ok (.iload_n 0, 1) := by decide +kernel
theorem dX13_isSign_13 : decode cX13_isSign 13 = .ok (.bipush 48, 2) := by decide +kernel
theorem dX13_isSign_15 : decode cX13_isSign 15 = .ok (.if_icmp .ne 7, 3) := by decide +kernel
theorem dX13_isSign_22 : decode cX13_isSign 22 = .ok (.iconst 0, 1) := by decide +kernel
set_option maxHeartbeats 4000000 in
set_option maxRecDepth 100000 in
/-- isSign -/
theorem c_X13_isSign (l : Launch) (hfl : l.stackTraces = false) (D : va_G) (sz : Nat) (p0 : Int32) : Met l yX13_isSign (Cond.code yX13_isSign cX13_isSign 1 (some .boolean) :: pv_W) ({ frames := 0, cells := 0, slots := 0, locals := 0 } : Room) (va_Pc [.int p0] (pv_P D [] [] (va_A [] sz) sz)) (va_Qi (fun r (_ : Unit) => (r = 1 ∧ pv_sn p0) ∨ (r = 0 ∧ ¬ pv_sn p0)) (fun _ _ => True) (va_A [] sz)) 0 0 (va_A [] sz) := by
  refine Met.ofW (cc := cX13_isSign) (maxL := 1) (ret := (some .boolean)) (by decide) rfl ?_
  intro p e s m args below meth c s₁ B hml hv
  obtain ⟨rfl, hsz, hE, hP, hK, hD0⟩ := hv
  have hx := B.exec
  have hb := B.bytes
  have hr := B.returns
  have hts := fun (w : Cond) (h : w ∈ pv_W) => atoms_spec (ws := Cond.code yX13_isSign cX13_isSign 1 (some .boolean) :: pv_W) B.pre w (List.mem_cons_of_mem _ h)
  have hg := fun {w : Cond} (h : w ∈ lw_tbl) (g : goodWord w = true) => hts w (pv_in h g)
  have hown : s.vm.findClass RX13 = some m.cls := findClass_of_methodNamed B.named
  have hlocks := B.notSynchronized
  subst hsz
  have hD := hD0.self (sz := s.heap.size)
  generalize hAe : va_A [] s.heap.size = A at hD hE ⊢
  have hA : ∀ q : Nat, s.heap.size ≤ q → A q := fun q h => by rw [← hAe]; exact Or.inr h
  have hS : va_S A s.heap s.heap [] := va_S.rf
  have hP : va_P D pv_cl [] s.heap := hP
  have hl := lv_entry ([.int p0]) (n := 1) (Nat.le_of_ble_eq_true rfl)
  rw [lg_entry_eq]
  generalize (lg_sl ([.int p0]) ++ List.replicate (1 - (lg_sl ([.int p0])).length) Slot.unset).toArray = ls at hl ⊢
  have hl : lv_has ls 1 [(0, .int p0)] := hl
  refine lv_iload_n hx hb dX13_isSign_0 rfl (lv_at hl 0 rfl) ?_
  refine lv_bipush (v := 43) hx hb dX13_isSign_1 (by decide) ?_
  refine lv_icmp_eq (tgt := 18) hx hb dX13_isSign_3 (by decide) (fun c_1 => ?_) (fun c_1 => ?_)
  · refine lv_iconst (v := 1) hx hb dX13_isSign_18 (by decide) ?_
    refine lv_goto (tgt := 23) hx hb dX13_isSign_19 (by decide) ?_
    refine W.widen (k := 0) (n := 0) (Nat.le_of_ble_eq_true rfl) (Nat.le_of_ble_eq_true rfl) ?_
    exact W.zret (v := 1) (ty := .boolean) hx hb hr rfl (fun t ht hW => ⟨⟨1, (), rfl, Or.inl ⟨rfl, Or.inl c_1⟩, trivial⟩, hS.F ht⟩) hS.2.2 dX13_isSign_23
  · refine lv_iload_n hx hb dX13_isSign_6 rfl (lv_at hl 0 rfl) ?_
    refine lv_bipush (v := 45) hx hb dX13_isSign_7 (by decide) ?_
    refine lv_icmp_eq (tgt := 18) hx hb dX13_isSign_9 (by decide) (fun c_2 => ?_) (fun c_2 => ?_)
    · refine lv_iconst (v := 1) hx hb dX13_isSign_18 (by decide) ?_
      refine lv_goto (tgt := 23) hx hb dX13_isSign_19 (by decide) ?_
      refine W.widen (k := 0) (n := 0) (Nat.le_of_ble_eq_true rfl) (Nat.le_of_ble_eq_true rfl) ?_
      exact W.zret (v := 1) (ty := .boolean) hx hb hr rfl (fun t ht hW => ⟨⟨1, (), rfl, Or.inl ⟨rfl, Or.inr (Or.inl c_2)⟩, trivial⟩, hS.F ht⟩) hS.2.2 dX13_isSign_23
    · refine lv_iload_n hx hb dX13_isSign_12 rfl (lv_at hl 0 rfl) ?_
      refine lv_bipush (v := 48) hx hb dX13_isSign_13 (by decide) ?_
      refine lv_icmp_ne (tgt := 22) hx hb dX13_isSign_15 (by decide) (fun c_3 => ?_) (fun c_3 => ?_)
      · refine lv_iconst (v := 0) hx hb dX13_isSign_22 (by decide) ?_
        refine W.widen (k := 0) (n := 0) (Nat.le_of_ble_eq_true rfl) (Nat.le_of_ble_eq_true rfl) ?_
        exact W.zret (v := 0) (ty := .boolean) hx hb hr rfl (fun t ht hW => ⟨⟨0, (), rfl, Or.inr ⟨rfl, pv_no3 c_1 c_2 c_3⟩, trivial⟩, hS.F ht⟩) hS.2.2 dX13_isSign_23
      · refine lv_iconst (v := 1) hx hb dX13_isSign_18 (by decide) ?_
        refine lv_goto (tgt := 23) hx hb dX13_isSign_19 (by decide) ?_
        refine W.widen (k := 0) (n := 0) (Nat.le_of_ble_eq_true rfl) (Nat.le_of_ble_eq_true rfl) ?_
        exact W.zret (v := 1) (ty := .boolean) hx hb hr rfl (fun t ht hW => ⟨⟨1, (), rfl, Or.inl ⟨rfl, Or.inr (Or.inr (c_3))⟩, trivial⟩, hS.F ht⟩) hS.2.2 dX13_isSign_23

theorem dX13_knownSigns_0 : decode cX13_knownSigns 0 = .ok (.iconst 0, 1) := by decide +kernel
theorem dX13_knownSigns_1 : decode cX13_knownSigns 1 = .ok (.istore_n 1, 1) := by decide +kernel
theorem dX13_knownSigns_2 : decode cX13_knownSigns 2 = .ok (.iconst 0, 1) := by decide +kernel
theorem dX13_knownSigns_3 : decode cX13_knownSigns 3 = .ok (.istore_n 2, 1) := by decide +kernel
theorem dX13_knownSigns_4 : decode cX13_knownSigns 4 = .ok (.iload_n 2, 1) := by decide +kernel
theorem dX13_knownSigns_5 : decode cX13_knownSigns 5 = .ok (.iconst 3, 1) := by decide +kernel
theorem dX13_knownSigns_6 : decode cX13_knownSigns 6 = .ok (.if_icmp .ge 28, 3) := by decide +kernel
theorem dX13_knownSigns_9 : decode cX13_knownSigns 9 = .ok (.iload_n 1, 1) := by decide +kernel
theorem dX13_knownSigns_10 : decode cX13_knownSigns 10 = .ok (.aload_n 0, 1) := by decide +kernel
theorem dX13_knownSigns_11 : decode cX13_knownSigns 11 = .ok (.getfield 49, 3) := by decide +kernel
theorem dX13_knownSigns_14 : decode cX13_knownSigns 14 = .ok (.iload_n 2, 1) := by decide +kernel
theorem dX13_knownSigns_15 : decode cX13_knownSigns 15 = .ok (.caload, 1) := by decide +kernel
theorem dX13_knownSigns_16 : decode cX13_knownSigns 16 = .ok (.bipush 63, 2) := by decide +kernel
theorem dX13_knownSigns_18 : decode cX13_knownSigns 18 = .ok (.if_icmp .ne 7, 3) := by decide +kernel
theorem dX13_knownSigns_25 : decode cX13_knownSigns 25 = .ok (.iconst 1, 1) := by decide +kernel
theorem dX13_knownSigns_26 : decode cX13_knownSigns 26 = .ok (.iadd, 1) := by decide +kernel
theorem dX13_knownSigns_27 : decode cX13_knownSigns 27 = .ok (.istore_n 1, 1) := by decide +kernel
theorem dX13_knownSigns_28 : decode cX13_knownSigns 28 = .ok (.iinc 2 1, 3) := by decide +kernel
theorem dX13_knownSigns_31 : decode cX13_knownSigns 31 = .ok (.goto (-27), 3) := by decide +kernel
theorem dX13_knownSigns_21 : decode cX13_knownSigns 21 = .ok (.iconst 0, 1) := by decide +kernel
theorem dX13_knownSigns_22 : decode cX13_knownSigns 22 = .ok (.goto 4, 3) := by decide +kernel
theorem dX13_knownSigns_34 : decode cX13_knownSigns 34 = .ok (.iload_n 1, 1) := by decide +kernel
theorem dX13_knownSigns_35 : decode cX13_knownSigns 35 = .ok (.ireturn, 1) := by decide +kernel
set_option maxHeartbeats 4000000 in
set_option maxRecDepth 100000 in
/-- knownSigns, of one -/
theorem c_X13_knownSigns_0 (l : Launch) (hfl : l.stackTraces = false) (D : va_G) (sz : Nat) (h0 : Nat) (q : Nat → Nat) (cC : ClassId) (sg : Nat → Int32) (hk : ∀ j, j < 3 → j ≠ 0 → sg j = 63) (hkx : ¬ sg 0 = 63) : Met l yX13_knownSigns (Cond.code yX13_knownSigns cX13_knownSigns 3 (some .int) :: pv_W) ({ frames := 0, cells := 0, slots := 0, locals := 0 } : Room) (va_Pc [.ref h0] (pv_P D [(cC, .char)] [(h0, .inr (1, pv_m 0 q)), ((q 9), .inl (cC, 3, .inl sg))] (va_A [] sz) sz)) (va_Qi (fun r (_ : Unit) => r = 1) (fun _ _ => True) (va_A [] sz)) 0 0 (va_A [] sz) := by
  refine Met.ofW (cc := cX13_knownSigns) (maxL := 3) (ret := (some .int)) (by decide) rfl ?_
  intro p e s m args below meth c s₁ B hml hv
  obtain ⟨rfl, hsz, hE, hP, hK, hD0⟩ := hv
  have hx := B.exec
  have hb := B.bytes
  have hr := B.returns
  have hts := fun (w : Cond) (h : w ∈ pv_W) => atoms_spec (ws := Cond.code yX13_knownSigns cX13_knownSigns 3 (some .int) :: pv_W) B.pre w (List.mem_cons_of_mem _ h)
  have hg := fun {w : Cond} (h : w ∈ lw_tbl) (g : goodWord w = true) => hts w (pv_in h g)
  have hown : s.vm.findClass RX13 = some m.cls := findClass_of_methodNamed B.named
  have hlocks := B.notSynchronized
  subst hsz
  have hD := hD0
  generalize hAe : va_A [] s.heap.size = A at hE ⊢
  have hA : ∀ q : Nat, s.heap.size ≤ q → A q := fun q h => by rw [← hAe]; exact Or.inr h
  have hS : va_S A s.heap s.heap [] := va_S.rf
  have hP : va_P D pv_cl [(h0, .inr (1, pv_m 0 q)), ((q 9), .inl (cC, 3, .inl sg))] s.heap := hP
  have hl := lv_entry ([.ref h0]) (n := 3) (Nat.le_of_ble_eq_true rfl)
  rw [lg_entry_eq]
  generalize (lg_sl ([.ref h0]) ++ List.replicate (3 - (lg_sl ([.ref h0])).length) Slot.unset).toArray = ls at hl ⊢
  have hl : lv_has ls 3 [(0, .ref h0)] := hl
  refine lv_iconst (v := 0) hx hb dX13_knownSigns_0 (by decide) ?_
  refine lv_istore_n (lv' := [(1, .int 0), (0, .ref h0)]) hx hb dX13_knownSigns_1 rfl hl (by decide) rfl (fun ls hl => ?_)
  refine lv_iconst (v := 0) hx hb dX13_knownSigns_2 (by decide) ?_
  refine lv_istore_n (lv' := [(2, .int 0), (1, .int 0), (0, .ref h0)]) hx hb dX13_knownSigns_3 rfl hl (by decide) rfl (fun ls hl => ?_)
  refine lv_iload_n hx hb dX13_knownSigns_4 rfl (lv_at hl 0 rfl) ?_
  refine lv_iconst (v := 3) hx hb dX13_knownSigns_5 (by decide) ?_
  refine lv_icmp_ge (tgt := 34) hx hb dX13_knownSigns_6 (by decide) (fun c_1 => absurd c_1 (by decide)) (fun _ => ?_)
  refine lv_iload_n hx hb dX13_knownSigns_9 rfl (lv_at hl 1 rfl) ?_
  refine lv_aload_n hx hb dX13_knownSigns_10 rfl (lv_at hl 2 rfl) ?_
  refine va_get (own := RX13) (D := D) (ci := 1) (v := .ref (q 9)) (C := RX13) (T := TX13) (N := 45) hx hb hts inF13 hown hK hP 0 rfl rfl 16 (by decide) (hg w8_221 rfl) (fun _ h9 => h9) rfl dX13_knownSigns_11 ?_
  refine lv_iload_n hx hb dX13_knownSigns_14 rfl (lv_at hl 0 rfl) ?_
  refine va_cald hx hb hK hP 1 0 rfl rfl (by unfold vp_in; decide) dX13_knownSigns_15 ?_
  refine lv_bipush (v := 63) hx hb dX13_knownSigns_16 (by decide) ?_
  refine lv_icmp_ne (tgt := 25) hx hb dX13_knownSigns_18 (by decide) (fun c_2 => ?_) (fun c_2 => absurd c_2 hkx)
  refine lv_iconst (v := 1) hx hb dX13_knownSigns_25 (by decide) ?_
  refine lv_iadd hx hb dX13_knownSigns_26 ?_
  refine pv_setI 1 (by decide) ?_
  refine lv_istore_n (lv' := [(1, .int 1), (2, .int 0), (0, .ref h0)]) hx hb dX13_knownSigns_27 rfl hl (by decide) rfl (fun ls hl => ?_)
  refine lv_iinc (v := 1) (lv' := [(2, .int 1), (1, .int 1), (0, .ref h0)]) hx hb dX13_knownSigns_28 hl (k := 1) rfl (by decide) (by decide) rfl (fun ls hl => ?_)
  refine lv_goto (tgt := 4) hx hb dX13_knownSigns_31 (by decide) ?_
  refine lv_iload_n hx hb dX13_knownSigns_4 rfl (lv_at hl 0 rfl) ?_
  refine lv_iconst (v := 3) hx hb dX13_knownSigns_5 (by decide) ?_
  refine lv_icmp_ge (tgt := 34) hx hb dX13_knownSigns_6 (by decide) (fun c_3 => absurd c_3 (by decide)) (fun _ => ?_)
  refine lv_iload_n hx hb dX13_knownSigns_9 rfl (lv_at hl 1 rfl) ?_
  refine lv_aload_n hx hb dX13_knownSigns_10 rfl (lv_at hl 2 rfl) ?_
  refine va_get (own := RX13) (D := D) (ci := 1) (v := .ref (q 9)) (C := RX13) (T := TX13) (N := 45) hx hb hts inF13 hown hK hP 0 rfl rfl 16 (by decide) (hg w8_221 rfl) (fun _ h9 => h9) rfl dX13_knownSigns_11 ?_
  refine lv_iload_n hx hb dX13_knownSigns_14 rfl (lv_at hl 0 rfl) ?_
  refine va_cald hx hb hK hP 1 0 rfl rfl (by unfold vp_in; decide) dX13_knownSigns_15 ?_
  refine lv_bipush (v := 63) hx hb dX13_knownSigns_16 (by decide) ?_
  refine lv_icmp_ne (tgt := 25) hx hb dX13_knownSigns_18 (by decide) (fun c_4 => absurd (hk 1 (by decide) (by decide)) c_4) (fun c_4 => ?_)
  refine lv_iconst (v := 0) hx hb dX13_knownSigns_21 (by decide) ?_
  refine lv_goto (tgt := 26) hx hb dX13_knownSigns_22 (by decide) ?_
  refine lv_iadd hx hb dX13_knownSigns_26 ?_
  refine pv_setI 1 (by decide) ?_
  refine lv_istore_n (lv' := [(1, .int 1), (2, .int 1), (0, .ref h0)]) hx hb dX13_knownSigns_27 rfl hl (by decide) rfl (fun ls hl => ?_)
  refine lv_iinc (v := 2) (lv' := [(2, .int 2), (1, .int 1), (0, .ref h0)]) hx hb dX13_knownSigns_28 hl (k := 1) rfl (by decide) (by decide) rfl (fun ls hl => ?_)
  refine lv_goto (tgt := 4) hx hb dX13_knownSigns_31 (by decide) ?_
  refine lv_iload_n hx hb dX13_knownSigns_4 rfl (lv_at hl 0 rfl) ?_
  refine lv_iconst (v := 3) hx hb dX13_knownSigns_5 (by decide) ?_
  refine lv_icmp_ge (tgt := 34) hx hb dX13_knownSigns_6 (by decide) (fun c_5 => absurd c_5 (by decide)) (fun _ => ?_)
  refine lv_iload_n hx hb dX13_knownSigns_9 rfl (lv_at hl 1 rfl) ?_
  refine lv_aload_n hx hb dX13_knownSigns_10 rfl (lv_at hl 2 rfl) ?_
  refine va_get (own := RX13) (D := D) (ci := 1) (v := .ref (q 9)) (C := RX13) (T := TX13) (N := 45) hx hb hts inF13 hown hK hP 0 rfl rfl 16 (by decide) (hg w8_221 rfl) (fun _ h9 => h9) rfl dX13_knownSigns_11 ?_
  refine lv_iload_n hx hb dX13_knownSigns_14 rfl (lv_at hl 0 rfl) ?_
  refine va_cald hx hb hK hP 1 0 rfl rfl (by unfold vp_in; decide) dX13_knownSigns_15 ?_
  refine lv_bipush (v := 63) hx hb dX13_knownSigns_16 (by decide) ?_
  refine lv_icmp_ne (tgt := 25) hx hb dX13_knownSigns_18 (by decide) (fun c_6 => absurd (hk 2 (by decide) (by decide)) c_6) (fun c_6 => ?_)
  refine lv_iconst (v := 0) hx hb dX13_knownSigns_21 (by decide) ?_
  refine lv_goto (tgt := 26) hx hb dX13_knownSigns_22 (by decide) ?_
  refine lv_iadd hx hb dX13_knownSigns_26 ?_
  refine pv_setI 1 (by decide) ?_
  refine lv_istore_n (lv' := [(1, .int 1), (2, .int 2), (0, .ref h0)]) hx hb dX13_knownSigns_27 rfl hl (by decide) rfl (fun ls hl => ?_)
  refine lv_iinc (v := 3) (lv' := [(2, .int 3), (1, .int 1), (0, .ref h0)]) hx hb dX13_knownSigns_28 hl (k := 1) rfl (by decide) (by decide) rfl (fun ls hl => ?_)
  refine lv_goto (tgt := 4) hx hb dX13_knownSigns_31 (by decide) ?_
  refine lv_iload_n hx hb dX13_knownSigns_4 rfl (lv_at hl 0 rfl) ?_
  refine lv_iconst (v := 3) hx hb dX13_knownSigns_5 (by decide) ?_
  refine lv_icmp_ge (tgt := 34) hx hb dX13_knownSigns_6 (by decide) (fun _ => ?_) (fun c_7 => absurd (by decide) c_7)
  refine lv_iload_n hx hb dX13_knownSigns_34 rfl (lv_at hl 1 rfl) ?_
  refine W.widen (k := 0) (n := 0) (Nat.le_of_ble_eq_true rfl) (Nat.le_of_ble_eq_true rfl) ?_
  exact W.iret (v := 1) hx hb hr (fun t ht hW => ⟨⟨1, (), rfl, rfl, trivial⟩, hS.F ht⟩) hS.2.2 dX13_knownSigns_35

set_option maxHeartbeats 4000000 in
set_option maxRecDepth 100000 in
/-- knownSigns, of one -/
theorem c_X13_knownSigns_1 (l : Launch) (hfl : l.stackTraces = false) (D : va_G) (sz : Nat) (h0 : Nat) (q : Nat → Nat) (cC : ClassId) (sg : Nat → Int32) (hk : ∀ j, j < 3 → j ≠ 1 → sg j = 63) (hkx : ¬ sg 1 = 63) : Met l yX13_knownSigns (Cond.code yX13_knownSigns cX13_knownSigns 3 (some .int) :: pv_W) ({ frames := 0, cells := 0, slots := 0, locals := 0 } : Room) (va_Pc [.ref h0] (pv_P D [(cC, .char)] [(h0, .inr (1, pv_m 0 q)), ((q 9), .inl (cC, 3, .inl sg))] (va_A [] sz) sz)) (va_Qi (fun r (_ : Unit) => r = 1) (fun _ _ => True) (va_A [] sz)) 0 0 (va_A [] sz) := by
  refine Met.ofW (cc := cX13_knownSigns) (maxL := 3) (ret := (some .int)) (by decide) rfl ?_
  intro p e s m args below meth c s₁ B hml hv
  obtain ⟨rfl, hsz, hE, hP, hK, hD0⟩ := hv
  have hx := B.exec
  have hb := B.bytes
  have hr := B.returns
  have hts := fun (w : Cond) (h : w ∈ pv_W) => atoms_spec (ws := Cond.code yX13_knownSigns cX13_knownSigns 3 (some .int) :: pv_W) B.pre w (List.mem_cons_of_mem _ h)
  have hg := fun {w : Cond} (h : w ∈ lw_tbl) (g : goodWord w = true) => hts w (pv_in h g)
  have hown : s.vm.findClass RX13 = some m.cls := findClass_of_methodNamed B.named
  have hlocks := B.notSynchronized
  subst hsz
  have hD := hD0
  generalize hAe : va_A [] s.heap.size = A at hE ⊢
  have hA : ∀ q : Nat, s.heap.size ≤ q → A q := fun q h => by rw [← hAe]; exact Or.inr h
  have hS : va_S A s.heap s.heap [] := va_S.rf
  have hP : va_P D pv_cl [(h0, .inr (1, pv_m 0 q)), ((q 9), .inl (cC, 3, .inl sg))] s.heap := hP
  have hl := lv_entry ([.ref h0]) (n := 3) (Nat.le_of_ble_eq_true rfl)
  rw [lg_entry_eq]
  generalize (lg_sl ([.ref h0]) ++ List.replicate (3 - (lg_sl ([.ref h0])).length) Slot.unset).toArray = ls at hl ⊢
  have hl : lv_has ls 3 [(0, .ref h0)] := hl
  refine lv_iconst (v := 0) hx hb dX13_knownSigns_0 (by decide) ?_
  refine lv_istore_n (lv' := [(1, .int 0), (0, .ref h0)]) hx hb dX13_knownSigns_1 rfl hl (by decide) rfl (fun ls hl => ?_)
  refine lv_iconst (v := 0) hx hb dX13_knownSigns_2 (by decide) ?_
  refine lv_istore_n (lv' := [(2, .int 0), (1, .int 0), (0, .ref h0)]) hx hb dX13_knownSigns_3 rfl hl (by decide) rfl (fun ls hl => ?_)
  refine lv_iload_n hx hb dX13_knownSigns_4 rfl (lv_at hl 0 rfl) ?_
  refine lv_iconst (v := 3) hx hb dX13_knownSigns_5 (by decide) ?_
  refine lv_icmp_ge (tgt := 34) hx hb dX13_knownSigns_6 (by decide) (fun c_1 => absurd c_1 (by decide)) (fun _ => ?_)
  refine lv_iload_n hx hb dX13_knownSigns_9 rfl (lv_at hl 1 rfl) ?_
  refine lv_aload_n hx hb dX13_knownSigns_10 rfl (lv_at hl 2 rfl) ?_
  refine va_get (own := RX13) (D := D) (ci := 1) (v := .ref (q 9)) (C := RX13) (T := TX13) (N := 45) hx hb hts inF13 hown hK hP 0 rfl rfl 16 (by decide) (hg w8_221 rfl) (fun _ h9 => h9) rfl dX13_knownSigns_11 ?_
  refine lv_iload_n hx hb dX13_knownSigns_14 rfl (lv_at hl 0 rfl) ?_
  refine va_cald hx hb hK hP 1 0 rfl rfl (by unfold vp_in; decide) dX13_knownSigns_15 ?_
  refine lv_bipush (v := 63) hx hb dX13_knownSigns_16 (by decide) ?_
  refine lv_icmp_ne (tgt := 25) hx hb dX13_knownSigns_18 (by decide) (fun c_2 => absurd (hk 0 (by decide) (by decide)) c_2) (fun c_2 => ?_)
  refine lv_iconst (v := 0) hx hb dX13_knownSigns_21 (by decide) ?_
  refine lv_goto (tgt := 26) hx hb dX13_knownSigns_22 (by decide) ?_
  refine lv_iadd hx hb dX13_knownSigns_26 ?_
  refine pv_setI 0 (by decide) ?_
  refine lv_istore_n (lv' := [(1, .int 0), (2, .int 0), (0, .ref h0)]) hx hb dX13_knownSigns_27 rfl hl (by decide) rfl (fun ls hl => ?_)
  refine lv_iinc (v := 1) (lv' := [(2, .int 1), (1, .int 0), (0, .ref h0)]) hx hb dX13_knownSigns_28 hl (k := 1) rfl (by decide) (by decide) rfl (fun ls hl => ?_)
  refine lv_goto (tgt := 4) hx hb dX13_knownSigns_31 (by decide) ?_
  refine lv_iload_n hx hb dX13_knownSigns_4 rfl (lv_at hl 0 rfl) ?_
  refine lv_iconst (v := 3) hx hb dX13_knownSigns_5 (by decide) ?_
  refine lv_icmp_ge (tgt := 34) hx hb dX13_knownSigns_6 (by decide) (fun c_3 => absurd c_3 (by decide)) (fun _ => ?_)
  refine lv_iload_n hx hb dX13_knownSigns_9 rfl (lv_at hl 1 rfl) ?_
  refine lv_aload_n hx hb dX13_knownSigns_10 rfl (lv_at hl 2 rfl) ?_
  refine va_get (own := RX13) (D := D) (ci := 1) (v := .ref (q 9)) (C := RX13) (T := TX13) (N := 45) hx hb hts inF13 hown hK hP 0 rfl rfl 16 (by decide) (hg w8_221 rfl) (fun _ h9 => h9) rfl dX13_knownSigns_11 ?_
  refine lv_iload_n hx hb dX13_knownSigns_14 rfl (lv_at hl 0 rfl) ?_
  refine va_cald hx hb hK hP 1 0 rfl rfl (by unfold vp_in; decide) dX13_knownSigns_15 ?_
  refine lv_bipush (v := 63) hx hb dX13_knownSigns_16 (by decide) ?_
  refine lv_icmp_ne (tgt := 25) hx hb dX13_knownSigns_18 (by decide) (fun c_4 => ?_) (fun c_4 => absurd c_4 hkx)
  refine lv_iconst (v := 1) hx hb dX13_knownSigns_25 (by decide) ?_
  refine lv_iadd hx hb dX13_knownSigns_26 ?_
  refine pv_setI 1 (by decide) ?_
  refine lv_istore_n (lv' := [(1, .int 1), (2, .int 1), (0, .ref h0)]) hx hb dX13_knownSigns_27 rfl hl (by decide) rfl (fun ls hl => ?_)
  refine lv_iinc (v := 2) (lv' := [(2, .int 2), (1, .int 1), (0, .ref h0)]) hx hb dX13_knownSigns_28 hl (k := 1) rfl (by decide) (by decide) rfl (fun ls hl => ?_)
  refine lv_goto (tgt := 4) hx hb dX13_knownSigns_31 (by decide) ?_
  refine lv_iload_n hx hb dX13_knownSigns_4 rfl (lv_at hl 0 rfl) ?_
  refine lv_iconst (v := 3) hx hb dX13_knownSigns_5 (by decide) ?_
  refine lv_icmp_ge (tgt := 34) hx hb dX13_knownSigns_6 (by decide) (fun c_5 => absurd c_5 (by decide)) (fun _ => ?_)
  refine lv_iload_n hx hb dX13_knownSigns_9 rfl (lv_at hl 1 rfl) ?_
  refine lv_aload_n hx hb dX13_knownSigns_10 rfl (lv_at hl 2 rfl) ?_
  refine va_get (own := RX13) (D := D) (ci := 1) (v := .ref (q 9)) (C := RX13) (T := TX13) (N := 45) hx hb hts inF13 hown hK hP 0 rfl rfl 16 (by decide) (hg w8_221 rfl) (fun _ h9 => h9) rfl dX13_knownSigns_11 ?_
  refine lv_iload_n hx hb dX13_knownSigns_14 rfl (lv_at hl 0 rfl) ?_
  refine va_cald hx hb hK hP 1 0 rfl rfl (by unfold vp_in; decide) dX13_knownSigns_15 ?_
  refine lv_bipush (v := 63) hx hb dX13_knownSigns_16 (by decide) ?_
  refine lv_icmp_ne (tgt := 25) hx hb dX13_knownSigns_18 (by decide) (fun c_6 => absurd (hk 2 (by decide) (by decide)) c_6) (fun c_6 => ?_)
  refine lv_iconst (v := 0) hx hb dX13_knownSigns_21 (by decide) ?_
  refine lv_goto (tgt := 26) hx hb dX13_knownSigns_22 (by decide) ?_
  refine lv_iadd hx hb dX13_knownSigns_26 ?_
  refine pv_setI 1 (by decide) ?_
  refine lv_istore_n (lv' := [(1, .int 1), (2, .int 2), (0, .ref h0)]) hx hb dX13_knownSigns_27 rfl hl (by decide) rfl (fun ls hl => ?_)
  refine lv_iinc (v := 3) (lv' := [(2, .int 3), (1, .int 1), (0, .ref h0)]) hx hb dX13_knownSigns_28 hl (k := 1) rfl (by decide) (by decide) rfl (fun ls hl => ?_)
  refine lv_goto (tgt := 4) hx hb dX13_knownSigns_31 (by decide) ?_
  refine lv_iload_n hx hb dX13_knownSigns_4 rfl (lv_at hl 0 rfl) ?_
  refine lv_iconst (v := 3) hx hb dX13_knownSigns_5 (by decide) ?_
  refine lv_icmp_ge (tgt := 34) hx hb dX13_knownSigns_6 (by decide) (fun _ => ?_) (fun c_7 => absurd (by decide) c_7)
  refine lv_iload_n hx hb dX13_knownSigns_34 rfl (lv_at hl 1 rfl) ?_
  refine W.widen (k := 0) (n := 0) (Nat.le_of_ble_eq_true rfl) (Nat.le_of_ble_eq_true rfl) ?_
  exact W.iret (v := 1) hx hb hr (fun t ht hW => ⟨⟨1, (), rfl, rfl, trivial⟩, hS.F ht⟩) hS.2.2 dX13_knownSigns_35

set_option maxHeartbeats 4000000 in
set_option maxRecDepth 100000 in
/-- knownSigns, of one -/
theorem c_X13_knownSigns_2 (l : Launch) (hfl : l.stackTraces = false) (D : va_G) (sz : Nat) (h0 : Nat) (q : Nat → Nat) (cC : ClassId) (sg : Nat → Int32) (hk : ∀ j, j < 3 → j ≠ 2 → sg j = 63) (hkx : ¬ sg 2 = 63) : Met l yX13_knownSigns (Cond.code yX13_knownSigns cX13_knownSigns 3 (some .int) :: pv_W) ({ frames := 0, cells := 0, slots := 0, locals := 0 } : Room) (va_Pc [.ref h0] (pv_P D [(cC, .char)] [(h0, .inr (1, pv_m 0 q)), ((q 9), .inl (cC, 3, .inl sg))] (va_A [] sz) sz)) (va_Qi (fun r (_ : Unit) => r = 1) (fun _ _ => True) (va_A [] sz)) 0 0 (va_A [] sz) := by
  refine Met.ofW (cc := cX13_knownSigns) (maxL := 3) (ret := (some .int)) (by decide) rfl ?_
  intro p e s m args below meth c s₁ B hml hv
  obtain ⟨rfl, hsz, hE, hP, hK, hD0⟩ := hv
  have hx := B.exec
  have hb := B.bytes
  have hr := B.returns
  have hts := fun (w : Cond) (h : w ∈ pv_W) => atoms_spec (ws := Cond.code yX13_knownSigns cX13_knownSigns 3 (some .int) :: pv_W) B.pre w (List.mem_cons_of_mem _ h)
  have hg := fun {w : Cond} (h : w ∈ lw_tbl) (g : goodWord w = true) => hts w (pv_in h g)
  have hown : s.vm.findClass RX13 = some m.cls := findClass_of_methodNamed B.named
  have hlocks := B.notSynchronized
  subst hsz
  have hD := hD0
  generalize hAe : va_A [] s.heap.size = A at hE ⊢
  have hA : ∀ q : Nat, s.heap.size ≤ q → A q := fun q h => by rw [← hAe]; exact Or.inr h
  have hS : va_S A s.heap s.heap [] := va_S.rf
  have hP : va_P D pv_cl [(h0, .inr (1, pv_m 0 q)), ((q 9), .inl (cC, 3, .inl sg))] s.heap := hP
  have hl := lv_entry ([.ref h0]) (n := 3) (Nat.le_of_ble_eq_true rfl)
  rw [lg_entry_eq]
  generalize (lg_sl ([.ref h0]) ++ List.replicate (3 - (lg_sl ([.ref h0])).length) Slot.unset).toArray = ls at hl ⊢
  have hl : lv_has ls 3 [(0, .ref h0)] := hl
  refine lv_iconst (v := 0) hx hb dX13_knownSigns_0 (by decide) ?_
  refine lv_istore_n (lv' := [(1, .int 0), (0, .ref h0)]) hx hb dX13_knownSigns_1 rfl hl (by decide) rfl (fun ls hl => ?_)
  refine lv_iconst (v := 0) hx hb dX13_knownSigns_2 (by decide) ?_
  refine lv_istore_n (lv' := [(2, .int 0), (1, .int 0), (0, .ref h0)]) hx hb dX13_knownSigns_3 rfl hl (by decide) rfl (fun ls hl => ?_)
  refine lv_iload_n hx hb dX13_knownSigns_4 rfl (lv_at hl 0 rfl) ?_
  refine lv_iconst (v := 3) hx hb dX13_knownSigns_5 (by decide) ?_
  refine lv_icmp_ge (tgt := 34) hx hb dX13_knownSigns_6 (by decide) (fun c_1 => absurd c_1 (by decide)) (fun _ => ?_)
  refine lv_iload_n hx hb dX13_knownSigns_9 rfl (lv_at hl 1 rfl) ?_
  refine lv_aload_n hx hb dX13_knownSigns_10 rfl (lv_at hl 2 rfl) ?_
  refine va_get (own := RX13) (D := D) (ci := 1) (v := .ref (q 9)) (C := RX13) (T := TX13) (N := 45) hx hb hts inF13 hown hK hP 0 rfl rfl 16 (by decide) (hg w8_221 rfl) (fun _ h9 => h9) rfl dX13_knownSigns_11 ?_
  refine lv_iload_n hx hb dX13_knownSigns_14 rfl (lv_at hl 0 rfl) ?_
  refine va_cald hx hb hK hP 1 0 rfl rfl (by unfold vp_in; decide) dX13_knownSigns_15 ?_
  refine lv_bipush (v := 63) hx hb dX13_knownSigns_16 (by decide) ?_
  refine lv_icmp_ne (tgt := 25) hx hb dX13_knownSigns_18 (by decide) (fun c_2 => absurd (hk 0 (by decide) (by decide)) c_2) (fun c_2 => ?_)
  refine lv_iconst (v := 0) hx hb dX13_knownSigns_21 (by decide) ?_
  refine lv_goto (tgt := 26) hx hb dX13_knownSigns_22 (by decide) ?_
  refine lv_iadd hx hb dX13_knownSigns_26 ?_
  refine pv_setI 0 (by decide) ?_
  refine lv_istore_n (lv' := [(1, .int 0), (2, .int 0), (0, .ref h0)]) hx hb dX13_knownSigns_27 rfl hl (by decide) rfl (fun ls hl => ?_)
  refine lv_iinc (v := 1) (lv' := [(2, .int 1), (1, .int 0), (0, .ref h0)]) hx hb dX13_knownSigns_28 hl (k := 1) rfl (by decide) (by decide) rfl (fun ls hl => ?_)
  refine lv_goto (tgt := 4) hx hb dX13_knownSigns_31 (by decide) ?_
  refine lv_iload_n hx hb dX13_knownSigns_4 rfl (lv_at hl 0 rfl) ?_
  refine lv_iconst (v := 3) hx hb dX13_knownSigns_5 (by decide) ?_
  refine lv_icmp_ge (tgt := 34) hx hb dX13_knownSigns_6 (by decide) (fun c_3 => absurd c_3 (by decide)) (fun _ => ?_)
  refine lv_iload_n hx hb dX13_knownSigns_9 rfl (lv_at hl 1 rfl) ?_
  refine lv_aload_n hx hb dX13_knownSigns_10 rfl (lv_at hl 2 rfl) ?_
  refine va_get (own := RX13) (D := D) (ci := 1) (v := .ref (q 9)) (C := RX13) (T := TX13) (N := 45) hx hb hts inF13 hown hK hP 0 rfl rfl 16 (by decide) (hg w8_221 rfl) (fun _ h9 => h9) rfl dX13_knownSigns_11 ?_
  refine lv_iload_n hx hb dX13_knownSigns_14 rfl (lv_at hl 0 rfl) ?_
  refine va_cald hx hb hK hP 1 0 rfl rfl (by unfold vp_in; decide) dX13_knownSigns_15 ?_
  refine lv_bipush (v := 63) hx hb dX13_knownSigns_16 (by decide) ?_
  refine lv_icmp_ne (tgt := 25) hx hb dX13_knownSigns_18 (by decide) (fun c_4 => absurd (hk 1 (by decide) (by decide)) c_4) (fun c_4 => ?_)
  refine lv_iconst (v := 0) hx hb dX13_knownSigns_21 (by decide) ?_
  refine lv_goto (tgt := 26) hx hb dX13_knownSigns_22 (by decide) ?_
  refine lv_iadd hx hb dX13_knownSigns_26 ?_
  refine pv_setI 0 (by decide) ?_
  refine lv_istore_n (lv' := [(1, .int 0), (2, .int 1), (0, .ref h0)]) hx hb dX13_knownSigns_27 rfl hl (by decide) rfl (fun ls hl => ?_)
  refine lv_iinc (v := 2) (lv' := [(2, .int 2), (1, .int 0), (0, .ref h0)]) hx hb dX13_knownSigns_28 hl (k := 1) rfl (by decide) (by decide) rfl (fun ls hl => ?_)
  refine lv_goto (tgt := 4) hx hb dX13_knownSigns_31 (by decide) ?_
  refine lv_iload_n hx hb dX13_knownSigns_4 rfl (lv_at hl 0 rfl) ?_
  refine lv_iconst (v := 3) hx hb dX13_knownSigns_5 (by decide) ?_
  refine lv_icmp_ge (tgt := 34) hx hb dX13_knownSigns_6 (by decide) (fun c_5 => absurd c_5 (by decide)) (fun _ => ?_)
  refine lv_iload_n hx hb dX13_knownSigns_9 rfl (lv_at hl 1 rfl) ?_
  refine lv_aload_n hx hb dX13_knownSigns_10 rfl (lv_at hl 2 rfl) ?_
  refine va_get (own := RX13) (D := D) (ci := 1) (v := .ref (q 9)) (C := RX13) (T := TX13) (N := 45) hx hb hts inF13 hown hK hP 0 rfl rfl 16 (by decide) (hg w8_221 rfl) (fun _ h9 => h9) rfl dX13_knownSigns_11 ?_
  refine lv_iload_n hx hb dX13_knownSigns_14 rfl (lv_at hl 0 rfl) ?_
  refine va_cald hx hb hK hP 1 0 rfl rfl (by unfold vp_in; decide) dX13_knownSigns_15 ?_
  refine lv_bipush (v := 63) hx hb dX13_knownSigns_16 (by decide) ?_
  refine lv_icmp_ne (tgt := 25) hx hb dX13_knownSigns_18 (by decide) (fun c_6 => ?_) (fun c_6 => absurd c_6 hkx)
  refine lv_iconst (v := 1) hx hb dX13_knownSigns_25 (by decide) ?_
  refine lv_iadd hx hb dX13_knownSigns_26 ?_
  refine pv_setI 1 (by decide) ?_
  refine lv_istore_n (lv' := [(1, .int 1), (2, .int 2), (0, .ref h0)]) hx hb dX13_knownSigns_27 rfl hl (by decide) rfl (fun ls hl => ?_)
  refine lv_iinc (v := 3) (lv' := [(2, .int 3), (1, .int 1), (0, .ref h0)]) hx hb dX13_knownSigns_28 hl (k := 1) rfl (by decide) (by decide) rfl (fun ls hl => ?_)
  refine lv_goto (tgt := 4) hx hb dX13_knownSigns_31 (by decide) ?_
  refine lv_iload_n hx hb dX13_knownSigns_4 rfl (lv_at hl 0 rfl) ?_
  refine lv_iconst (v := 3) hx hb dX13_knownSigns_5 (by decide) ?_
  refine lv_icmp_ge (tgt := 34) hx hb dX13_knownSigns_6 (by decide) (fun _ => ?_) (fun c_7 => absurd (by decide) c_7)
  refine lv_iload_n hx hb dX13_knownSigns_34 rfl (lv_at hl 1 rfl) ?_
  refine W.widen (k := 0) (n := 0) (Nat.le_of_ble_eq_true rfl) (Nat.le_of_ble_eq_true rfl) ?_
  exact W.iret (v := 1) hx hb hr (fun t ht hW => ⟨⟨1, (), rfl, rfl, trivial⟩, hS.F ht⟩) hS.2.2 dX13_knownSigns_35

theorem dX13_assume_0 : decode cX13_assume 0 = .ok (.aload_n 0, 1) := by decide +kernel
theorem dX13_assume_1 : decode cX13_assume 1 = .ok (.iconst 0, 1) := by decide +kernel
theorem dX13_assume_2 : decode cX13_assume 2 = .ok (.putfield 122, 3) := by decide +kernel
theorem dX13_assume_5 : decode cX13_assume 5 = .ok (.iload_n 1, 1) := by decide +kernel
theorem dX13_assume_6 : decode cX13_assume 6 = .ok (.iconst 0, 1) := by decide +kernel
theorem dX13_assume_7 : decode cX13_assume 7 = .ok (.iconst 2, 1) := by decide +kernel
theorem dX13_assume_8 : decode cX13_assume 8 = .ok (.invokestatic 128, 3) := by decide +kernel
theorem dX13_assume_11 : decode cX13_assume 11 = .ok (.ifCond .eq 10, 3) := by decide +kernel
theorem dX13_assume_14 : decode cX13_assume 14 = .ok (.iload_n 2, 1) := by decide +kernel
theorem dX13_assume_15 : decode cX13_assume 15 = .ok (.invokestatic 428, 3) := by decide +kernel
theorem w11_67 : (Jvm.Cond.methodLink "PolyforgeModel" (428 : Nat) ({ cls := "PolyforgeModel", name := "isSign", desc := "(C)Z" } : Jvm.MethodName)) ∈ lw_tbl := pv_t11 (pv_mg 67 rfl)
theorem w11_69 : (Jvm.Cond.code ({ cls := "PolyforgeModel", name := "isSign", desc := "(C)Z" } : Jvm.MethodName) prog_14_method_111_code (1 : Nat) (Option.some Jvm.ClassFile.FieldType.boolean)) ∈ lw_tbl := pv_t11 (pv_mg 69 rfl)
theorem w11_68 : (Jvm.Cond.static ({ cls := "PolyforgeModel", name := "isSign", desc := "(C)Z" } : Jvm.MethodName)) ∈ lw_tbl := pv_t11 (pv_mg 68 rfl)
theorem dX13_assume_18 : decode cX13_assume 18 = .ok (.ifCond .ne 9, 3) := by decide +kernel
theorem dX13_assume_27 : decode cX13_assume 27 = .ok (.aload_n 0, 1) := by decide +kernel
theorem dX13_assume_28 : decode cX13_assume 28 = .ok (.getfield 49, 3) := by decide +kernel
theorem dX13_assume_31 : decode cX13_assume 31 = .ok (.iload_n 1, 1) := by decide +kernel
theorem dX13_assume_32 : decode cX13_assume 32 = .ok (.caload, 1) := by decide +kernel
theorem dX13_assume_33 : decode cX13_assume 33 = .ok (.bipush 63, 2) := by decide +kernel
theorem dX13_assume_35 : decode cX13_assume 35 = .ok (.if_icmp .eq 9, 3) := by decide +kernel
theorem dX13_assume_44 : decode cX13_assume 44 = .ok (.aload_n 0, 1) := by decide +kernel
theorem dX13_assume_45 : decode cX13_assume 45 = .ok (.getfield 49, 3) := by decide +kernel
theorem dX13_assume_48 : decode cX13_assume 48 = .ok (.iload_n 1, 1) := by decide +kernel
theorem dX13_assume_49 : decode cX13_assume 49 = .ok (.iload_n 2, 1) := by decide +kernel
theorem dX13_assume_50 : decode cX13_assume 50 = .ok (.castore, 1) := by decide +kernel
theorem dX13_assume_51 : decode cX13_assume 51 = .ok (.aload_n 0, 1) := by decide +kernel
theorem dX13_assume_52 : decode cX13_assume 52 = .ok (.getfield 52, 3) := by decide +kernel
theorem w8_222 : (Jvm.Cond.fieldLink "PolyforgeModel" (52 : Nat) "PolyforgeModel" "signFrame" "[I") ∈ lw_tbl := pv_t8 (pv_mg 222 rfl)
theorem dX13_assume_55 : decode cX13_assume 55 = .ok (.iload_n 1, 1) := by decide +kernel
theorem dX13_assume_56 : decode cX13_assume 56 = .ok (.aload_n 0, 1) := by decide +kernel
theorem dX13_assume_57 : decode cX13_assume 57 = .ok (.getfield 45, 3) := by decide +kernel
theorem dX13_assume_60 : decode cX13_assume 60 = .ok (.iastore, 1) := by decide +kernel
theorem dX13_assume_61 : decode cX13_assume 61 = .ok (.aload_n 0, 1) := by decide +kernel
theorem dX13_assume_62 : decode cX13_assume 62 = .ok (.invokevirtual 435, 3) := by decide +kernel
theorem w11_74 : (Jvm.Cond.methodLink "PolyforgeModel" (435 : Nat) ({ cls := "PolyforgeModel", name := "knownSigns", desc := "()I" } : Jvm.MethodName)) ∈ lw_tbl := pv_t11 (pv_mg 74 rfl)
theorem w11_77 : (Jvm.Cond.code ({ cls := "PolyforgeModel", name := "knownSigns", desc := "()I" } : Jvm.MethodName) prog_14_method_113_code (3 : Nat) (Option.some Jvm.ClassFile.FieldType.int)) ∈ lw_tbl := pv_t11 (pv_mg 77 rfl)
theorem wp8_0 : Cond.selects "PolyforgeModel" ⟨"PolyforgeModel", "knownSigns", "()I"⟩ ⟨"PolyforgeModel", "knownSigns", "()I"⟩ ∈ lw_tbl := pv_mg 112 rfl
theorem w11_76 : (Jvm.Cond.instanceMethod ({ cls := "PolyforgeModel", name := "knownSigns", desc := "()I" } : Jvm.MethodName)) ∈ lw_tbl := pv_t11 (pv_mg 76 rfl)
theorem dX13_assume_65 : decode cX13_assume 65 = .ok (.ireturn, 1) := by decide +kernel
theorem dX13_assume_21 : decode cX13_assume 21 = .ok (.aload_n 0, 1) := by decide +kernel
theorem dX13_assume_22 : decode cX13_assume 22 = .ok (.iconst 1, 1) := by decide +kernel
theorem dX13_assume_23 : decode cX13_assume 23 = .ok (.invokevirtual 185, 3) := by decide +kernel
theorem dX13_assume_26 : decode cX13_assume 26 = .ok (.ireturn, 1) := by decide +kernel
set_option maxHeartbeats 4000000 in
set_option maxRecDepth 100000 in
/-- assume on a fresh object -/
theorem c_X13_assume (l : Launch) (hfl : l.stackTraces = false) (D : va_G) (sz : Nat) (h0 : Nat) (q : Nat → Nat) (cC cI : ClassId) (sg : Nat → Int32) (hsg : ∀ j, j < 3 → sg j = 63) (sf : Nat → Int32) (p0 p1 : Int32) : Met l yX13_assume (Cond.code yX13_assume cX13_assume 3 (some .int) :: pv_W) ({ frames := 1, cells := 0, slots := 0, locals := 22 } : Room) (va_Pc [.ref h0, .int p0, .int p1] (pv_P D [(cC, .char), (cI, .int)] [(h0, .inr (1, pv_m 0 q)), ((q 9), .inl (cC, 3, .inl sg)), ((q 10), .inl (cI, 3, .inl sf))] (va_A [(h0, .inr (1, pv_m 0 q)), ((q 9), .inl (cC, 3, .inl sg)), ((q 10), .inl (cI, 3, .inl sf))] sz) sz)) (va_Qi (fun r (u : Int32) => (u = 0 ∧ r = 1 ∧ (pv_vr p0 ∧ pv_sn p1)) ∨ (u = 1 ∧ ¬ (pv_vr p0 ∧ pv_sn p1))) (fun (u : Int32) t => ∃ fs : List Value, fs[0]? = some (.int u) ∧ va_P D pv_cl [(h0, .inr (1, fs))] t.heap ∧ va_K D pv_cl [] t ∧ va_D (va_A [(h0, .inr (1, pv_m 0 q)), ((q 9), .inl (cC, 3, .inl sg)), ((q 10), .inl (cI, 3, .inl sf))] sz) [(h0, .inr (1, fs))]) (va_A [(h0, .inr (1, pv_m 0 q)), ((q 9), .inl (cC, 3, .inl sg)), ((q 10), .inl (cI, 3, .inl sf))] sz)) 0 0 (va_A [(h0, .inr (1, pv_m 0 q)), ((q 9), .inl (cC, 3, .inl sg)), ((q 10), .inl (cI, 3, .inl sf))] sz) := by
  refine Met.ofW (cc := cX13_assume) (maxL := 3) (ret := (some .int)) (by decide) rfl ?_
  intro p e s m args below meth c s₁ B hml hv
  obtain ⟨rfl, hsz, hE, hP, hK, hD0⟩ := hv
  have hx := B.exec
  have hb := B.bytes
  have hr := B.returns
  have hts := fun (w : Cond) (h : w ∈ pv_W) => atoms_spec (ws := Cond.code yX13_assume cX13_assume 3 (some .int) :: pv_W) B.pre w (List.mem_cons_of_mem _ h)
  have hg := fun {w : Cond} (h : w ∈ lw_tbl) (g : goodWord w = true) => hts w (pv_in h g)
  have hown : s.vm.findClass RX13 = some m.cls := findClass_of_methodNamed B.named
  have hlocks := B.notSynchronized
  subst hsz
  have hD := hD0.self (sz := s.heap.size)
  generalize hAe : va_A [(h0, .inr (1, pv_m 0 q)), ((q 9), .inl (cC, 3, .inl sg)), ((q 10), .inl (cI, 3, .inl sf))] s.heap.size = A at hD hE ⊢
  have hA : ∀ q : Nat, s.heap.size ≤ q → A q := fun q h => by rw [← hAe]; exact Or.inr h
  have hS : va_S A s.heap s.heap [] := va_S.rf
  have hP : va_P D pv_cl [(h0, .inr (1, pv_m 0 q)), ((q 9), .inl (cC, 3, .inl sg)), ((q 10), .inl (cI, 3, .inl sf))] s.heap := hP
  have hl := lv_entry ([.ref h0, .int p0, .int p1]) (n := 3) (Nat.le_of_ble_eq_true rfl)
  rw [lg_entry_eq]
  generalize (lg_sl ([.ref h0, .int p0, .int p1]) ++ List.replicate (3 - (lg_sl ([.ref h0, .int p0, .int p1])).length) Slot.unset).toArray = ls at hl ⊢
  have hl : lv_has ls 3 [(0, .ref h0), (1, .int p0), (2, .int p1)] := hl
  refine lv_aload_n hx hb dX13_assume_0 rfl (lv_at hl 0 rfl) ?_
  refine lv_iconst (v := 0) hx hb dX13_assume_1 (by decide) ?_
  refine va_put (own := RX13) (D := D) (ci := 1) (v := .int 0) (ty := .int) (C := RX13) (T := TX13) (N := 45) hx hb hts inF13 tyX13 tyX13_ok nmX13 hown hK hP hD hS 0 rfl rfl 0 (by decide) (hg w8_205 rfl) (fun _ h9 => h9) rfl (by decide +kernel) rfl rfl (Nat.le_of_ble_eq_true rfl) dX13_assume_2 (fun H locs hP hD hS => ?_)
  have hP : va_P D pv_cl [(h0, .inr (1, pv_m 0 q)), ((q 9), .inl (cC, 3, .inl sg)), ((q 10), .inl (cI, 3, .inl sf))] _ := hP
  have hD : va_D A [(h0, .inr (1, pv_m 0 q)), ((q 9), .inl (cC, 3, .inl sg)), ((q 10), .inl (cI, 3, .inl sf))] := hD
  refine lv_iload_n hx hb dX13_assume_5 rfl (lv_at hl 1 rfl) ?_
  refine lv_iconst (v := 0) hx hb dX13_assume_6 (by decide) ?_
  refine lv_iconst (v := 2) hx hb dX13_assume_7 (by decide) ?_
  have hF := pv_new hA hS.1
  refine va_calli (va_runS (As := [.int p0, .int 0, .int 2]) (rest := []) ⟨hx, hb, hml, hown, hts⟩ (c_X13_in l hfl D _ p0 0 2) (va_cwS 3 hts (pv_gS w9_152 w9_153 w1_10 w9_154) rfl rfl rfl (by decide +kernel) ⟨Nat.le_of_ble_eq_true rfl, Nat.le_of_ble_eq_true rfl⟩) (pv_ps hE hS hF (hP.sub [] rfl) (hK.sub [] rfl) (hD.sub [] (by decide) rfl)) rfl rfl hl.1 rfl (lv_room (Nat.le_of_ble_eq_true rfl)) dX13_assume_8 ⟨Nat.le_of_ble_eq_true rfl, Nat.le_of_ble_eq_true rfl⟩) hS (fun q _ h => hF q h) hF (fun r_0 u t H1 locs1 ht hvm hw hB hz1 hk1 hS => ?_)
  refine W.widen (k := 0) (n := 0) (Nat.le_of_ble_eq_true rfl) (Nat.le_of_ble_eq_true rfl) ?_
  have hP := pv_keep hP rfl hk1
  rcases hw with ⟨rfl, a_2⟩ | ⟨rfl, a_2⟩
  · refine lv_if_eq (tgt := 21) hx hb dX13_assume_11 (by decide) (fun c_3 => absurd c_3 (by decide)) (fun _ => ?_)
    refine lv_iload_n hx hb dX13_assume_14 rfl (lv_at hl 2 rfl) ?_
    have hF := pv_new hA hS.1
    refine va_calli (va_runS (As := [.int p1]) (rest := []) ⟨hx, hb, hml, hown, hts⟩ (c_X13_isSign l hfl D _ p1) (va_cwS 1 hts (pv_gS w11_67 w11_68 w1_10 w11_69) rfl rfl rfl (by decide +kernel) ⟨Nat.le_of_ble_eq_true rfl, Nat.le_of_ble_eq_true rfl⟩) (pv_ps hE hS hF (hP.sub [] rfl) (hK.sub [] rfl) (hD.sub [] (by decide) rfl)) rfl rfl hl.1 rfl (lv_room (Nat.le_of_ble_eq_true rfl)) dX13_assume_15 ⟨Nat.le_of_ble_eq_true rfl, Nat.le_of_ble_eq_true rfl⟩) hS (fun q _ h => hF q h) hF (fun r_3 u t H1 locs1 ht hvm hw hB hz1 hk1 hS => ?_)
    refine W.widen (k := 0) (n := 0) (Nat.le_of_ble_eq_true rfl) (Nat.le_of_ble_eq_true rfl) ?_
    have hP := pv_keep hP rfl hk1
    rcases hw with ⟨rfl, a_5⟩ | ⟨rfl, a_5⟩
    · refine lv_if_ne (tgt := 27) hx hb dX13_assume_18 (by decide) (fun _ => ?_) (fun c_6 => absurd c_6 (by decide))
      refine lv_aload_n hx hb dX13_assume_27 rfl (lv_at hl 0 rfl) ?_
      refine va_get (own := RX13) (D := D) (ci := 1) (v := .ref (q 9)) (C := RX13) (T := TX13) (N := 45) hx hb hts inF13 hown hK hP 0 rfl rfl 16 (by decide) (hg w8_221 rfl) (fun _ h9 => h9) rfl dX13_assume_28 ?_
      refine lv_iload_n hx hb dX13_assume_31 rfl (lv_at hl 1 rfl) ?_
      refine va_cald hx hb hK hP 1 0 rfl rfl (pv_vin (pv_in3.mp a_2)) dX13_assume_32 ?_
      refine pv_setI 63 (hsg _ (pv_vcl (pv_in3.mp a_2))) ?_
      refine lv_bipush (v := 63) hx hb dX13_assume_33 (by decide) ?_
      refine lv_icmp_eq (tgt := 44) hx hb dX13_assume_35 (by decide) (fun _ => ?_) (fun c_7 => absurd (by decide) c_7)
      have hvr := pv_in3.mp a_2
      have hok : pv_vr p0 ∧ pv_sn p1 := ⟨hvr, a_5⟩
      have hsn : ¬ vp_nar .char p1 = 63 := by rcases a_5 with rfl | rfl | rfl <;> decide
      rcases pv_v3 hvr with rfl | rfl | rfl
      · refine lv_aload_n hx hb dX13_assume_44 rfl (lv_at hl 0 rfl) ?_
        refine va_get (own := RX13) (D := D) (ci := 1) (v := .ref (q 9)) (C := RX13) (T := TX13) (N := 45) hx hb hts inF13 hown hK hP 0 rfl rfl 16 (by decide) (hg w8_221 rfl) (fun _ h9 => h9) rfl dX13_assume_45 ?_
        refine lv_iload_n hx hb dX13_assume_48 rfl (lv_at hl 1 rfl) ?_
        refine lv_iload_n hx hb dX13_assume_49 rfl (lv_at hl 2 rfl) ?_
        refine va_cast hx hb hK hP hD hS 1 0 rfl rfl (by unfold vp_in; decide) dX13_assume_50 (fun H locs hP hD hS => ?_)
        have hP : va_P D pv_cl [(h0, .inr (1, pv_m 0 q)), ((q 9), .inl (cC, 3, .inl (upd (sg) (0 : Int32).toNatClampNeg (vp_nar .char p1)))), ((q 10), .inl (cI, 3, .inl sf))] _ := hP
        have hD : va_D A [(h0, .inr (1, pv_m 0 q)), ((q 9), .inl (cC, 3, .inl (upd (sg) (0 : Int32).toNatClampNeg (vp_nar .char p1)))), ((q 10), .inl (cI, 3, .inl sf))] := hD
        refine lv_aload_n hx hb dX13_assume_51 rfl (lv_at hl 0 rfl) ?_
        refine va_get (own := RX13) (D := D) (ci := 1) (v := .ref (q 10)) (C := RX13) (T := TX13) (N := 45) hx hb hts inF13 hown hK hP 0 rfl rfl 17 (by decide) (hg w8_222 rfl) (fun _ h9 => h9) rfl dX13_assume_52 ?_
        refine lv_iload_n hx hb dX13_assume_55 rfl (lv_at hl 1 rfl) ?_
        refine lv_aload_n hx hb dX13_assume_56 rfl (lv_at hl 0 rfl) ?_
        refine va_get (own := RX13) (D := D) (ci := 1) (v := .int 1) (C := RX13) (T := TX13) (N := 45) hx hb hts inF13 hown hK hP 0 rfl rfl 15 (by decide) (hg w8_220 rfl) (fun _ h9 => h9) rfl dX13_assume_57 ?_
        refine va_iast hx hb hK hP hD hS 2 1 rfl rfl (by unfold vp_in; decide) dX13_assume_60 (fun H locs hP hD hS => ?_)
        have hP : va_P D pv_cl [(h0, .inr (1, pv_m 0 q)), ((q 9), .inl (cC, 3, .inl (upd (sg) (0 : Int32).toNatClampNeg (vp_nar .char p1)))), ((q 10), .inl (cI, 3, .inl (upd (sf) (0 : Int32).toNatClampNeg 1)))] _ := hP
        have hD : va_D A [(h0, .inr (1, pv_m 0 q)), ((q 9), .inl (cC, 3, .inl (upd (sg) (0 : Int32).toNatClampNeg (vp_nar .char p1)))), ((q 10), .inl (cI, 3, .inl (upd (sf) (0 : Int32).toNatClampNeg 1)))] := hD
        refine lv_aload_n hx hb dX13_assume_61 rfl (lv_at hl 0 rfl) ?_
        have hF := pv_new hA hS.1
        refine va_calli (va_runV (As := []) (rest := []) ⟨hx, hb, hml, hown, hts⟩ (c_X13_knownSigns_0 l hfl D _ h0 q cC (upd (sg) (0 : Int32).toNatClampNeg (vp_nar .char p1)) (fun j h1 h2 => (pk_un h2).trans (hsg j h1)) (fun h => hsn (pk_us.symm.trans h))) (cwV 0 hts (pv_gV w11_74 w11_76 wp8_0 w1_10 w11_77) rfl rfl rfl (by decide +kernel) ⟨Nat.le_of_ble_eq_true rfl, Nat.le_of_ble_eq_true rfl⟩) (pv_pV hE hS hF (hP.sub [0, 1] rfl) (hK.sub [0] rfl) (hD.sub [0, 1] (by decide) rfl) (va_recv (ci := 1) (q0 := 0) hK hP rfl rfl)) rfl rfl hl.1 rfl (lv_room (Nat.le_of_ble_eq_true rfl)) dX13_assume_62 ⟨Nat.le_of_ble_eq_true rfl, Nat.le_of_ble_eq_true rfl⟩) hS (fun q _ h => hF q h) hF (fun r_7 u t H1 locs1 ht hvm hw hB hz1 hk1 hS => ?_)
        refine W.widen (k := 0) (n := 0) (Nat.le_of_ble_eq_true rfl) (Nat.le_of_ble_eq_true rfl) ?_
        have hP := pv_keep hP rfl hk1
        obtain rfl := hw
        refine W.widen (k := 0) (n := 0) (Nat.le_of_ble_eq_true rfl) (Nat.le_of_ble_eq_true rfl) ?_
        exact W.iret (v := 1) hx hb hr (fun t ht hW => ⟨⟨1, 0, rfl, Or.inl ⟨rfl, rfl, hok⟩, pv_m 0 q, rfl, (by rw [ht]; exact hP.sub [0] rfl), va_K.moved hW.alike (hK.sub [] rfl), hD.sub [0] (by decide) rfl⟩, hS.F ht⟩) hS.2.2 dX13_assume_65
      · refine lv_aload_n hx hb dX13_assume_44 rfl (lv_at hl 0 rfl) ?_
        refine va_get (own := RX13) (D := D) (ci := 1) (v := .ref (q 9)) (C := RX13) (T := TX13) (N := 45) hx hb hts inF13 hown hK hP 0 rfl rfl 16 (by decide) (hg w8_221 rfl) (fun _ h9 => h9) rfl dX13_assume_45 ?_
        refine lv_iload_n hx hb dX13_assume_48 rfl (lv_at hl 1 rfl) ?_
        refine lv_iload_n hx hb dX13_assume_49 rfl (lv_at hl 2 rfl) ?_
        refine va_cast hx hb hK hP hD hS 1 0 rfl rfl (by unfold vp_in; decide) dX13_assume_50 (fun H locs hP hD hS => ?_)
        have hP : va_P D pv_cl [(h0, .inr (1, pv_m 0 q)), ((q 9), .inl (cC, 3, .inl (upd (sg) (1 : Int32).toNatClampNeg (vp_nar .char p1)))), ((q 10), .inl (cI, 3, .inl sf))] _ := hP
        have hD : va_D A [(h0, .inr (1, pv_m 0 q)), ((q 9), .inl (cC, 3, .inl (upd (sg) (1 : Int32).toNatClampNeg (vp_nar .char p1)))), ((q 10), .inl (cI, 3, .inl sf))] := hD
        refine lv_aload_n hx hb dX13_assume_51 rfl (lv_at hl 0 rfl) ?_
        refine va_get (own := RX13) (D := D) (ci := 1) (v := .ref (q 10)) (C := RX13) (T := TX13) (N := 45) hx hb hts inF13 hown hK hP 0 rfl rfl 17 (by decide) (hg w8_222 rfl) (fun _ h9 => h9) rfl dX13_assume_52 ?_
        refine lv_iload_n hx hb dX13_assume_55 rfl (lv_at hl 1 rfl) ?_
        refine lv_aload_n hx hb dX13_assume_56 rfl (lv_at hl 0 rfl) ?_
        refine va_get (own := RX13) (D := D) (ci := 1) (v := .int 1) (C := RX13) (T := TX13) (N := 45) hx hb hts inF13 hown hK hP 0 rfl rfl 15 (by decide) (hg w8_220 rfl) (fun _ h9 => h9) rfl dX13_assume_57 ?_
        refine va_iast hx hb hK hP hD hS 2 1 rfl rfl (by unfold vp_in; decide) dX13_assume_60 (fun H locs hP hD hS => ?_)
        have hP : va_P D pv_cl [(h0, .inr (1, pv_m 0 q)), ((q 9), .inl (cC, 3, .inl (upd (sg) (1 : Int32).toNatClampNeg (vp_nar .char p1)))), ((q 10), .inl (cI, 3, .inl (upd (sf) (1 : Int32).toNatClampNeg 1)))] _ := hP
        have hD : va_D A [(h0, .inr (1, pv_m 0 q)), ((q 9), .inl (cC, 3, .inl (upd (sg) (1 : Int32).toNatClampNeg (vp_nar .char p1)))), ((q 10), .inl (cI, 3, .inl (upd (sf) (1 : Int32).toNatClampNeg 1)))] := hD
        refine lv_aload_n hx hb dX13_assume_61 rfl (lv_at hl 0 rfl) ?_
        have hF := pv_new hA hS.1
        refine va_calli (va_runV (As := []) (rest := []) ⟨hx, hb, hml, hown, hts⟩ (c_X13_knownSigns_1 l hfl D _ h0 q cC (upd (sg) (1 : Int32).toNatClampNeg (vp_nar .char p1)) (fun j h1 h2 => (pk_un h2).trans (hsg j h1)) (fun h => hsn (pk_us.symm.trans h))) (cwV 0 hts (pv_gV w11_74 w11_76 wp8_0 w1_10 w11_77) rfl rfl rfl (by decide +kernel) ⟨Nat.le_of_ble_eq_true rfl, Nat.le_of_ble_eq_true rfl⟩) (pv_pV hE hS hF (hP.sub [0, 1] rfl) (hK.sub [0] rfl) (hD.sub [0, 1] (by decide) rfl) (va_recv (ci := 1) (q0 := 0) hK hP rfl rfl)) rfl rfl hl.1 rfl (lv_room (Nat.le_of_ble_eq_true rfl)) dX13_assume_62 ⟨Nat.le_of_ble_eq_true rfl, Nat.le_of_ble_eq_true rfl⟩) hS (fun q _ h => hF q h) hF (fun r_8 u t H1 locs1 ht hvm hw hB hz1 hk1 hS => ?_)
        refine W.widen (k := 0) (n := 0) (Nat.le_of_ble_eq_true rfl) (Nat.le_of_ble_eq_true rfl) ?_
        have hP := pv_keep hP rfl hk1
        obtain rfl := hw
        refine W.widen (k := 0) (n := 0) (Nat.le_of_ble_eq_true rfl) (Nat.le_of_ble_eq_true rfl) ?_
        exact W.iret (v := 1) hx hb hr (fun t ht hW => ⟨⟨1, 0, rfl, Or.inl ⟨rfl, rfl, hok⟩, pv_m 0 q, rfl, (by rw [ht]; exact hP.sub [0] rfl), va_K.moved hW.alike (hK.sub [] rfl), hD.sub [0] (by decide) rfl⟩, hS.F ht⟩) hS.2.2 dX13_assume_65
      · refine lv_aload_n hx hb dX13_assume_44 rfl (lv_at hl 0 rfl) ?_
        refine va_get (own := RX13) (D := D) (ci := 1) (v := .ref (q 9)) (C := RX13) (T := TX13) (N := 45) hx hb hts inF13 hown hK hP 0 rfl rfl 16 (by decide) (hg w8_221 rfl) (fun _ h9 => h9) rfl dX13_assume_45 ?_
        refine lv_iload_n hx hb dX13_assume_48 rfl (lv_at hl 1 rfl) ?_
        refine lv_iload_n hx hb dX13_assume_49 rfl (lv_at hl 2 rfl) ?_
        refine va_cast hx hb hK hP hD hS 1 0 rfl rfl (by unfold vp_in; decide) dX13_assume_50 (fun H locs hP hD hS => ?_)
        have hP : va_P D pv_cl [(h0, .inr (1, pv_m 0 q)), ((q 9), .inl (cC, 3, .inl (upd (sg) (2 : Int32).toNatClampNeg (vp_nar .char p1)))), ((q 10), .inl (cI, 3, .inl sf))] _ := hP
        have hD : va_D A [(h0, .inr (1, pv_m 0 q)), ((q 9), .inl (cC, 3, .inl (upd (sg) (2 : Int32).toNatClampNeg (vp_nar .char p1)))), ((q 10), .inl (cI, 3, .inl sf))] := hD
        refine lv_aload_n hx hb dX13_assume_51 rfl (lv_at hl 0 rfl) ?_
        refine va_get (own := RX13) (D := D) (ci := 1) (v := .ref (q 10)) (C := RX13) (T := TX13) (N := 45) hx hb hts inF13 hown hK hP 0 rfl rfl 17 (by decide) (hg w8_222 rfl) (fun _ h9 => h9) rfl dX13_assume_52 ?_
        refine lv_iload_n hx hb dX13_assume_55 rfl (lv_at hl 1 rfl) ?_
        refine lv_aload_n hx hb dX13_assume_56 rfl (lv_at hl 0 rfl) ?_
        refine va_get (own := RX13) (D := D) (ci := 1) (v := .int 1) (C := RX13) (T := TX13) (N := 45) hx hb hts inF13 hown hK hP 0 rfl rfl 15 (by decide) (hg w8_220 rfl) (fun _ h9 => h9) rfl dX13_assume_57 ?_
        refine va_iast hx hb hK hP hD hS 2 1 rfl rfl (by unfold vp_in; decide) dX13_assume_60 (fun H locs hP hD hS => ?_)
        have hP : va_P D pv_cl [(h0, .inr (1, pv_m 0 q)), ((q 9), .inl (cC, 3, .inl (upd (sg) (2 : Int32).toNatClampNeg (vp_nar .char p1)))), ((q 10), .inl (cI, 3, .inl (upd (sf) (2 : Int32).toNatClampNeg 1)))] _ := hP
        have hD : va_D A [(h0, .inr (1, pv_m 0 q)), ((q 9), .inl (cC, 3, .inl (upd (sg) (2 : Int32).toNatClampNeg (vp_nar .char p1)))), ((q 10), .inl (cI, 3, .inl (upd (sf) (2 : Int32).toNatClampNeg 1)))] := hD
        refine lv_aload_n hx hb dX13_assume_61 rfl (lv_at hl 0 rfl) ?_
        have hF := pv_new hA hS.1
        refine va_calli (va_runV (As := []) (rest := []) ⟨hx, hb, hml, hown, hts⟩ (c_X13_knownSigns_2 l hfl D _ h0 q cC (upd (sg) (2 : Int32).toNatClampNeg (vp_nar .char p1)) (fun j h1 h2 => (pk_un h2).trans (hsg j h1)) (fun h => hsn (pk_us.symm.trans h))) (cwV 0 hts (pv_gV w11_74 w11_76 wp8_0 w1_10 w11_77) rfl rfl rfl (by decide +kernel) ⟨Nat.le_of_ble_eq_true rfl, Nat.le_of_ble_eq_true rfl⟩) (pv_pV hE hS hF (hP.sub [0, 1] rfl) (hK.sub [0] rfl) (hD.sub [0, 1] (by decide) rfl) (va_recv (ci := 1) (q0 := 0) hK hP rfl rfl)) rfl rfl hl.1 rfl (lv_room (Nat.le_of_ble_eq_true rfl)) dX13_assume_62 ⟨Nat.le_of_ble_eq_true rfl, Nat.le_of_ble_eq_true rfl⟩) hS (fun q _ h => hF q h) hF (fun r_9 u t H1 locs1 ht hvm hw hB hz1 hk1 hS => ?_)
        refine W.widen (k := 0) (n := 0) (Nat.le_of_ble_eq_true rfl) (Nat.le_of_ble_eq_true rfl) ?_
        have hP := pv_keep hP rfl hk1
        obtain rfl := hw
        refine W.widen (k := 0) (n := 0) (Nat.le_of_ble_eq_true rfl) (Nat.le_of_ble_eq_true rfl) ?_
        exact W.iret (v := 1) hx hb hr (fun t ht hW => ⟨⟨1, 0, rfl, Or.inl ⟨rfl, rfl, hok⟩, pv_m 0 q, rfl, (by rw [ht]; exact hP.sub [0] rfl), va_K.moved hW.alike (hK.sub [] rfl), hD.sub [0] (by decide) rfl⟩, hS.F ht⟩) hS.2.2 dX13_assume_65
    · refine lv_if_ne (tgt := 27) hx hb dX13_assume_18 (by decide) (fun c_11 => absurd (by decide) c_11) (fun _ => ?_)
      refine lv_aload_n hx hb dX13_assume_21 rfl (lv_at hl 0 rfl) ?_
      refine lv_iconst (v := 1) hx hb dX13_assume_22 (by decide) ?_
      have hF := va_free (wc := [(h0, .inr (1, pv_m 0 q))]) hD hS hA [0] rfl
      refine va_calli (va_runV (As := [.int 1]) (rest := []) ⟨hx, hb, hml, hown, hts⟩ (c_X13_fails l hfl D _ h0 q 1) (cwV 1 hts (pv_gV w9_113 w9_115 wp5_9 w1_10 w9_116) rfl rfl rfl (by decide +kernel) ⟨Nat.le_of_ble_eq_true rfl, Nat.le_of_ble_eq_true rfl⟩) (pv_pV hE hS hF (hP.sub [0] rfl) (hK.sub [] rfl) (hD.sub [0] (by decide) rfl) (va_recv (ci := 1) (q0 := 0) hK hP rfl rfl)) rfl rfl hl.1 rfl (lv_room (Nat.le_of_ble_eq_true rfl)) dX13_assume_23 ⟨Nat.le_of_ble_eq_true rfl, Nat.le_of_ble_eq_true rfl⟩) hS (fun q _ h => hF q h) hF (fun r_11 u t H1 locs1 ht hvm hw hB hz1 hk1 hS => ?_)
      refine W.widen (k := 0) (n := 0) (Nat.le_of_ble_eq_true rfl) (Nat.le_of_ble_eq_true rfl) ?_
      obtain rfl := hw
      obtain ⟨hP1, hK1, hD1⟩ := hB
      rw [ht] at hP1
      have hK1 := va_K.moved hvm.symm hK1
      obtain ⟨hP, hD⟩ := va_join (wr := [((q 9), .inl (cC, 3, .inl sg)), ((q 10), .inl (cI, 3, .inl sf))]) (w1 := [(h0, .inr (1, pv_m 1 q))]) hP hD [0] [1, 2] rfl rfl (by decide) (by decide) hk1 hF hP1 hD1
      have hP : va_P D pv_cl [((q 9), .inl (cC, 3, .inl sg)), ((q 10), .inl (cI, 3, .inl sf)), (h0, .inr (1, pv_m 1 q))] _ := hP
      have hD : va_D A [((q 9), .inl (cC, 3, .inl sg)), ((q 10), .inl (cI, 3, .inl sf)), (h0, .inr (1, pv_m 1 q))] := hD
      refine W.widen (k := 0) (n := 0) (Nat.le_of_ble_eq_true rfl) (Nat.le_of_ble_eq_true rfl) ?_
      exact W.iret (v := 0) hx hb hr (fun t ht hW => ⟨⟨0, 1, rfl, Or.inr ⟨rfl, fun h => a_5 h.2⟩, pv_m 1 q, rfl, (by rw [ht]; exact hP.sub [2] rfl), va_K.moved hW.alike (hK.sub [] rfl), hD.sub [2] (by decide) rfl⟩, hS.F ht⟩) hS.2.2 dX13_assume_26
  · refine lv_if_eq (tgt := 21) hx hb dX13_assume_11 (by decide) (fun _ => ?_) (fun c_13 => absurd (by decide) c_13)
    refine lv_aload_n hx hb dX13_assume_21 rfl (lv_at hl 0 rfl) ?_
    refine lv_iconst (v := 1) hx hb dX13_assume_22 (by decide) ?_
    have hF := va_free (wc := [(h0, .inr (1, pv_m 0 q))]) hD hS hA [0] rfl
    refine va_calli (va_runV (As := [.int 1]) (rest := []) ⟨hx, hb, hml, hown, hts⟩ (c_X13_fails l hfl D _ h0 q 1) (cwV 1 hts (pv_gV w9_113 w9_115 wp5_9 w1_10 w9_116) rfl rfl rfl (by decide +kernel) ⟨Nat.le_of_ble_eq_true rfl, Nat.le_of_ble_eq_true rfl⟩) (pv_pV hE hS hF (hP.sub [0] rfl) (hK.sub [] rfl) (hD.sub [0] (by decide) rfl) (va_recv (ci := 1) (q0 := 0) hK hP rfl rfl)) rfl rfl hl.1 rfl (lv_room (Nat.le_of_ble_eq_true rfl)) dX13_assume_23 ⟨Nat.le_of_ble_eq_true rfl, Nat.le_of_ble_eq_true rfl⟩) hS (fun q _ h => hF q h) hF (fun r_13 u t H1 locs1 ht hvm hw hB hz1 hk1 hS => ?_)
    refine W.widen (k := 0) (n := 0) (Nat.le_of_ble_eq_true rfl) (Nat.le_of_ble_eq_true rfl) ?_
    obtain rfl := hw
    obtain ⟨hP1, hK1, hD1⟩ := hB
    rw [ht] at hP1
    have hK1 := va_K.moved hvm.symm hK1
    obtain ⟨hP, hD⟩ := va_join (wr := [((q 9), .inl (cC, 3, .inl sg)), ((q 10), .inl (cI, 3, .inl sf))]) (w1 := [(h0, .inr (1, pv_m 1 q))]) hP hD [0] [1, 2] rfl rfl (by decide) (by decide) hk1 hF hP1 hD1
    have hP : va_P D pv_cl [((q 9), .inl (cC, 3, .inl sg)), ((q 10), .inl (cI, 3, .inl sf)), (h0, .inr (1, pv_m 1 q))] _ := hP
    have hD : va_D A [((q 9), .inl (cC, 3, .inl sg)), ((q 10), .inl (cI, 3, .inl sf)), (h0, .inr (1, pv_m 1 q))] := hD
    refine W.widen (k := 0) (n := 0) (Nat.le_of_ble_eq_true rfl) (Nat.le_of_ble_eq_true rfl) ?_
    exact W.iret (v := 0) hx hb hr (fun t ht hW => ⟨⟨0, 1, rfl, Or.inr ⟨rfl, fun h => a_2 (pv_in3.mpr h.1)⟩, pv_m 1 q, rfl, (by rw [ht]; exact hP.sub [2] rfl), va_K.moved hW.alike (hK.sub [] rfl), hD.sub [2] (by decide) rfl⟩, hS.F ht⟩) hS.2.2 dX13_assume_26

