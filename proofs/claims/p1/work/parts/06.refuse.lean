theorem dX11_addedAt_0 : decode cX11_addedAt 0 = .ok (.iload_n 1, 1) := by decide +kernel
theorem dX11_addedAt_1 : decode cX11_addedAt 1 = .ok (.ifCond .lt 29, 3) := by decide +kernel
theorem dX11_addedAt_30 : decode cX11_addedAt 30 = .ok (.aconst_null, 1) := by decide +kernel
theorem dX11_addedAt_31 : decode cX11_addedAt 31 = .ok (.areturn, 1) := by decide +kernel
theorem dX11_addedAt_4 : decode cX11_addedAt 4 = .ok (.iload_n 1, 1) := by decide +kernel
theorem dX11_addedAt_5 : decode cX11_addedAt 5 = .ok (.aload_n 0, 1) := by decide +kernel
theorem dX11_addedAt_6 : decode cX11_addedAt 6 = .ok (.getfield 29, 3) := by decide +kernel
theorem w2_41 : (Jvm.Cond.fieldLink "Polyforge" (29 : Nat) "Polyforge" "idealCount" "I") ∈ lw_tbl := pv_t2 (pv_mg 41 rfl)
theorem dX11_addedAt_9 : decode cX11_addedAt 9 = .ok (.if_icmp .ge 21, 3) := by decide +kernel
set_option maxHeartbeats 4000000 in
set_option maxRecDepth 100000 in
/-- addedAt(i) on a fresh object: null -/
theorem c_X11_addedAt (l : Launch) (hfl : l.stackTraces = false) (D : va_G) (sz : Nat) (h0 : Nat) (q : Nat → Nat) (p0 : Int32) : Met l yX11_addedAt (Cond.code yX11_addedAt cX11_addedAt 2 (some (.object "Polyforge$Ideal")) :: pv_W) ({ frames := 0, cells := 0, slots := 0, locals := 0 } : Room) (va_Pc [.ref h0, .int p0] (pv_P D [] [(h0, .inr (0, [.ref (q 0), .int 0, .int 108, .ref (q 1), .int 0, .ref (q 2), .int 0, .ref (q 3), .ref (q 4), .int 1, .ref (q 5), .ref (q 6), .ref (q 7), .ref (q 8), .ref (q 9)]))] (va_A [] sz) sz)) (va_Qq (fun r (_ : Unit) => r = none) (fun _ _ => True) (va_A [] sz)) 0 0 (va_A [] sz) := by
  refine Met.ofW (cc := cX11_addedAt) (maxL := 2) (ret := (some (.object "Polyforge$Ideal"))) (by decide) rfl ?_
  intro p e s m args below meth c s₁ B hml hv
  obtain ⟨rfl, hsz, hE, hP, hK, hD0⟩ := hv
  have hx := B.exec
  have hb := B.bytes
  have hr := B.returns
  have hts := fun (w : Cond) (h : w ∈ pv_W) => atoms_spec (ws := Cond.code yX11_addedAt cX11_addedAt 2 (some (.object "Polyforge$Ideal")) :: pv_W) B.pre w (List.mem_cons_of_mem _ h)
  have hg := fun {w : Cond} (h : w ∈ lw_tbl) (g : goodWord w = true) => hts w (pv_in h g)
  have hown : s.vm.findClass RX11 = some m.cls := findClass_of_methodNamed B.named
  have hlocks := B.notSynchronized
  subst hsz
  have hD := hD0
  generalize hAe : va_A [] s.heap.size = A at hE ⊢
  have hA : ∀ q : Nat, s.heap.size ≤ q → A q := fun q h => by rw [← hAe]; exact Or.inr h
  have hS : va_S A s.heap s.heap [] := va_S.rf
  have hP : va_P D pv_cl [(h0, .inr (0, [.ref (q 0), .int 0, .int 108, .ref (q 1), .int 0, .ref (q 2), .int 0, .ref (q 3), .ref (q 4), .int 1, .ref (q 5), .ref (q 6), .ref (q 7), .ref (q 8), .ref (q 9)]))] s.heap := hP
  have hl := lv_entry ([.ref h0, .int p0]) (n := 2) (Nat.le_of_ble_eq_true rfl)
  rw [lg_entry_eq]
  generalize (lg_sl ([.ref h0, .int p0]) ++ List.replicate (2 - (lg_sl ([.ref h0, .int p0])).length) Slot.unset).toArray = ls at hl ⊢
  have hl : lv_has ls 2 [(0, .ref h0), (1, .int p0)] := hl
  refine lv_iload_n hx hb dX11_addedAt_0 rfl (lv_at hl 1 rfl) ?_
  refine lv_if_lt (tgt := 30) hx hb dX11_addedAt_1 (by decide) (fun c_1 => ?_) (fun c_1 => ?_)
  · refine lv_null hx hb dX11_addedAt_30 ?_
    refine W.widen (k := 0) (n := 0) (Nat.le_of_ble_eq_true rfl) (Nat.le_of_ble_eq_true rfl) ?_
    exact W.aret (v := .null) hx hb hr (Or.inl ⟨_, rfl⟩) (Or.inl rfl) (fun t ht hW => ⟨⟨none, (), rfl, rfl, trivial⟩, hS.F ht⟩) hS.2.2 dX11_addedAt_31
  · refine lv_iload_n hx hb dX11_addedAt_4 rfl (lv_at hl 1 rfl) ?_
    refine lv_aload_n hx hb dX11_addedAt_5 rfl (lv_at hl 0 rfl) ?_
    refine va_get (own := RX11) (D := D) (ci := 0) (v := .int 0) (C := RX11) (T := TX11) (N := 15) hx hb hts inF11 hown hK hP 0 rfl rfl 4 (by decide) (hg w2_41 rfl) (fun _ h9 => h9) rfl dX11_addedAt_6 ?_
    refine lv_icmp_ge (tgt := 30) hx hb dX11_addedAt_9 (by decide) (fun c_2 => ?_) (fun c_2 => absurd (Int32.not_lt.mp c_1) c_2)
    refine lv_null hx hb dX11_addedAt_30 ?_
    refine W.widen (k := 0) (n := 0) (Nat.le_of_ble_eq_true rfl) (Nat.le_of_ble_eq_true rfl) ?_
    exact W.aret (v := .null) hx hb hr (Or.inl ⟨_, rfl⟩) (Or.inl rfl) (fun t ht hW => ⟨⟨none, (), rfl, rfl, trivial⟩, hS.F ht⟩) hS.2.2 dX11_addedAt_31

theorem dX11_idealAt_0 : decode cX11_idealAt 0 = .ok (.aload_n 0, 1) := by decide +kernel
theorem dX11_idealAt_1 : decode cX11_idealAt 1 = .ok (.iload_n 1, 1) := by decide +kernel
theorem dX11_idealAt_2 : decode cX11_idealAt 2 = .ok (.invokevirtual 438, 3) := by decide +kernel
theorem w3_11 : (Jvm.Cond.methodLink "Polyforge" (438 : Nat) ({ cls := "Polyforge", name := "addedAt", desc := "(I)LPolyforge$Ideal;" } : Jvm.MethodName)) ∈ lw_tbl := pv_t3 (pv_mg 11 rfl)
theorem w3_14 : (Jvm.Cond.code ({ cls := "Polyforge", name := "addedAt", desc := "(I)LPolyforge$Ideal;" } : Jvm.MethodName) prog_1_method_76_code (2 : Nat) (Option.some (Jvm.ClassFile.FieldType.object "Polyforge$Ideal"))) ∈ lw_tbl := pv_t3 (pv_mg 14 rfl)
theorem wp1_12 : Cond.selects "Polyforge" ⟨"Polyforge", "addedAt", "(I)LPolyforge$Ideal;"⟩ ⟨"Polyforge", "addedAt", "(I)LPolyforge$Ideal;"⟩ ∈ lw_tbl := pv_mg 12 rfl
theorem w3_13 : (Jvm.Cond.instanceMethod ({ cls := "Polyforge", name := "addedAt", desc := "(I)LPolyforge$Ideal;" } : Jvm.MethodName)) ∈ lw_tbl := pv_t3 (pv_mg 13 rfl)
theorem dX11_idealAt_5 : decode cX11_idealAt 5 = .ok (.astore_n 2, 1) := by decide +kernel
theorem dX11_idealAt_6 : decode cX11_idealAt 6 = .ok (.aload_n 2, 1) := by decide +kernel
theorem dX11_idealAt_7 : decode cX11_idealAt 7 = .ok (.ifnonnull 14, 3) := by decide +kernel
theorem dX11_idealAt_10 : decode cX11_idealAt 10 = .ok (.new 297, 3) := by decide +kernel
theorem dX11_idealAt_13 : decode cX11_idealAt 13 = .ok (.dup, 1) := by decide +kernel
theorem dX11_idealAt_14 : decode cX11_idealAt 14 = .ok (.ldc_w 492, 3) := by decide +kernel
theorem dX11_idealAt_17 : decode cX11_idealAt 17 = .ok (.invokespecial 301, 3) := by decide +kernel
theorem dX11_idealAt_20 : decode cX11_idealAt 20 = .ok (.athrow, 1) := by decide +kernel
theorem vx_at_301_g : ∀ w ∈ (pv_xs RX11 301 "java/util/NoSuchElementException" 13 prog_32_method_4_code "java/lang/RuntimeException" ["java/lang/Exception"]).filter goodWord, w ∈ lw_tbl := by decide +kernel
theorem vx_at_301_b : ∀ w ∈ (pv_xs RX11 301 "java/util/NoSuchElementException" 13 prog_32_method_4_code "java/lang/RuntimeException" ["java/lang/Exception"]).filter (fun w => !goodWord w), w ∈ pv_bw := by decide +kernel
theorem vx_at_301_t : ∀ w ∈ Cond.classLink RX11 297 "java/util/NoSuchElementException" :: Cond.initialized "java/util/NoSuchElementException" :: pv_xs RX11 301 "java/util/NoSuchElementException" 13 prog_32_method_4_code "java/lang/RuntimeException" ["java/lang/Exception"], vx_ot w = true := by decide +kernel
theorem nse_x0 : decode prog_32_method_4_code 0 = .ok (.aload_n 0, 1) := by decide +kernel
theorem nse_x1 : decode prog_32_method_4_code 1 = .ok (.aload_n 1, 1) := by decide +kernel
theorem nse_x2 : decode prog_32_method_4_code 2 = .ok (.invokespecial 13, 3) := by decide +kernel
theorem nse_x5 : decode prog_32_method_4_code 5 = .ok (.return_, 1) := by decide +kernel
theorem w6_48 : (Jvm.Cond.classLink "Polyforge" (297 : Nat) "java/util/NoSuchElementException") ∈ lw_tbl := pv_t6 (pv_mg 48 rfl)
theorem w1_25 : (Jvm.Cond.initialized "java/util/NoSuchElementException") ∈ lw_tbl := pv_t1 (pv_mg 25 rfl)
set_option maxHeartbeats 4000000 in
set_option maxRecDepth 100000 in
/-- idealAt(i) on a fresh object: throws -/
theorem c_X11_idealAt (l : Launch) (hfl : l.stackTraces = false) (D : va_G) (sz : Nat) (h0 : Nat) (q : Nat → Nat) (p0 : Int32) : vx_Met l yX11_idealAt (Cond.code yX11_idealAt cX11_idealAt 3 (some (.object "Polyforge$Ideal")) :: pv_W) ({ frames := 7, cells := 1, slots := 6, locals := 100 } : Room) (va_Pc [.ref h0, .int p0] (pv_P D [] [(h0, .inr (0, [.ref (q 0), .int 0, .int 108, .ref (q 1), .int 0, .ref (q 2), .int 0, .ref (q 3), .ref (q 4), .int 1, .ref (q 5), .ref (q 6), .ref (q 7), .ref (q 8), .ref (q 9)]))] (va_A [] sz) sz)) (fun _ _ _ _ => False) (vx_X (fun _ : Unit => True) (fun E _ _ => E = "java/util/NoSuchElementException") (va_A [] sz)) 1 6 (va_A [] sz) := by
  refine vx_ofW (cc := cX11_idealAt) (maxL := 3) (ret := (some (.object "Polyforge$Ideal"))) (by decide) rfl ?_
  intro p e s m args below meth c s₁ B hml hnt hv
  obtain ⟨rfl, hsz, hE, hP, hK, hD0⟩ := hv
  have hx := B.exec
  have hb := B.bytes
  have hr := B.returns
  have hts := fun (w : Cond) (h : w ∈ pv_W) => atoms_spec (ws := Cond.code yX11_idealAt cX11_idealAt 3 (some (.object "Polyforge$Ideal")) :: pv_W) B.pre w (List.mem_cons_of_mem _ h)
  have hg := fun {w : Cond} (h : w ∈ lw_tbl) (g : goodWord w = true) => hts w (pv_in h g)
  have hown : s.vm.findClass RX11 = some m.cls := findClass_of_methodNamed B.named
  have hlocks := B.notSynchronized
  subst hsz
  have hD := hD0
  generalize hAe : va_A [] s.heap.size = A at hE ⊢
  have hA : ∀ q : Nat, s.heap.size ≤ q → A q := fun q h => by rw [← hAe]; exact Or.inr h
  have hS : va_S A s.heap s.heap [] := va_S.rf
  have hP : va_P D pv_cl [(h0, .inr (0, [.ref (q 0), .int 0, .int 108, .ref (q 1), .int 0, .ref (q 2), .int 0, .ref (q 3), .ref (q 4), .int 1, .ref (q 5), .ref (q 6), .ref (q 7), .ref (q 8), .ref (q 9)]))] s.heap := hP
  have hl := lv_entry ([.ref h0, .int p0]) (n := 3) (Nat.le_of_ble_eq_true rfl)
  rw [lg_entry_eq]
  generalize (lg_sl ([.ref h0, .int p0]) ++ List.replicate (3 - (lg_sl ([.ref h0, .int p0])).length) Slot.unset).toArray = ls at hl ⊢
  have hl : lv_has ls 3 [(0, .ref h0), (1, .int p0)] := hl
  refine lv_aload_n hx hb dX11_idealAt_0 rfl (lv_at hl 0 rfl) ?_
  refine lv_iload_n hx hb dX11_idealAt_1 rfl (lv_at hl 1 rfl) ?_
  have hF := pv_new hA hS.1
  refine va_callq (va_runV (As := [.int p0]) (rest := []) ⟨hx, hb, hml, hown, hts⟩ (c_X11_addedAt l hfl D _ h0 q p0) (cwV 1 hts (pv_gV w3_11 w3_13 wp1_12 w1_1 w3_14) rfl rfl rfl (by decide +kernel) ⟨Nat.le_of_ble_eq_true rfl, Nat.le_of_ble_eq_true rfl⟩) (pv_pV hE hS hF (hP.sub [0] rfl) (hK.sub [] rfl) (hD.sub [0] (by decide) rfl) (va_recv (ci := 0) (q0 := 0) hK hP rfl rfl)) rfl rfl hl.1 rfl (lv_room (Nat.le_of_ble_eq_true rfl)) dX11_idealAt_2 ⟨Nat.le_of_ble_eq_true rfl, Nat.le_of_ble_eq_true rfl⟩) hS (fun q _ h => hF q h) hF (fun r_0 u t H1 locs1 ht hvm hw hB hz1 hk1 hS => ?_)
  refine W.widen (k := 0) (n := 0) (Nat.le_of_ble_eq_true rfl) (Nat.le_of_ble_eq_true rfl) ?_
  have hP := pv_keep hP rfl hk1
  obtain rfl := hw
  refine lv_astore_nN (lv' := [(2, .null), (0, .ref h0), (1, .int p0)]) hx hb dX11_idealAt_5 rfl hl (by decide) rfl (fun ls hl => ?_)
  refine lv_aload_nN hx hb dX11_idealAt_6 rfl (lv_at hl 0 rfl) ?_
  refine lv_ifnonnullN hx hb dX11_idealAt_7 ?_
  obtain ⟨sa, hsa⟩ := hE.2.2.2.1 (492, "no such ideal") (by decide)
  exact pv_throwX (own := RX11) (cls := "java/util/NoSuchElementException") (sup := "java/lang/RuntimeException") (r := ["java/lang/Exception"]) hx hb hfl nse_x0 nse_x1 nse_x2 nse_x5 hown rfl (by decide) (hg w6_48 rfl) (hg w1_25 rfl) hsa (vx_hat (fun w h => hts w (pv_in (vx_at_301_g w h) (List.mem_filter.mp h).2)) vx_at_301_b (fun w h => va_Nw.use (pv_kind_on (List.mem_filter.mp h).2) (hE.2.2.1 w h))) vx_at_301_t hE.1 hE.2.1 hS (hl.1.trans hml.symm) dX11_idealAt_10 dX11_idealAt_13 dX11_idealAt_14 dX11_idealAt_17 dX11_idealAt_20 (fun x h9 => absurd (hnt x h9) id) (Nat.le_of_ble_eq_true rfl) (Nat.le_of_ble_eq_true rfl) (Nat.le_of_ble_eq_true rfl) (Nat.le_of_ble_eq_true rfl) hlocks (fun t h1 h2 h3 => ⟨(), trivial, rfl, Nat.le_trans hS.1 h2, fun q h4 h5 => (h3 q (Nat.lt_of_lt_of_le h4 hS.1)).trans (hS.2.1 q h4 h5)⟩) hS.2.2 (Nat.le_of_ble_eq_true rfl) (Nat.le_of_ble_eq_true rfl)

theorem dX11_subtract_0 : decode cX11_subtract 0 = .ok (.aload_n 0, 1) := by decide +kernel
theorem dX11_subtract_1 : decode cX11_subtract 1 = .ok (.iload_n 1, 1) := by decide +kernel
theorem dX11_subtract_2 : decode cX11_subtract 2 = .ok (.invokevirtual 103, 3) := by decide +kernel
set_option maxHeartbeats 4000000 in
set_option maxRecDepth 100000 in
/-- subtract on a fresh object: throws -/
theorem c_X11_subtract (l : Launch) (hfl : l.stackTraces = false) (D : va_G) (sz : Nat) (h0 : Nat) (q : Nat → Nat) (p0 p1 : Int32) : vx_Met l yX11_subtract (Cond.code yX11_subtract cX11_subtract 5 (some .int) :: pv_W) ({ frames := 8, cells := 1, slots := 6, locals := 122 } : Room) (va_Pc [.ref h0, .int p0, .int p1] (pv_P D [] [(h0, .inr (0, [.ref (q 0), .int 0, .int 108, .ref (q 1), .int 0, .ref (q 2), .int 0, .ref (q 3), .ref (q 4), .int 1, .ref (q 5), .ref (q 6), .ref (q 7), .ref (q 8), .ref (q 9)]))] (va_A [] sz) sz)) (fun _ _ _ _ => False) (vx_X (fun _ : Unit => True) (fun E _ _ => E = "java/lang/IndexOutOfBoundsException") (va_A [] sz)) 1 6 (va_A [] sz) := by
  refine vx_ofW (cc := cX11_subtract) (maxL := 5) (ret := (some .int)) (by decide) rfl ?_
  intro p e s m args below meth c s₁ B hml hnt hv
  obtain ⟨rfl, hsz, hE, hP, hK, hD0⟩ := hv
  have hx := B.exec
  have hb := B.bytes
  have hr := B.returns
  have hts := fun (w : Cond) (h : w ∈ pv_W) => atoms_spec (ws := Cond.code yX11_subtract cX11_subtract 5 (some .int) :: pv_W) B.pre w (List.mem_cons_of_mem _ h)
  have hg := fun {w : Cond} (h : w ∈ lw_tbl) (g : goodWord w = true) => hts w (pv_in h g)
  have hown : s.vm.findClass RX11 = some m.cls := findClass_of_methodNamed B.named
  have hlocks := B.notSynchronized
  subst hsz
  have hD := hD0
  generalize hAe : va_A [] s.heap.size = A at hE ⊢
  have hA : ∀ q : Nat, s.heap.size ≤ q → A q := fun q h => by rw [← hAe]; exact Or.inr h
  have hS : va_S A s.heap s.heap [] := va_S.rf
  have hP : va_P D pv_cl [(h0, .inr (0, [.ref (q 0), .int 0, .int 108, .ref (q 1), .int 0, .ref (q 2), .int 0, .ref (q 3), .ref (q 4), .int 1, .ref (q 5), .ref (q 6), .ref (q 7), .ref (q 8), .ref (q 9)]))] s.heap := hP
  have hl := lv_entry ([.ref h0, .int p0, .int p1]) (n := 5) (Nat.le_of_ble_eq_true rfl)
  rw [lg_entry_eq]
  generalize (lg_sl ([.ref h0, .int p0, .int p1]) ++ List.replicate (5 - (lg_sl ([.ref h0, .int p0, .int p1])).length) Slot.unset).toArray = ls at hl ⊢
  have hl : lv_has ls 5 [(0, .ref h0), (1, .int p0), (2, .int p1)] := hl
  refine lv_aload_n hx hb dX11_subtract_0 rfl (lv_at hl 0 rfl) ?_
  refine lv_iload_n hx hb dX11_subtract_1 rfl (lv_at hl 1 rfl) ?_
  have hF := pv_new hA hS.1
  refine pv_thrown (vx_runV (As := [.int p0]) (rest := []) ⟨hx, hb, hml, hown, hts⟩ (c_X11_polynomialAt l hfl D _ h0 q p0) (cwV 1 hts (pv_gV w5_112 w5_114 wp3_13 w1_1 w5_115) rfl rfl rfl (by decide +kernel) ⟨Nat.le_of_ble_eq_true rfl, Nat.le_of_ble_eq_true rfl⟩) (pv_pV hE hS hF (hP.sub [0] rfl) (hK.sub [] rfl) (hD.sub [0] (by decide) rfl) (va_recv (ci := 0) (q0 := 0) hK hP rfl rfl)) rfl rfl hl.1 rfl (lv_room (Nat.le_of_ble_eq_true rfl)) dX11_subtract_2 ⟨Nat.le_of_ble_eq_true rfl, Nat.le_of_ble_eq_true rfl⟩) (fun _ _ _ h => h) hS hF hF (fun E ce q9 u t H1 locs1 ht hvm hpx hbx hz1 hk1 hS hce hcv hcl => ?_)
  exact vx_out (fun x h9 => absurd (hnt x h9) id) hlocks hce hcv hcl (fun t ht hvm => ⟨(), trivial, hbx, hS.F ht⟩) hS.2.2 (Nat.le_of_ble_eq_true rfl) (Nat.le_of_ble_eq_true rfl)

theorem dX11_multiply_0 : decode cX11_multiply 0 = .ok (.aload_n 0, 1) := by decide +kernel
theorem dX11_multiply_1 : decode cX11_multiply 1 = .ok (.iload_n 1, 1) := by decide +kernel
theorem dX11_multiply_2 : decode cX11_multiply 2 = .ok (.invokevirtual 103, 3) := by decide +kernel
set_option maxHeartbeats 4000000 in
set_option maxRecDepth 100000 in
/-- multiply on a fresh object: throws -/
theorem c_X11_multiply (l : Launch) (hfl : l.stackTraces = false) (D : va_G) (sz : Nat) (h0 : Nat) (q : Nat → Nat) (p0 p1 : Int32) : vx_Met l yX11_multiply (Cond.code yX11_multiply cX11_multiply 5 (some .int) :: pv_W) ({ frames := 8, cells := 1, slots := 6, locals := 122 } : Room) (va_Pc [.ref h0, .int p0, .int p1] (pv_P D [] [(h0, .inr (0, [.ref (q 0), .int 0, .int 108, .ref (q 1), .int 0, .ref (q 2), .int 0, .ref (q 3), .ref (q 4), .int 1, .ref (q 5), .ref (q 6), .ref (q 7), .ref (q 8), .ref (q 9)]))] (va_A [] sz) sz)) (fun _ _ _ _ => False) (vx_X (fun _ : Unit => True) (fun E _ _ => E = "java/lang/IndexOutOfBoundsException") (va_A [] sz)) 1 6 (va_A [] sz) := by
  refine vx_ofW (cc := cX11_multiply) (maxL := 5) (ret := (some .int)) (by decide) rfl ?_
  intro p e s m args below meth c s₁ B hml hnt hv
  obtain ⟨rfl, hsz, hE, hP, hK, hD0⟩ := hv
  have hx := B.exec
  have hb := B.bytes
  have hr := B.returns
  have hts := fun (w : Cond) (h : w ∈ pv_W) => atoms_spec (ws := Cond.code yX11_multiply cX11_multiply 5 (some .int) :: pv_W) B.pre w (List.mem_cons_of_mem _ h)
  have hg := fun {w : Cond} (h : w ∈ lw_tbl) (g : goodWord w = true) => hts w (pv_in h g)
  have hown : s.vm.findClass RX11 = some m.cls := findClass_of_methodNamed B.named
  have hlocks := B.notSynchronized
  subst hsz
  have hD := hD0
  generalize hAe : va_A [] s.heap.size = A at hE ⊢
  have hA : ∀ q : Nat, s.heap.size ≤ q → A q := fun q h => by rw [← hAe]; exact Or.inr h
  have hS : va_S A s.heap s.heap [] := va_S.rf
  have hP : va_P D pv_cl [(h0, .inr (0, [.ref (q 0), .int 0, .int 108, .ref (q 1), .int 0, .ref (q 2), .int 0, .ref (q 3), .ref (q 4), .int 1, .ref (q 5), .ref (q 6), .ref (q 7), .ref (q 8), .ref (q 9)]))] s.heap := hP
  have hl := lv_entry ([.ref h0, .int p0, .int p1]) (n := 5) (Nat.le_of_ble_eq_true rfl)
  rw [lg_entry_eq]
  generalize (lg_sl ([.ref h0, .int p0, .int p1]) ++ List.replicate (5 - (lg_sl ([.ref h0, .int p0, .int p1])).length) Slot.unset).toArray = ls at hl ⊢
  have hl : lv_has ls 5 [(0, .ref h0), (1, .int p0), (2, .int p1)] := hl
  refine lv_aload_n hx hb dX11_multiply_0 rfl (lv_at hl 0 rfl) ?_
  refine lv_iload_n hx hb dX11_multiply_1 rfl (lv_at hl 1 rfl) ?_
  have hF := pv_new hA hS.1
  refine pv_thrown (vx_runV (As := [.int p0]) (rest := []) ⟨hx, hb, hml, hown, hts⟩ (c_X11_polynomialAt l hfl D _ h0 q p0) (cwV 1 hts (pv_gV w5_112 w5_114 wp3_13 w1_1 w5_115) rfl rfl rfl (by decide +kernel) ⟨Nat.le_of_ble_eq_true rfl, Nat.le_of_ble_eq_true rfl⟩) (pv_pV hE hS hF (hP.sub [0] rfl) (hK.sub [] rfl) (hD.sub [0] (by decide) rfl) (va_recv (ci := 0) (q0 := 0) hK hP rfl rfl)) rfl rfl hl.1 rfl (lv_room (Nat.le_of_ble_eq_true rfl)) dX11_multiply_2 ⟨Nat.le_of_ble_eq_true rfl, Nat.le_of_ble_eq_true rfl⟩) (fun _ _ _ h => h) hS hF hF (fun E ce q9 u t H1 locs1 ht hvm hpx hbx hz1 hk1 hS hce hcv hcl => ?_)
  exact vx_out (fun x h9 => absurd (hnt x h9) id) hlocks hce hcv hcl (fun t ht hvm => ⟨(), trivial, hbx, hS.F ht⟩) hS.2.2 (Nat.le_of_ble_eq_true rfl) (Nat.le_of_ble_eq_true rfl)

theorem dX11_power_0 : decode cX11_power 0 = .ok (.aload_n 0, 1) := by decide +kernel
theorem dX11_power_1 : decode cX11_power 1 = .ok (.iload_n 1, 1) := by decide +kernel
theorem dX11_power_2 : decode cX11_power 2 = .ok (.invokevirtual 103, 3) := by decide +kernel
set_option maxHeartbeats 4000000 in
set_option maxRecDepth 100000 in
/-- power on a fresh object: throws -/
theorem c_X11_power (l : Launch) (hfl : l.stackTraces = false) (D : va_G) (sz : Nat) (h0 : Nat) (q : Nat → Nat) (p0 p1 : Int32) : vx_Met l yX11_power (Cond.code yX11_power cX11_power 6 (some .int) :: pv_W) ({ frames := 8, cells := 1, slots := 6, locals := 122 } : Room) (va_Pc [.ref h0, .int p0, .int p1] (pv_P D [] [(h0, .inr (0, [.ref (q 0), .int 0, .int 108, .ref (q 1), .int 0, .ref (q 2), .int 0, .ref (q 3), .ref (q 4), .int 1, .ref (q 5), .ref (q 6), .ref (q 7), .ref (q 8), .ref (q 9)]))] (va_A [] sz) sz)) (fun _ _ _ _ => False) (vx_X (fun _ : Unit => True) (fun E _ _ => E = "java/lang/IndexOutOfBoundsException") (va_A [] sz)) 1 6 (va_A [] sz) := by
  refine vx_ofW (cc := cX11_power) (maxL := 6) (ret := (some .int)) (by decide) rfl ?_
  intro p e s m args below meth c s₁ B hml hnt hv
  obtain ⟨rfl, hsz, hE, hP, hK, hD0⟩ := hv
  have hx := B.exec
  have hb := B.bytes
  have hr := B.returns
  have hts := fun (w : Cond) (h : w ∈ pv_W) => atoms_spec (ws := Cond.code yX11_power cX11_power 6 (some .int) :: pv_W) B.pre w (List.mem_cons_of_mem _ h)
  have hg := fun {w : Cond} (h : w ∈ lw_tbl) (g : goodWord w = true) => hts w (pv_in h g)
  have hown : s.vm.findClass RX11 = some m.cls := findClass_of_methodNamed B.named
  have hlocks := B.notSynchronized
  subst hsz
  have hD := hD0
  generalize hAe : va_A [] s.heap.size = A at hE ⊢
  have hA : ∀ q : Nat, s.heap.size ≤ q → A q := fun q h => by rw [← hAe]; exact Or.inr h
  have hS : va_S A s.heap s.heap [] := va_S.rf
  have hP : va_P D pv_cl [(h0, .inr (0, [.ref (q 0), .int 0, .int 108, .ref (q 1), .int 0, .ref (q 2), .int 0, .ref (q 3), .ref (q 4), .int 1, .ref (q 5), .ref (q 6), .ref (q 7), .ref (q 8), .ref (q 9)]))] s.heap := hP
  have hl := lv_entry ([.ref h0, .int p0, .int p1]) (n := 6) (Nat.le_of_ble_eq_true rfl)
  rw [lg_entry_eq]
  generalize (lg_sl ([.ref h0, .int p0, .int p1]) ++ List.replicate (6 - (lg_sl ([.ref h0, .int p0, .int p1])).length) Slot.unset).toArray = ls at hl ⊢
  have hl : lv_has ls 6 [(0, .ref h0), (1, .int p0), (2, .int p1)] := hl
  refine lv_aload_n hx hb dX11_power_0 rfl (lv_at hl 0 rfl) ?_
  refine lv_iload_n hx hb dX11_power_1 rfl (lv_at hl 1 rfl) ?_
  have hF := pv_new hA hS.1
  refine pv_thrown (vx_runV (As := [.int p0]) (rest := []) ⟨hx, hb, hml, hown, hts⟩ (c_X11_polynomialAt l hfl D _ h0 q p0) (cwV 1 hts (pv_gV w5_112 w5_114 wp3_13 w1_1 w5_115) rfl rfl rfl (by decide +kernel) ⟨Nat.le_of_ble_eq_true rfl, Nat.le_of_ble_eq_true rfl⟩) (pv_pV hE hS hF (hP.sub [0] rfl) (hK.sub [] rfl) (hD.sub [0] (by decide) rfl) (va_recv (ci := 0) (q0 := 0) hK hP rfl rfl)) rfl rfl hl.1 rfl (lv_room (Nat.le_of_ble_eq_true rfl)) dX11_power_2 ⟨Nat.le_of_ble_eq_true rfl, Nat.le_of_ble_eq_true rfl⟩) (fun _ _ _ h => h) hS hF hF (fun E ce q9 u t H1 locs1 ht hvm hpx hbx hz1 hk1 hS hce hcv hcl => ?_)
  exact vx_out (fun x h9 => absurd (hnt x h9) id) hlocks hce hcv hcl (fun t ht hvm => ⟨(), trivial, hbx, hS.F ht⟩) hS.2.2 (Nat.le_of_ble_eq_true rfl) (Nat.le_of_ble_eq_true rfl)

theorem dX11_ground_0 : decode cX11_ground 0 = .ok (.aload_n 0, 1) := by decide +kernel
theorem dX11_ground_1 : decode cX11_ground 1 = .ok (.iload_n 1, 1) := by decide +kernel
theorem dX11_ground_2 : decode cX11_ground 2 = .ok (.invokevirtual 103, 3) := by decide +kernel
set_option maxHeartbeats 4000000 in
set_option maxRecDepth 100000 in
/-- ground on a fresh object: throws -/
theorem c_X11_ground (l : Launch) (hfl : l.stackTraces = false) (D : va_G) (sz : Nat) (h0 : Nat) (q : Nat → Nat) (p0 : Int32) : vx_Met l yX11_ground (Cond.code yX11_ground cX11_ground 2 (some .int) :: pv_W) ({ frames := 8, cells := 1, slots := 6, locals := 122 } : Room) (va_Pc [.ref h0, .int p0] (pv_P D [] [(h0, .inr (0, [.ref (q 0), .int 0, .int 108, .ref (q 1), .int 0, .ref (q 2), .int 0, .ref (q 3), .ref (q 4), .int 1, .ref (q 5), .ref (q 6), .ref (q 7), .ref (q 8), .ref (q 9)]))] (va_A [] sz) sz)) (fun _ _ _ _ => False) (vx_X (fun _ : Unit => True) (fun E _ _ => E = "java/lang/IndexOutOfBoundsException") (va_A [] sz)) 1 6 (va_A [] sz) := by
  refine vx_ofW (cc := cX11_ground) (maxL := 2) (ret := (some .int)) (by decide) rfl ?_
  intro p e s m args below meth c s₁ B hml hnt hv
  obtain ⟨rfl, hsz, hE, hP, hK, hD0⟩ := hv
  have hx := B.exec
  have hb := B.bytes
  have hr := B.returns
  have hts := fun (w : Cond) (h : w ∈ pv_W) => atoms_spec (ws := Cond.code yX11_ground cX11_ground 2 (some .int) :: pv_W) B.pre w (List.mem_cons_of_mem _ h)
  have hg := fun {w : Cond} (h : w ∈ lw_tbl) (g : goodWord w = true) => hts w (pv_in h g)
  have hown : s.vm.findClass RX11 = some m.cls := findClass_of_methodNamed B.named
  have hlocks := B.notSynchronized
  subst hsz
  have hD := hD0
  generalize hAe : va_A [] s.heap.size = A at hE ⊢
  have hA : ∀ q : Nat, s.heap.size ≤ q → A q := fun q h => by rw [← hAe]; exact Or.inr h
  have hS : va_S A s.heap s.heap [] := va_S.rf
  have hP : va_P D pv_cl [(h0, .inr (0, [.ref (q 0), .int 0, .int 108, .ref (q 1), .int 0, .ref (q 2), .int 0, .ref (q 3), .ref (q 4), .int 1, .ref (q 5), .ref (q 6), .ref (q 7), .ref (q 8), .ref (q 9)]))] s.heap := hP
  have hl := lv_entry ([.ref h0, .int p0]) (n := 2) (Nat.le_of_ble_eq_true rfl)
  rw [lg_entry_eq]
  generalize (lg_sl ([.ref h0, .int p0]) ++ List.replicate (2 - (lg_sl ([.ref h0, .int p0])).length) Slot.unset).toArray = ls at hl ⊢
  have hl : lv_has ls 2 [(0, .ref h0), (1, .int p0)] := hl
  refine lv_aload_n hx hb dX11_ground_0 rfl (lv_at hl 0 rfl) ?_
  refine lv_iload_n hx hb dX11_ground_1 rfl (lv_at hl 1 rfl) ?_
  have hF := pv_new hA hS.1
  refine pv_thrown (vx_runV (As := [.int p0]) (rest := []) ⟨hx, hb, hml, hown, hts⟩ (c_X11_polynomialAt l hfl D _ h0 q p0) (cwV 1 hts (pv_gV w5_112 w5_114 wp3_13 w1_1 w5_115) rfl rfl rfl (by decide +kernel) ⟨Nat.le_of_ble_eq_true rfl, Nat.le_of_ble_eq_true rfl⟩) (pv_pV hE hS hF (hP.sub [0] rfl) (hK.sub [] rfl) (hD.sub [0] (by decide) rfl) (va_recv (ci := 0) (q0 := 0) hK hP rfl rfl)) rfl rfl hl.1 rfl (lv_room (Nat.le_of_ble_eq_true rfl)) dX11_ground_2 ⟨Nat.le_of_ble_eq_true rfl, Nat.le_of_ble_eq_true rfl⟩) (fun _ _ _ h => h) hS hF hF (fun E ce q9 u t H1 locs1 ht hvm hpx hbx hz1 hk1 hS hce hcv hcl => ?_)
  exact vx_out (fun x h9 => absurd (hnt x h9) id) hlocks hce hcv hcl (fun t ht hvm => ⟨(), trivial, hbx, hS.F ht⟩) hS.2.2 (Nat.le_of_ble_eq_true rfl) (Nat.le_of_ble_eq_true rfl)

theorem dX11_terms_0 : decode cX11_terms 0 = .ok (.aload_n 0, 1) := by decide +kernel
theorem dX11_terms_1 : decode cX11_terms 1 = .ok (.iload_n 1, 1) := by decide +kernel
theorem dX11_terms_2 : decode cX11_terms 2 = .ok (.invokevirtual 103, 3) := by decide +kernel
set_option maxHeartbeats 4000000 in
set_option maxRecDepth 100000 in
/-- terms on a fresh object: throws -/
theorem c_X11_terms (l : Launch) (hfl : l.stackTraces = false) (D : va_G) (sz : Nat) (h0 : Nat) (q : Nat → Nat) (p0 : Int32) : vx_Met l yX11_terms (Cond.code yX11_terms cX11_terms 2 (some .int) :: pv_W) ({ frames := 8, cells := 1, slots := 6, locals := 122 } : Room) (va_Pc [.ref h0, .int p0] (pv_P D [] [(h0, .inr (0, [.ref (q 0), .int 0, .int 108, .ref (q 1), .int 0, .ref (q 2), .int 0, .ref (q 3), .ref (q 4), .int 1, .ref (q 5), .ref (q 6), .ref (q 7), .ref (q 8), .ref (q 9)]))] (va_A [] sz) sz)) (fun _ _ _ _ => False) (vx_X (fun _ : Unit => True) (fun E _ _ => E = "java/lang/IndexOutOfBoundsException") (va_A [] sz)) 1 6 (va_A [] sz) := by
  refine vx_ofW (cc := cX11_terms) (maxL := 2) (ret := (some .int)) (by decide) rfl ?_
  intro p e s m args below meth c s₁ B hml hnt hv
  obtain ⟨rfl, hsz, hE, hP, hK, hD0⟩ := hv
  have hx := B.exec
  have hb := B.bytes
  have hr := B.returns
  have hts := fun (w : Cond) (h : w ∈ pv_W) => atoms_spec (ws := Cond.code yX11_terms cX11_terms 2 (some .int) :: pv_W) B.pre w (List.mem_cons_of_mem _ h)
  have hg := fun {w : Cond} (h : w ∈ lw_tbl) (g : goodWord w = true) => hts w (pv_in h g)
  have hown : s.vm.findClass RX11 = some m.cls := findClass_of_methodNamed B.named
  have hlocks := B.notSynchronized
  subst hsz
  have hD := hD0
  generalize hAe : va_A [] s.heap.size = A at hE ⊢
  have hA : ∀ q : Nat, s.heap.size ≤ q → A q := fun q h => by rw [← hAe]; exact Or.inr h
  have hS : va_S A s.heap s.heap [] := va_S.rf
  have hP : va_P D pv_cl [(h0, .inr (0, [.ref (q 0), .int 0, .int 108, .ref (q 1), .int 0, .ref (q 2), .int 0, .ref (q 3), .ref (q 4), .int 1, .ref (q 5), .ref (q 6), .ref (q 7), .ref (q 8), .ref (q 9)]))] s.heap := hP
  have hl := lv_entry ([.ref h0, .int p0]) (n := 2) (Nat.le_of_ble_eq_true rfl)
  rw [lg_entry_eq]
  generalize (lg_sl ([.ref h0, .int p0]) ++ List.replicate (2 - (lg_sl ([.ref h0, .int p0])).length) Slot.unset).toArray = ls at hl ⊢
  have hl : lv_has ls 2 [(0, .ref h0), (1, .int p0)] := hl
  refine lv_aload_n hx hb dX11_terms_0 rfl (lv_at hl 0 rfl) ?_
  refine lv_iload_n hx hb dX11_terms_1 rfl (lv_at hl 1 rfl) ?_
  have hF := pv_new hA hS.1
  refine pv_thrown (vx_runV (As := [.int p0]) (rest := []) ⟨hx, hb, hml, hown, hts⟩ (c_X11_polynomialAt l hfl D _ h0 q p0) (cwV 1 hts (pv_gV w5_112 w5_114 wp3_13 w1_1 w5_115) rfl rfl rfl (by decide +kernel) ⟨Nat.le_of_ble_eq_true rfl, Nat.le_of_ble_eq_true rfl⟩) (pv_pV hE hS hF (hP.sub [0] rfl) (hK.sub [] rfl) (hD.sub [0] (by decide) rfl) (va_recv (ci := 0) (q0 := 0) hK hP rfl rfl)) rfl rfl hl.1 rfl (lv_room (Nat.le_of_ble_eq_true rfl)) dX11_terms_2 ⟨Nat.le_of_ble_eq_true rfl, Nat.le_of_ble_eq_true rfl⟩) (fun _ _ _ h => h) hS hF hF (fun E ce q9 u t H1 locs1 ht hvm hpx hbx hz1 hk1 hS hce hcv hcl => ?_)
  exact vx_out (fun x h9 => absurd (hnt x h9) id) hlocks hce hcv hcl (fun t ht hvm => ⟨(), trivial, hbx, hS.F ht⟩) hS.2.2 (Nat.le_of_ble_eq_true rfl) (Nat.le_of_ble_eq_true rfl)

theorem dX11_degree_0 : decode cX11_degree 0 = .ok (.aload_n 0, 1) := by decide +kernel
theorem dX11_degree_1 : decode cX11_degree 1 = .ok (.iload_n 1, 1) := by decide +kernel
theorem dX11_degree_2 : decode cX11_degree 2 = .ok (.invokevirtual 103, 3) := by decide +kernel
set_option maxHeartbeats 4000000 in
set_option maxRecDepth 100000 in
/-- degree on a fresh object: throws -/
theorem c_X11_degree (l : Launch) (hfl : l.stackTraces = false) (D : va_G) (sz : Nat) (h0 : Nat) (q : Nat → Nat) (p0 : Int32) : vx_Met l yX11_degree (Cond.code yX11_degree cX11_degree 2 (some .int) :: pv_W) ({ frames := 8, cells := 1, slots := 6, locals := 122 } : Room) (va_Pc [.ref h0, .int p0] (pv_P D [] [(h0, .inr (0, [.ref (q 0), .int 0, .int 108, .ref (q 1), .int 0, .ref (q 2), .int 0, .ref (q 3), .ref (q 4), .int 1, .ref (q 5), .ref (q 6), .ref (q 7), .ref (q 8), .ref (q 9)]))] (va_A [] sz) sz)) (fun _ _ _ _ => False) (vx_X (fun _ : Unit => True) (fun E _ _ => E = "java/lang/IndexOutOfBoundsException") (va_A [] sz)) 1 6 (va_A [] sz) := by
  refine vx_ofW (cc := cX11_degree) (maxL := 2) (ret := (some .int)) (by decide) rfl ?_
  intro p e s m args below meth c s₁ B hml hnt hv
  obtain ⟨rfl, hsz, hE, hP, hK, hD0⟩ := hv
  have hx := B.exec
  have hb := B.bytes
  have hr := B.returns
  have hts := fun (w : Cond) (h : w ∈ pv_W) => atoms_spec (ws := Cond.code yX11_degree cX11_degree 2 (some .int) :: pv_W) B.pre w (List.mem_cons_of_mem _ h)
  have hg := fun {w : Cond} (h : w ∈ lw_tbl) (g : goodWord w = true) => hts w (pv_in h g)
  have hown : s.vm.findClass RX11 = some m.cls := findClass_of_methodNamed B.named
  have hlocks := B.notSynchronized
  subst hsz
  have hD := hD0
  generalize hAe : va_A [] s.heap.size = A at hE ⊢
  have hA : ∀ q : Nat, s.heap.size ≤ q → A q := fun q h => by rw [← hAe]; exact Or.inr h
  have hS : va_S A s.heap s.heap [] := va_S.rf
  have hP : va_P D pv_cl [(h0, .inr (0, [.ref (q 0), .int 0, .int 108, .ref (q 1), .int 0, .ref (q 2), .int 0, .ref (q 3), .ref (q 4), .int 1, .ref (q 5), .ref (q 6), .ref (q 7), .ref (q 8), .ref (q 9)]))] s.heap := hP
  have hl := lv_entry ([.ref h0, .int p0]) (n := 2) (Nat.le_of_ble_eq_true rfl)
  rw [lg_entry_eq]
  generalize (lg_sl ([.ref h0, .int p0]) ++ List.replicate (2 - (lg_sl ([.ref h0, .int p0])).length) Slot.unset).toArray = ls at hl ⊢
  have hl : lv_has ls 2 [(0, .ref h0), (1, .int p0)] := hl
  refine lv_aload_n hx hb dX11_degree_0 rfl (lv_at hl 0 rfl) ?_
  refine lv_iload_n hx hb dX11_degree_1 rfl (lv_at hl 1 rfl) ?_
  have hF := pv_new hA hS.1
  refine pv_thrown (vx_runV (As := [.int p0]) (rest := []) ⟨hx, hb, hml, hown, hts⟩ (c_X11_polynomialAt l hfl D _ h0 q p0) (cwV 1 hts (pv_gV w5_112 w5_114 wp3_13 w1_1 w5_115) rfl rfl rfl (by decide +kernel) ⟨Nat.le_of_ble_eq_true rfl, Nat.le_of_ble_eq_true rfl⟩) (pv_pV hE hS hF (hP.sub [0] rfl) (hK.sub [] rfl) (hD.sub [0] (by decide) rfl) (va_recv (ci := 0) (q0 := 0) hK hP rfl rfl)) rfl rfl hl.1 rfl (lv_room (Nat.le_of_ble_eq_true rfl)) dX11_degree_2 ⟨Nat.le_of_ble_eq_true rfl, Nat.le_of_ble_eq_true rfl⟩) (fun _ _ _ h => h) hS hF hF (fun E ce q9 u t H1 locs1 ht hvm hpx hbx hz1 hk1 hS hce hcv hcl => ?_)
  exact vx_out (fun x h9 => absurd (hnt x h9) id) hlocks hce hcv hcl (fun t ht hvm => ⟨(), trivial, hbx, hS.F ht⟩) hS.2.2 (Nat.le_of_ble_eq_true rfl) (Nat.le_of_ble_eq_true rfl)

theorem dX11_degreeIn_0 : decode cX11_degreeIn 0 = .ok (.aload_n 0, 1) := by decide +kernel
theorem dX11_degreeIn_1 : decode cX11_degreeIn 1 = .ok (.iload_n 1, 1) := by decide +kernel
theorem dX11_degreeIn_2 : decode cX11_degreeIn 2 = .ok (.invokevirtual 103, 3) := by decide +kernel
set_option maxHeartbeats 4000000 in
set_option maxRecDepth 100000 in
/-- degreeIn on a fresh object: throws -/
theorem c_X11_degreeIn (l : Launch) (hfl : l.stackTraces = false) (D : va_G) (sz : Nat) (h0 : Nat) (q : Nat → Nat) (p0 p1 : Int32) : vx_Met l yX11_degreeIn (Cond.code yX11_degreeIn cX11_degreeIn 4 (some .int) :: pv_W) ({ frames := 8, cells := 1, slots := 6, locals := 122 } : Room) (va_Pc [.ref h0, .int p0, .int p1] (pv_P D [] [(h0, .inr (0, [.ref (q 0), .int 0, .int 108, .ref (q 1), .int 0, .ref (q 2), .int 0, .ref (q 3), .ref (q 4), .int 1, .ref (q 5), .ref (q 6), .ref (q 7), .ref (q 8), .ref (q 9)]))] (va_A [] sz) sz)) (fun _ _ _ _ => False) (vx_X (fun _ : Unit => True) (fun E _ _ => E = "java/lang/IndexOutOfBoundsException") (va_A [] sz)) 1 6 (va_A [] sz) := by
  refine vx_ofW (cc := cX11_degreeIn) (maxL := 4) (ret := (some .int)) (by decide) rfl ?_
  intro p e s m args below meth c s₁ B hml hnt hv
  obtain ⟨rfl, hsz, hE, hP, hK, hD0⟩ := hv
  have hx := B.exec
  have hb := B.bytes
  have hr := B.returns
  have hts := fun (w : Cond) (h : w ∈ pv_W) => atoms_spec (ws := Cond.code yX11_degreeIn cX11_degreeIn 4 (some .int) :: pv_W) B.pre w (List.mem_cons_of_mem _ h)
  have hg := fun {w : Cond} (h : w ∈ lw_tbl) (g : goodWord w = true) => hts w (pv_in h g)
  have hown : s.vm.findClass RX11 = some m.cls := findClass_of_methodNamed B.named
  have hlocks := B.notSynchronized
  subst hsz
  have hD := hD0
  generalize hAe : va_A [] s.heap.size = A at hE ⊢
  have hA : ∀ q : Nat, s.heap.size ≤ q → A q := fun q h => by rw [← hAe]; exact Or.inr h
  have hS : va_S A s.heap s.heap [] := va_S.rf
  have hP : va_P D pv_cl [(h0, .inr (0, [.ref (q 0), .int 0, .int 108, .ref (q 1), .int 0, .ref (q 2), .int 0, .ref (q 3), .ref (q 4), .int 1, .ref (q 5), .ref (q 6), .ref (q 7), .ref (q 8), .ref (q 9)]))] s.heap := hP
  have hl := lv_entry ([.ref h0, .int p0, .int p1]) (n := 4) (Nat.le_of_ble_eq_true rfl)
  rw [lg_entry_eq]
  generalize (lg_sl ([.ref h0, .int p0, .int p1]) ++ List.replicate (4 - (lg_sl ([.ref h0, .int p0, .int p1])).length) Slot.unset).toArray = ls at hl ⊢
  have hl : lv_has ls 4 [(0, .ref h0), (1, .int p0), (2, .int p1)] := hl
  refine lv_aload_n hx hb dX11_degreeIn_0 rfl (lv_at hl 0 rfl) ?_
  refine lv_iload_n hx hb dX11_degreeIn_1 rfl (lv_at hl 1 rfl) ?_
  have hF := pv_new hA hS.1
  refine pv_thrown (vx_runV (As := [.int p0]) (rest := []) ⟨hx, hb, hml, hown, hts⟩ (c_X11_polynomialAt l hfl D _ h0 q p0) (cwV 1 hts (pv_gV w5_112 w5_114 wp3_13 w1_1 w5_115) rfl rfl rfl (by decide +kernel) ⟨Nat.le_of_ble_eq_true rfl, Nat.le_of_ble_eq_true rfl⟩) (pv_pV hE hS hF (hP.sub [0] rfl) (hK.sub [] rfl) (hD.sub [0] (by decide) rfl) (va_recv (ci := 0) (q0 := 0) hK hP rfl rfl)) rfl rfl hl.1 rfl (lv_room (Nat.le_of_ble_eq_true rfl)) dX11_degreeIn_2 ⟨Nat.le_of_ble_eq_true rfl, Nat.le_of_ble_eq_true rfl⟩) (fun _ _ _ h => h) hS hF hF (fun E ce q9 u t H1 locs1 ht hvm hpx hbx hz1 hk1 hS hce hcv hcl => ?_)
  exact vx_out (fun x h9 => absurd (hnt x h9) id) hlocks hce hcv hcl (fun t ht hvm => ⟨(), trivial, hbx, hS.F ht⟩) hS.2.2 (Nat.le_of_ble_eq_true rfl) (Nat.le_of_ble_eq_true rfl)

theorem dX11_coefficientAt_0 : decode cX11_coefficientAt 0 = .ok (.aload_n 0, 1) := by decide +kernel
theorem dX11_coefficientAt_1 : decode cX11_coefficientAt 1 = .ok (.iload_n 1, 1) := by decide +kernel
theorem dX11_coefficientAt_2 : decode cX11_coefficientAt 2 = .ok (.invokevirtual 103, 3) := by decide +kernel
set_option maxHeartbeats 4000000 in
set_option maxRecDepth 100000 in
/-- coefficientAt on a fresh object: throws -/
theorem c_X11_coefficientAt (l : Launch) (hfl : l.stackTraces = false) (D : va_G) (sz : Nat) (h0 : Nat) (q : Nat → Nat) (p0 p1 : Int32) : vx_Met l yX11_coefficientAt (Cond.code yX11_coefficientAt cX11_coefficientAt 4 (some .long) :: pv_W) ({ frames := 8, cells := 1, slots := 6, locals := 122 } : Room) (va_Pc [.ref h0, .int p0, .int p1] (pv_P D [] [(h0, .inr (0, [.ref (q 0), .int 0, .int 108, .ref (q 1), .int 0, .ref (q 2), .int 0, .ref (q 3), .ref (q 4), .int 1, .ref (q 5), .ref (q 6), .ref (q 7), .ref (q 8), .ref (q 9)]))] (va_A [] sz) sz)) (fun _ _ _ _ => False) (vx_X (fun _ : Unit => True) (fun E _ _ => E = "java/lang/IndexOutOfBoundsException") (va_A [] sz)) 1 6 (va_A [] sz) := by
  refine vx_ofW (cc := cX11_coefficientAt) (maxL := 4) (ret := (some .long)) (by decide) rfl ?_
  intro p e s m args below meth c s₁ B hml hnt hv
  obtain ⟨rfl, hsz, hE, hP, hK, hD0⟩ := hv
  have hx := B.exec
  have hb := B.bytes
  have hr := B.returns
  have hts := fun (w : Cond) (h : w ∈ pv_W) => atoms_spec (ws := Cond.code yX11_coefficientAt cX11_coefficientAt 4 (some .long) :: pv_W) B.pre w (List.mem_cons_of_mem _ h)
  have hg := fun {w : Cond} (h : w ∈ lw_tbl) (g : goodWord w = true) => hts w (pv_in h g)
  have hown : s.vm.findClass RX11 = some m.cls := findClass_of_methodNamed B.named
  have hlocks := B.notSynchronized
  subst hsz
  have hD := hD0
  generalize hAe : va_A [] s.heap.size = A at hE ⊢
  have hA : ∀ q : Nat, s.heap.size ≤ q → A q := fun q h => by rw [← hAe]; exact Or.inr h
  have hS : va_S A s.heap s.heap [] := va_S.rf
  have hP : va_P D pv_cl [(h0, .inr (0, [.ref (q 0), .int 0, .int 108, .ref (q 1), .int 0, .ref (q 2), .int 0, .ref (q 3), .ref (q 4), .int 1, .ref (q 5), .ref (q 6), .ref (q 7), .ref (q 8), .ref (q 9)]))] s.heap := hP
  have hl := lv_entry ([.ref h0, .int p0, .int p1]) (n := 4) (Nat.le_of_ble_eq_true rfl)
  rw [lg_entry_eq]
  generalize (lg_sl ([.ref h0, .int p0, .int p1]) ++ List.replicate (4 - (lg_sl ([.ref h0, .int p0, .int p1])).length) Slot.unset).toArray = ls at hl ⊢
  have hl : lv_has ls 4 [(0, .ref h0), (1, .int p0), (2, .int p1)] := hl
  refine lv_aload_n hx hb dX11_coefficientAt_0 rfl (lv_at hl 0 rfl) ?_
  refine lv_iload_n hx hb dX11_coefficientAt_1 rfl (lv_at hl 1 rfl) ?_
  have hF := pv_new hA hS.1
  refine pv_thrown (vx_runV (As := [.int p0]) (rest := []) ⟨hx, hb, hml, hown, hts⟩ (c_X11_polynomialAt l hfl D _ h0 q p0) (cwV 1 hts (pv_gV w5_112 w5_114 wp3_13 w1_1 w5_115) rfl rfl rfl (by decide +kernel) ⟨Nat.le_of_ble_eq_true rfl, Nat.le_of_ble_eq_true rfl⟩) (pv_pV hE hS hF (hP.sub [0] rfl) (hK.sub [] rfl) (hD.sub [0] (by decide) rfl) (va_recv (ci := 0) (q0 := 0) hK hP rfl rfl)) rfl rfl hl.1 rfl (lv_room (Nat.le_of_ble_eq_true rfl)) dX11_coefficientAt_2 ⟨Nat.le_of_ble_eq_true rfl, Nat.le_of_ble_eq_true rfl⟩) (fun _ _ _ h => h) hS hF hF (fun E ce q9 u t H1 locs1 ht hvm hpx hbx hz1 hk1 hS hce hcv hcl => ?_)
  exact vx_out (fun x h9 => absurd (hnt x h9) id) hlocks hce hcv hcl (fun t ht hvm => ⟨(), trivial, hbx, hS.F ht⟩) hS.2.2 (Nat.le_of_ble_eq_true rfl) (Nat.le_of_ble_eq_true rfl)

theorem dX11_exponentAt_0 : decode cX11_exponentAt 0 = .ok (.aload_n 0, 1) := by decide +kernel
theorem dX11_exponentAt_1 : decode cX11_exponentAt 1 = .ok (.iload_n 1, 1) := by decide +kernel
theorem dX11_exponentAt_2 : decode cX11_exponentAt 2 = .ok (.invokevirtual 103, 3) := by decide +kernel
set_option maxHeartbeats 4000000 in
set_option maxRecDepth 100000 in
/-- exponentAt on a fresh object: throws -/
theorem c_X11_exponentAt (l : Launch) (hfl : l.stackTraces = false) (D : va_G) (sz : Nat) (h0 : Nat) (q : Nat → Nat) (p0 p1 p2 : Int32) : vx_Met l yX11_exponentAt (Cond.code yX11_exponentAt cX11_exponentAt 5 (some .int) :: pv_W) ({ frames := 8, cells := 1, slots := 6, locals := 122 } : Room) (va_Pc [.ref h0, .int p0, .int p1, .int p2] (pv_P D [] [(h0, .inr (0, [.ref (q 0), .int 0, .int 108, .ref (q 1), .int 0, .ref (q 2), .int 0, .ref (q 3), .ref (q 4), .int 1, .ref (q 5), .ref (q 6), .ref (q 7), .ref (q 8), .ref (q 9)]))] (va_A [] sz) sz)) (fun _ _ _ _ => False) (vx_X (fun _ : Unit => True) (fun E _ _ => E = "java/lang/IndexOutOfBoundsException") (va_A [] sz)) 1 6 (va_A [] sz) := by
  refine vx_ofW (cc := cX11_exponentAt) (maxL := 5) (ret := (some .int)) (by decide) rfl ?_
  intro p e s m args below meth c s₁ B hml hnt hv
  obtain ⟨rfl, hsz, hE, hP, hK, hD0⟩ := hv
  have hx := B.exec
  have hb := B.bytes
  have hr := B.returns
  have hts := fun (w : Cond) (h : w ∈ pv_W) => atoms_spec (ws := Cond.code yX11_exponentAt cX11_exponentAt 5 (some .int) :: pv_W) B.pre w (List.mem_cons_of_mem _ h)
  have hg := fun {w : Cond} (h : w ∈ lw_tbl) (g : goodWord w = true) => hts w (pv_in h g)
  have hown : s.vm.findClass RX11 = some m.cls := findClass_of_methodNamed B.named
  have hlocks := B.notSynchronized
  subst hsz
  have hD := hD0
  generalize hAe : va_A [] s.heap.size = A at hE ⊢
  have hA : ∀ q : Nat, s.heap.size ≤ q → A q := fun q h => by rw [← hAe]; exact Or.inr h
  have hS : va_S A s.heap s.heap [] := va_S.rf
  have hP : va_P D pv_cl [(h0, .inr (0, [.ref (q 0), .int 0, .int 108, .ref (q 1), .int 0, .ref (q 2), .int 0, .ref (q 3), .ref (q 4), .int 1, .ref (q 5), .ref (q 6), .ref (q 7), .ref (q 8), .ref (q 9)]))] s.heap := hP
  have hl := lv_entry ([.ref h0, .int p0, .int p1, .int p2]) (n := 5) (Nat.le_of_ble_eq_true rfl)
  rw [lg_entry_eq]
  generalize (lg_sl ([.ref h0, .int p0, .int p1, .int p2]) ++ List.replicate (5 - (lg_sl ([.ref h0, .int p0, .int p1, .int p2])).length) Slot.unset).toArray = ls at hl ⊢
  have hl : lv_has ls 5 [(0, .ref h0), (1, .int p0), (2, .int p1), (3, .int p2)] := hl
  refine lv_aload_n hx hb dX11_exponentAt_0 rfl (lv_at hl 0 rfl) ?_
  refine lv_iload_n hx hb dX11_exponentAt_1 rfl (lv_at hl 1 rfl) ?_
  have hF := pv_new hA hS.1
  refine pv_thrown (vx_runV (As := [.int p0]) (rest := []) ⟨hx, hb, hml, hown, hts⟩ (c_X11_polynomialAt l hfl D _ h0 q p0) (cwV 1 hts (pv_gV w5_112 w5_114 wp3_13 w1_1 w5_115) rfl rfl rfl (by decide +kernel) ⟨Nat.le_of_ble_eq_true rfl, Nat.le_of_ble_eq_true rfl⟩) (pv_pV hE hS hF (hP.sub [0] rfl) (hK.sub [] rfl) (hD.sub [0] (by decide) rfl) (va_recv (ci := 0) (q0 := 0) hK hP rfl rfl)) rfl rfl hl.1 rfl (lv_room (Nat.le_of_ble_eq_true rfl)) dX11_exponentAt_2 ⟨Nat.le_of_ble_eq_true rfl, Nat.le_of_ble_eq_true rfl⟩) (fun _ _ _ h => h) hS hF hF (fun E ce q9 u t H1 locs1 ht hvm hpx hbx hz1 hk1 hS hce hcv hcl => ?_)
  exact vx_out (fun x h9 => absurd (hnt x h9) id) hlocks hce hcv hcl (fun t ht hvm => ⟨(), trivial, hbx, hS.F ht⟩) hS.2.2 (Nat.le_of_ble_eq_true rfl) (Nat.le_of_ble_eq_true rfl)

theorem dX11_derive_0 : decode cX11_derive 0 = .ok (.aload_n 0, 1) := by decide +kernel
theorem dX11_derive_1 : decode cX11_derive 1 = .ok (.iload_n 1, 1) := by decide +kernel
theorem dX11_derive_2 : decode cX11_derive 2 = .ok (.invokevirtual 103, 3) := by decide +kernel
set_option maxHeartbeats 4000000 in
set_option maxRecDepth 100000 in
/-- derive on a fresh object: throws -/
theorem c_X11_derive (l : Launch) (hfl : l.stackTraces = false) (D : va_G) (sz : Nat) (h0 : Nat) (q : Nat → Nat) (p0 p1 : Int32) : vx_Met l yX11_derive (Cond.code yX11_derive cX11_derive 7 (some .int) :: pv_W) ({ frames := 8, cells := 1, slots := 6, locals := 122 } : Room) (va_Pc [.ref h0, .int p0, .int p1] (pv_P D [] [(h0, .inr (0, [.ref (q 0), .int 0, .int 108, .ref (q 1), .int 0, .ref (q 2), .int 0, .ref (q 3), .ref (q 4), .int 1, .ref (q 5), .ref (q 6), .ref (q 7), .ref (q 8), .ref (q 9)]))] (va_A [] sz) sz)) (fun _ _ _ _ => False) (vx_X (fun _ : Unit => True) (fun E _ _ => E = "java/lang/IndexOutOfBoundsException") (va_A [] sz)) 1 6 (va_A [] sz) := by
  refine vx_ofW (cc := cX11_derive) (maxL := 7) (ret := (some .int)) (by decide) rfl ?_
  intro p e s m args below meth c s₁ B hml hnt hv
  obtain ⟨rfl, hsz, hE, hP, hK, hD0⟩ := hv
  have hx := B.exec
  have hb := B.bytes
  have hr := B.returns
  have hts := fun (w : Cond) (h : w ∈ pv_W) => atoms_spec (ws := Cond.code yX11_derive cX11_derive 7 (some .int) :: pv_W) B.pre w (List.mem_cons_of_mem _ h)
  have hg := fun {w : Cond} (h : w ∈ lw_tbl) (g : goodWord w = true) => hts w (pv_in h g)
  have hown : s.vm.findClass RX11 = some m.cls := findClass_of_methodNamed B.named
  have hlocks := B.notSynchronized
  subst hsz
  have hD := hD0
  generalize hAe : va_A [] s.heap.size = A at hE ⊢
  have hA : ∀ q : Nat, s.heap.size ≤ q → A q := fun q h => by rw [← hAe]; exact Or.inr h
  have hS : va_S A s.heap s.heap [] := va_S.rf
  have hP : va_P D pv_cl [(h0, .inr (0, [.ref (q 0), .int 0, .int 108, .ref (q 1), .int 0, .ref (q 2), .int 0, .ref (q 3), .ref (q 4), .int 1, .ref (q 5), .ref (q 6), .ref (q 7), .ref (q 8), .ref (q 9)]))] s.heap := hP
  have hl := lv_entry ([.ref h0, .int p0, .int p1]) (n := 7) (Nat.le_of_ble_eq_true rfl)
  rw [lg_entry_eq]
  generalize (lg_sl ([.ref h0, .int p0, .int p1]) ++ List.replicate (7 - (lg_sl ([.ref h0, .int p0, .int p1])).length) Slot.unset).toArray = ls at hl ⊢
  have hl : lv_has ls 7 [(0, .ref h0), (1, .int p0), (2, .int p1)] := hl
  refine lv_aload_n hx hb dX11_derive_0 rfl (lv_at hl 0 rfl) ?_
  refine lv_iload_n hx hb dX11_derive_1 rfl (lv_at hl 1 rfl) ?_
  have hF := pv_new hA hS.1
  refine pv_thrown (vx_runV (As := [.int p0]) (rest := []) ⟨hx, hb, hml, hown, hts⟩ (c_X11_polynomialAt l hfl D _ h0 q p0) (cwV 1 hts (pv_gV w5_112 w5_114 wp3_13 w1_1 w5_115) rfl rfl rfl (by decide +kernel) ⟨Nat.le_of_ble_eq_true rfl, Nat.le_of_ble_eq_true rfl⟩) (pv_pV hE hS hF (hP.sub [0] rfl) (hK.sub [] rfl) (hD.sub [0] (by decide) rfl) (va_recv (ci := 0) (q0 := 0) hK hP rfl rfl)) rfl rfl hl.1 rfl (lv_room (Nat.le_of_ble_eq_true rfl)) dX11_derive_2 ⟨Nat.le_of_ble_eq_true rfl, Nat.le_of_ble_eq_true rfl⟩) (fun _ _ _ h => h) hS hF hF (fun E ce q9 u t H1 locs1 ht hvm hpx hbx hz1 hk1 hS hce hcv hcl => ?_)
  exact vx_out (fun x h9 => absurd (hnt x h9) id) hlocks hce hcv hcl (fun t ht hvm => ⟨(), trivial, hbx, hS.F ht⟩) hS.2.2 (Nat.le_of_ble_eq_true rfl) (Nat.le_of_ble_eq_true rfl)

theorem dX11_integrate_0 : decode cX11_integrate 0 = .ok (.aload_n 0, 1) := by decide +kernel
theorem dX11_integrate_1 : decode cX11_integrate 1 = .ok (.iload_n 1, 1) := by decide +kernel
theorem dX11_integrate_2 : decode cX11_integrate 2 = .ok (.invokevirtual 103, 3) := by decide +kernel
set_option maxHeartbeats 4000000 in
set_option maxRecDepth 100000 in
/-- integrate on a fresh object: throws -/
theorem c_X11_integrate (l : Launch) (hfl : l.stackTraces = false) (D : va_G) (sz : Nat) (h0 : Nat) (q : Nat → Nat) (p0 p1 : Int32) : vx_Met l yX11_integrate (Cond.code yX11_integrate cX11_integrate 7 (some .int) :: pv_W) ({ frames := 8, cells := 1, slots := 6, locals := 122 } : Room) (va_Pc [.ref h0, .int p0, .int p1] (pv_P D [] [(h0, .inr (0, [.ref (q 0), .int 0, .int 108, .ref (q 1), .int 0, .ref (q 2), .int 0, .ref (q 3), .ref (q 4), .int 1, .ref (q 5), .ref (q 6), .ref (q 7), .ref (q 8), .ref (q 9)]))] (va_A [] sz) sz)) (fun _ _ _ _ => False) (vx_X (fun _ : Unit => True) (fun E _ _ => E = "java/lang/IndexOutOfBoundsException") (va_A [] sz)) 1 6 (va_A [] sz) := by
  refine vx_ofW (cc := cX11_integrate) (maxL := 7) (ret := (some .int)) (by decide) rfl ?_
  intro p e s m args below meth c s₁ B hml hnt hv
  obtain ⟨rfl, hsz, hE, hP, hK, hD0⟩ := hv
  have hx := B.exec
  have hb := B.bytes
  have hr := B.returns
  have hts := fun (w : Cond) (h : w ∈ pv_W) => atoms_spec (ws := Cond.code yX11_integrate cX11_integrate 7 (some .int) :: pv_W) B.pre w (List.mem_cons_of_mem _ h)
  have hg := fun {w : Cond} (h : w ∈ lw_tbl) (g : goodWord w = true) => hts w (pv_in h g)
  have hown : s.vm.findClass RX11 = some m.cls := findClass_of_methodNamed B.named
  have hlocks := B.notSynchronized
  subst hsz
  have hD := hD0
  generalize hAe : va_A [] s.heap.size = A at hE ⊢
  have hA : ∀ q : Nat, s.heap.size ≤ q → A q := fun q h => by rw [← hAe]; exact Or.inr h
  have hS : va_S A s.heap s.heap [] := va_S.rf
  have hP : va_P D pv_cl [(h0, .inr (0, [.ref (q 0), .int 0, .int 108, .ref (q 1), .int 0, .ref (q 2), .int 0, .ref (q 3), .ref (q 4), .int 1, .ref (q 5), .ref (q 6), .ref (q 7), .ref (q 8), .ref (q 9)]))] s.heap := hP
  have hl := lv_entry ([.ref h0, .int p0, .int p1]) (n := 7) (Nat.le_of_ble_eq_true rfl)
  rw [lg_entry_eq]
  generalize (lg_sl ([.ref h0, .int p0, .int p1]) ++ List.replicate (7 - (lg_sl ([.ref h0, .int p0, .int p1])).length) Slot.unset).toArray = ls at hl ⊢
  have hl : lv_has ls 7 [(0, .ref h0), (1, .int p0), (2, .int p1)] := hl
  refine lv_aload_n hx hb dX11_integrate_0 rfl (lv_at hl 0 rfl) ?_
  refine lv_iload_n hx hb dX11_integrate_1 rfl (lv_at hl 1 rfl) ?_
  have hF := pv_new hA hS.1
  refine pv_thrown (vx_runV (As := [.int p0]) (rest := []) ⟨hx, hb, hml, hown, hts⟩ (c_X11_polynomialAt l hfl D _ h0 q p0) (cwV 1 hts (pv_gV w5_112 w5_114 wp3_13 w1_1 w5_115) rfl rfl rfl (by decide +kernel) ⟨Nat.le_of_ble_eq_true rfl, Nat.le_of_ble_eq_true rfl⟩) (pv_pV hE hS hF (hP.sub [0] rfl) (hK.sub [] rfl) (hD.sub [0] (by decide) rfl) (va_recv (ci := 0) (q0 := 0) hK hP rfl rfl)) rfl rfl hl.1 rfl (lv_room (Nat.le_of_ble_eq_true rfl)) dX11_integrate_2 ⟨Nat.le_of_ble_eq_true rfl, Nat.le_of_ble_eq_true rfl⟩) (fun _ _ _ h => h) hS hF hF (fun E ce q9 u t H1 locs1 ht hvm hpx hbx hz1 hk1 hS hce hcv hcl => ?_)
  exact vx_out (fun x h9 => absurd (hnt x h9) id) hlocks hce hcv hcl (fun t ht hvm => ⟨(), trivial, hbx, hS.F ht⟩) hS.2.2 (Nat.le_of_ble_eq_true rfl) (Nat.le_of_ble_eq_true rfl)

theorem dX11_substitute_0 : decode cX11_substitute 0 = .ok (.aload_n 0, 1) := by decide +kernel
theorem dX11_substitute_1 : decode cX11_substitute 1 = .ok (.iload_n 1, 1) := by decide +kernel
theorem dX11_substitute_2 : decode cX11_substitute 2 = .ok (.invokevirtual 103, 3) := by decide +kernel
set_option maxHeartbeats 4000000 in
set_option maxRecDepth 100000 in
/-- substitute on a fresh object: throws -/
theorem c_X11_substitute (l : Launch) (hfl : l.stackTraces = false) (D : va_G) (sz : Nat) (h0 : Nat) (q : Nat → Nat) (p0 p1 p2 : Int32) : vx_Met l yX11_substitute (Cond.code yX11_substitute cX11_substitute 7 (some .int) :: pv_W) ({ frames := 8, cells := 1, slots := 6, locals := 122 } : Room) (va_Pc [.ref h0, .int p0, .int p1, .int p2] (pv_P D [] [(h0, .inr (0, [.ref (q 0), .int 0, .int 108, .ref (q 1), .int 0, .ref (q 2), .int 0, .ref (q 3), .ref (q 4), .int 1, .ref (q 5), .ref (q 6), .ref (q 7), .ref (q 8), .ref (q 9)]))] (va_A [] sz) sz)) (fun _ _ _ _ => False) (vx_X (fun _ : Unit => True) (fun E _ _ => E = "java/lang/IndexOutOfBoundsException") (va_A [] sz)) 1 6 (va_A [] sz) := by
  refine vx_ofW (cc := cX11_substitute) (maxL := 7) (ret := (some .int)) (by decide) rfl ?_
  intro p e s m args below meth c s₁ B hml hnt hv
  obtain ⟨rfl, hsz, hE, hP, hK, hD0⟩ := hv
  have hx := B.exec
  have hb := B.bytes
  have hr := B.returns
  have hts := fun (w : Cond) (h : w ∈ pv_W) => atoms_spec (ws := Cond.code yX11_substitute cX11_substitute 7 (some .int) :: pv_W) B.pre w (List.mem_cons_of_mem _ h)
  have hg := fun {w : Cond} (h : w ∈ lw_tbl) (g : goodWord w = true) => hts w (pv_in h g)
  have hown : s.vm.findClass RX11 = some m.cls := findClass_of_methodNamed B.named
  have hlocks := B.notSynchronized
  subst hsz
  have hD := hD0
  generalize hAe : va_A [] s.heap.size = A at hE ⊢
  have hA : ∀ q : Nat, s.heap.size ≤ q → A q := fun q h => by rw [← hAe]; exact Or.inr h
  have hS : va_S A s.heap s.heap [] := va_S.rf
  have hP : va_P D pv_cl [(h0, .inr (0, [.ref (q 0), .int 0, .int 108, .ref (q 1), .int 0, .ref (q 2), .int 0, .ref (q 3), .ref (q 4), .int 1, .ref (q 5), .ref (q 6), .ref (q 7), .ref (q 8), .ref (q 9)]))] s.heap := hP
  have hl := lv_entry ([.ref h0, .int p0, .int p1, .int p2]) (n := 7) (Nat.le_of_ble_eq_true rfl)
  rw [lg_entry_eq]
  generalize (lg_sl ([.ref h0, .int p0, .int p1, .int p2]) ++ List.replicate (7 - (lg_sl ([.ref h0, .int p0, .int p1, .int p2])).length) Slot.unset).toArray = ls at hl ⊢
  have hl : lv_has ls 7 [(0, .ref h0), (1, .int p0), (2, .int p1), (3, .int p2)] := hl
  refine lv_aload_n hx hb dX11_substitute_0 rfl (lv_at hl 0 rfl) ?_
  refine lv_iload_n hx hb dX11_substitute_1 rfl (lv_at hl 1 rfl) ?_
  have hF := pv_new hA hS.1
  refine pv_thrown (vx_runV (As := [.int p0]) (rest := []) ⟨hx, hb, hml, hown, hts⟩ (c_X11_polynomialAt l hfl D _ h0 q p0) (cwV 1 hts (pv_gV w5_112 w5_114 wp3_13 w1_1 w5_115) rfl rfl rfl (by decide +kernel) ⟨Nat.le_of_ble_eq_true rfl, Nat.le_of_ble_eq_true rfl⟩) (pv_pV hE hS hF (hP.sub [0] rfl) (hK.sub [] rfl) (hD.sub [0] (by decide) rfl) (va_recv (ci := 0) (q0 := 0) hK hP rfl rfl)) rfl rfl hl.1 rfl (lv_room (Nat.le_of_ble_eq_true rfl)) dX11_substitute_2 ⟨Nat.le_of_ble_eq_true rfl, Nat.le_of_ble_eq_true rfl⟩) (fun _ _ _ h => h) hS hF hF (fun E ce q9 u t H1 locs1 ht hvm hpx hbx hz1 hk1 hS hce hcv hcl => ?_)
  exact vx_out (fun x h9 => absurd (hnt x h9) id) hlocks hce hcv hcl (fun t ht hvm => ⟨(), trivial, hbx, hS.F ht⟩) hS.2.2 (Nat.le_of_ble_eq_true rfl) (Nat.le_of_ble_eq_true rfl)

theorem dX11_value_0 : decode cX11_value 0 = .ok (.aload_n 0, 1) := by decide +kernel
theorem dX11_value_1 : decode cX11_value 1 = .ok (.iload_n 1, 1) := by decide +kernel
theorem dX11_value_2 : decode cX11_value 2 = .ok (.invokevirtual 103, 3) := by decide +kernel
set_option maxHeartbeats 4000000 in
set_option maxRecDepth 100000 in
/-- value on a fresh object: throws -/
theorem c_X11_value (l : Launch) (hfl : l.stackTraces = false) (D : va_G) (sz : Nat) (h0 : Nat) (q : Nat → Nat) (p0 p1 p2 p3 : Int32) : vx_Met l yX11_value (Cond.code yX11_value cX11_value 11 (some .int) :: pv_W) ({ frames := 8, cells := 1, slots := 6, locals := 122 } : Room) (va_Pc [.ref h0, .int p0, .int p1, .int p2, .int p3] (pv_P D [] [(h0, .inr (0, [.ref (q 0), .int 0, .int 108, .ref (q 1), .int 0, .ref (q 2), .int 0, .ref (q 3), .ref (q 4), .int 1, .ref (q 5), .ref (q 6), .ref (q 7), .ref (q 8), .ref (q 9)]))] (va_A [] sz) sz)) (fun _ _ _ _ => False) (vx_X (fun _ : Unit => True) (fun E _ _ => E = "java/lang/IndexOutOfBoundsException") (va_A [] sz)) 1 6 (va_A [] sz) := by
  refine vx_ofW (cc := cX11_value) (maxL := 11) (ret := (some .int)) (by decide) rfl ?_
  intro p e s m args below meth c s₁ B hml hnt hv
  obtain ⟨rfl, hsz, hE, hP, hK, hD0⟩ := hv
  have hx := B.exec
  have hb := B.bytes
  have hr := B.returns
  have hts := fun (w : Cond) (h : w ∈ pv_W) => atoms_spec (ws := Cond.code yX11_value cX11_value 11 (some .int) :: pv_W) B.pre w (List.mem_cons_of_mem _ h)
  have hg := fun {w : Cond} (h : w ∈ lw_tbl) (g : goodWord w = true) => hts w (pv_in h g)
  have hown : s.vm.findClass RX11 = some m.cls := findClass_of_methodNamed B.named
  have hlocks := B.notSynchronized
  subst hsz
  have hD := hD0
  generalize hAe : va_A [] s.heap.size = A at hE ⊢
  have hA : ∀ q : Nat, s.heap.size ≤ q → A q := fun q h => by rw [← hAe]; exact Or.inr h
  have hS : va_S A s.heap s.heap [] := va_S.rf
  have hP : va_P D pv_cl [(h0, .inr (0, [.ref (q 0), .int 0, .int 108, .ref (q 1), .int 0, .ref (q 2), .int 0, .ref (q 3), .ref (q 4), .int 1, .ref (q 5), .ref (q 6), .ref (q 7), .ref (q 8), .ref (q 9)]))] s.heap := hP
  have hl := lv_entry ([.ref h0, .int p0, .int p1, .int p2, .int p3]) (n := 11) (Nat.le_of_ble_eq_true rfl)
  rw [lg_entry_eq]
  generalize (lg_sl ([.ref h0, .int p0, .int p1, .int p2, .int p3]) ++ List.replicate (11 - (lg_sl ([.ref h0, .int p0, .int p1, .int p2, .int p3])).length) Slot.unset).toArray = ls at hl ⊢
  have hl : lv_has ls 11 [(0, .ref h0), (1, .int p0), (2, .int p1), (3, .int p2), (4, .int p3)] := hl
  refine lv_aload_n hx hb dX11_value_0 rfl (lv_at hl 0 rfl) ?_
  refine lv_iload_n hx hb dX11_value_1 rfl (lv_at hl 1 rfl) ?_
  have hF := pv_new hA hS.1
  refine pv_thrown (vx_runV (As := [.int p0]) (rest := []) ⟨hx, hb, hml, hown, hts⟩ (c_X11_polynomialAt l hfl D _ h0 q p0) (cwV 1 hts (pv_gV w5_112 w5_114 wp3_13 w1_1 w5_115) rfl rfl rfl (by decide +kernel) ⟨Nat.le_of_ble_eq_true rfl, Nat.le_of_ble_eq_true rfl⟩) (pv_pV hE hS hF (hP.sub [0] rfl) (hK.sub [] rfl) (hD.sub [0] (by decide) rfl) (va_recv (ci := 0) (q0 := 0) hK hP rfl rfl)) rfl rfl hl.1 rfl (lv_room (Nat.le_of_ble_eq_true rfl)) dX11_value_2 ⟨Nat.le_of_ble_eq_true rfl, Nat.le_of_ble_eq_true rfl⟩) (fun _ _ _ h => h) hS hF hF (fun E ce q9 u t H1 locs1 ht hvm hpx hbx hz1 hk1 hS hce hcv hcl => ?_)
  exact vx_out (fun x h9 => absurd (hnt x h9) id) hlocks hce hcv hcl (fun t ht hvm => ⟨(), trivial, hbx, hS.F ht⟩) hS.2.2 (Nat.le_of_ble_eq_true rfl) (Nat.le_of_ble_eq_true rfl)

theorem dX11_content_0 : decode cX11_content 0 = .ok (.aload_n 0, 1) := by decide +kernel
theorem dX11_content_1 : decode cX11_content 1 = .ok (.iload_n 1, 1) := by decide +kernel
theorem dX11_content_2 : decode cX11_content 2 = .ok (.invokevirtual 103, 3) := by decide +kernel
set_option maxHeartbeats 4000000 in
set_option maxRecDepth 100000 in
/-- content on a fresh object: throws -/
theorem c_X11_content (l : Launch) (hfl : l.stackTraces = false) (D : va_G) (sz : Nat) (h0 : Nat) (q : Nat → Nat) (p0 : Int32) : vx_Met l yX11_content (Cond.code yX11_content cX11_content 3 (some .long) :: pv_W) ({ frames := 8, cells := 1, slots := 6, locals := 122 } : Room) (va_Pc [.ref h0, .int p0] (pv_P D [] [(h0, .inr (0, [.ref (q 0), .int 0, .int 108, .ref (q 1), .int 0, .ref (q 2), .int 0, .ref (q 3), .ref (q 4), .int 1, .ref (q 5), .ref (q 6), .ref (q 7), .ref (q 8), .ref (q 9)]))] (va_A [] sz) sz)) (fun _ _ _ _ => False) (vx_X (fun _ : Unit => True) (fun E _ _ => E = "java/lang/IndexOutOfBoundsException") (va_A [] sz)) 1 6 (va_A [] sz) := by
  refine vx_ofW (cc := cX11_content) (maxL := 3) (ret := (some .long)) (by decide) rfl ?_
  intro p e s m args below meth c s₁ B hml hnt hv
  obtain ⟨rfl, hsz, hE, hP, hK, hD0⟩ := hv
  have hx := B.exec
  have hb := B.bytes
  have hr := B.returns
  have hts := fun (w : Cond) (h : w ∈ pv_W) => atoms_spec (ws := Cond.code yX11_content cX11_content 3 (some .long) :: pv_W) B.pre w (List.mem_cons_of_mem _ h)
  have hg := fun {w : Cond} (h : w ∈ lw_tbl) (g : goodWord w = true) => hts w (pv_in h g)
  have hown : s.vm.findClass RX11 = some m.cls := findClass_of_methodNamed B.named
  have hlocks := B.notSynchronized
  subst hsz
  have hD := hD0
  generalize hAe : va_A [] s.heap.size = A at hE ⊢
  have hA : ∀ q : Nat, s.heap.size ≤ q → A q := fun q h => by rw [← hAe]; exact Or.inr h
  have hS : va_S A s.heap s.heap [] := va_S.rf
  have hP : va_P D pv_cl [(h0, .inr (0, [.ref (q 0), .int 0, .int 108, .ref (q 1), .int 0, .ref (q 2), .int 0, .ref (q 3), .ref (q 4), .int 1, .ref (q 5), .ref (q 6), .ref (q 7), .ref (q 8), .ref (q 9)]))] s.heap := hP
  have hl := lv_entry ([.ref h0, .int p0]) (n := 3) (Nat.le_of_ble_eq_true rfl)
  rw [lg_entry_eq]
  generalize (lg_sl ([.ref h0, .int p0]) ++ List.replicate (3 - (lg_sl ([.ref h0, .int p0])).length) Slot.unset).toArray = ls at hl ⊢
  have hl : lv_has ls 3 [(0, .ref h0), (1, .int p0)] := hl
  refine lv_aload_n hx hb dX11_content_0 rfl (lv_at hl 0 rfl) ?_
  refine lv_iload_n hx hb dX11_content_1 rfl (lv_at hl 1 rfl) ?_
  have hF := pv_new hA hS.1
  refine pv_thrown (vx_runV (As := [.int p0]) (rest := []) ⟨hx, hb, hml, hown, hts⟩ (c_X11_polynomialAt l hfl D _ h0 q p0) (cwV 1 hts (pv_gV w5_112 w5_114 wp3_13 w1_1 w5_115) rfl rfl rfl (by decide +kernel) ⟨Nat.le_of_ble_eq_true rfl, Nat.le_of_ble_eq_true rfl⟩) (pv_pV hE hS hF (hP.sub [0] rfl) (hK.sub [] rfl) (hD.sub [0] (by decide) rfl) (va_recv (ci := 0) (q0 := 0) hK hP rfl rfl)) rfl rfl hl.1 rfl (lv_room (Nat.le_of_ble_eq_true rfl)) dX11_content_2 ⟨Nat.le_of_ble_eq_true rfl, Nat.le_of_ble_eq_true rfl⟩) (fun _ _ _ h => h) hS hF hF (fun E ce q9 u t H1 locs1 ht hvm hpx hbx hz1 hk1 hS hce hcv hcl => ?_)
  exact vx_out (fun x h9 => absurd (hnt x h9) id) hlocks hce hcv hcl (fun t ht hvm => ⟨(), trivial, hbx, hS.F ht⟩) hS.2.2 (Nat.le_of_ble_eq_true rfl) (Nat.le_of_ble_eq_true rfl)

theorem dX11_primitive_0 : decode cX11_primitive 0 = .ok (.aload_n 0, 1) := by decide +kernel
theorem dX11_primitive_1 : decode cX11_primitive 1 = .ok (.iload_n 1, 1) := by decide +kernel
theorem dX11_primitive_2 : decode cX11_primitive 2 = .ok (.invokevirtual 103, 3) := by decide +kernel
set_option maxHeartbeats 4000000 in
set_option maxRecDepth 100000 in
/-- primitive on a fresh object: throws -/
theorem c_X11_primitive (l : Launch) (hfl : l.stackTraces = false) (D : va_G) (sz : Nat) (h0 : Nat) (q : Nat → Nat) (p0 : Int32) : vx_Met l yX11_primitive (Cond.code yX11_primitive cX11_primitive 6 (some .int) :: pv_W) ({ frames := 8, cells := 1, slots := 6, locals := 122 } : Room) (va_Pc [.ref h0, .int p0] (pv_P D [] [(h0, .inr (0, [.ref (q 0), .int 0, .int 108, .ref (q 1), .int 0, .ref (q 2), .int 0, .ref (q 3), .ref (q 4), .int 1, .ref (q 5), .ref (q 6), .ref (q 7), .ref (q 8), .ref (q 9)]))] (va_A [] sz) sz)) (fun _ _ _ _ => False) (vx_X (fun _ : Unit => True) (fun E _ _ => E = "java/lang/IndexOutOfBoundsException") (va_A [] sz)) 1 6 (va_A [] sz) := by
  refine vx_ofW (cc := cX11_primitive) (maxL := 6) (ret := (some .int)) (by decide) rfl ?_
  intro p e s m args below meth c s₁ B hml hnt hv
  obtain ⟨rfl, hsz, hE, hP, hK, hD0⟩ := hv
  have hx := B.exec
  have hb := B.bytes
  have hr := B.returns
  have hts := fun (w : Cond) (h : w ∈ pv_W) => atoms_spec (ws := Cond.code yX11_primitive cX11_primitive 6 (some .int) :: pv_W) B.pre w (List.mem_cons_of_mem _ h)
  have hg := fun {w : Cond} (h : w ∈ lw_tbl) (g : goodWord w = true) => hts w (pv_in h g)
  have hown : s.vm.findClass RX11 = some m.cls := findClass_of_methodNamed B.named
  have hlocks := B.notSynchronized
  subst hsz
  have hD := hD0
  generalize hAe : va_A [] s.heap.size = A at hE ⊢
  have hA : ∀ q : Nat, s.heap.size ≤ q → A q := fun q h => by rw [← hAe]; exact Or.inr h
  have hS : va_S A s.heap s.heap [] := va_S.rf
  have hP : va_P D pv_cl [(h0, .inr (0, [.ref (q 0), .int 0, .int 108, .ref (q 1), .int 0, .ref (q 2), .int 0, .ref (q 3), .ref (q 4), .int 1, .ref (q 5), .ref (q 6), .ref (q 7), .ref (q 8), .ref (q 9)]))] s.heap := hP
  have hl := lv_entry ([.ref h0, .int p0]) (n := 6) (Nat.le_of_ble_eq_true rfl)
  rw [lg_entry_eq]
  generalize (lg_sl ([.ref h0, .int p0]) ++ List.replicate (6 - (lg_sl ([.ref h0, .int p0])).length) Slot.unset).toArray = ls at hl ⊢
  have hl : lv_has ls 6 [(0, .ref h0), (1, .int p0)] := hl
  refine lv_aload_n hx hb dX11_primitive_0 rfl (lv_at hl 0 rfl) ?_
  refine lv_iload_n hx hb dX11_primitive_1 rfl (lv_at hl 1 rfl) ?_
  have hF := pv_new hA hS.1
  refine pv_thrown (vx_runV (As := [.int p0]) (rest := []) ⟨hx, hb, hml, hown, hts⟩ (c_X11_polynomialAt l hfl D _ h0 q p0) (cwV 1 hts (pv_gV w5_112 w5_114 wp3_13 w1_1 w5_115) rfl rfl rfl (by decide +kernel) ⟨Nat.le_of_ble_eq_true rfl, Nat.le_of_ble_eq_true rfl⟩) (pv_pV hE hS hF (hP.sub [0] rfl) (hK.sub [] rfl) (hD.sub [0] (by decide) rfl) (va_recv (ci := 0) (q0 := 0) hK hP rfl rfl)) rfl rfl hl.1 rfl (lv_room (Nat.le_of_ble_eq_true rfl)) dX11_primitive_2 ⟨Nat.le_of_ble_eq_true rfl, Nat.le_of_ble_eq_true rfl⟩) (fun _ _ _ h => h) hS hF hF (fun E ce q9 u t H1 locs1 ht hvm hpx hbx hz1 hk1 hS hce hcv hcl => ?_)
  exact vx_out (fun x h9 => absurd (hnt x h9) id) hlocks hce hcv hcl (fun t ht hvm => ⟨(), trivial, hbx, hS.F ht⟩) hS.2.2 (Nat.le_of_ble_eq_true rfl) (Nat.le_of_ble_eq_true rfl)

theorem dX11_modulo_0 : decode cX11_modulo 0 = .ok (.aload_n 0, 1) := by decide +kernel
theorem dX11_modulo_1 : decode cX11_modulo 1 = .ok (.iload_n 1, 1) := by decide +kernel
theorem dX11_modulo_2 : decode cX11_modulo 2 = .ok (.invokevirtual 103, 3) := by decide +kernel
set_option maxHeartbeats 4000000 in
set_option maxRecDepth 100000 in
/-- modulo on a fresh object: throws -/
theorem c_X11_modulo (l : Launch) (hfl : l.stackTraces = false) (D : va_G) (sz : Nat) (h0 : Nat) (q : Nat → Nat) (p0 p1 : Int32) : vx_Met l yX11_modulo (Cond.code yX11_modulo cX11_modulo 5 (some .int) :: pv_W) ({ frames := 8, cells := 1, slots := 6, locals := 122 } : Room) (va_Pc [.ref h0, .int p0, .int p1] (pv_P D [] [(h0, .inr (0, [.ref (q 0), .int 0, .int 108, .ref (q 1), .int 0, .ref (q 2), .int 0, .ref (q 3), .ref (q 4), .int 1, .ref (q 5), .ref (q 6), .ref (q 7), .ref (q 8), .ref (q 9)]))] (va_A [] sz) sz)) (fun _ _ _ _ => False) (vx_X (fun _ : Unit => True) (fun E _ _ => E = "java/lang/IndexOutOfBoundsException") (va_A [] sz)) 1 6 (va_A [] sz) := by
  refine vx_ofW (cc := cX11_modulo) (maxL := 5) (ret := (some .int)) (by decide) rfl ?_
  intro p e s m args below meth c s₁ B hml hnt hv
  obtain ⟨rfl, hsz, hE, hP, hK, hD0⟩ := hv
  have hx := B.exec
  have hb := B.bytes
  have hr := B.returns
  have hts := fun (w : Cond) (h : w ∈ pv_W) => atoms_spec (ws := Cond.code yX11_modulo cX11_modulo 5 (some .int) :: pv_W) B.pre w (List.mem_cons_of_mem _ h)
  have hg := fun {w : Cond} (h : w ∈ lw_tbl) (g : goodWord w = true) => hts w (pv_in h g)
  have hown : s.vm.findClass RX11 = some m.cls := findClass_of_methodNamed B.named
  have hlocks := B.notSynchronized
  subst hsz
  have hD := hD0
  generalize hAe : va_A [] s.heap.size = A at hE ⊢
  have hA : ∀ q : Nat, s.heap.size ≤ q → A q := fun q h => by rw [← hAe]; exact Or.inr h
  have hS : va_S A s.heap s.heap [] := va_S.rf
  have hP : va_P D pv_cl [(h0, .inr (0, [.ref (q 0), .int 0, .int 108, .ref (q 1), .int 0, .ref (q 2), .int 0, .ref (q 3), .ref (q 4), .int 1, .ref (q 5), .ref (q 6), .ref (q 7), .ref (q 8), .ref (q 9)]))] s.heap := hP
  have hl := lv_entry ([.ref h0, .int p0, .int p1]) (n := 5) (Nat.le_of_ble_eq_true rfl)
  rw [lg_entry_eq]
  generalize (lg_sl ([.ref h0, .int p0, .int p1]) ++ List.replicate (5 - (lg_sl ([.ref h0, .int p0, .int p1])).length) Slot.unset).toArray = ls at hl ⊢
  have hl : lv_has ls 5 [(0, .ref h0), (1, .int p0), (2, .int p1)] := hl
  refine lv_aload_n hx hb dX11_modulo_0 rfl (lv_at hl 0 rfl) ?_
  refine lv_iload_n hx hb dX11_modulo_1 rfl (lv_at hl 1 rfl) ?_
  have hF := pv_new hA hS.1
  refine pv_thrown (vx_runV (As := [.int p0]) (rest := []) ⟨hx, hb, hml, hown, hts⟩ (c_X11_polynomialAt l hfl D _ h0 q p0) (cwV 1 hts (pv_gV w5_112 w5_114 wp3_13 w1_1 w5_115) rfl rfl rfl (by decide +kernel) ⟨Nat.le_of_ble_eq_true rfl, Nat.le_of_ble_eq_true rfl⟩) (pv_pV hE hS hF (hP.sub [0] rfl) (hK.sub [] rfl) (hD.sub [0] (by decide) rfl) (va_recv (ci := 0) (q0 := 0) hK hP rfl rfl)) rfl rfl hl.1 rfl (lv_room (Nat.le_of_ble_eq_true rfl)) dX11_modulo_2 ⟨Nat.le_of_ble_eq_true rfl, Nat.le_of_ble_eq_true rfl⟩) (fun _ _ _ h => h) hS hF hF (fun E ce q9 u t H1 locs1 ht hvm hpx hbx hz1 hk1 hS hce hcv hcl => ?_)
  exact vx_out (fun x h9 => absurd (hnt x h9) id) hlocks hce hcv hcl (fun t ht hvm => ⟨(), trivial, hbx, hS.F ht⟩) hS.2.2 (Nat.le_of_ble_eq_true rfl) (Nat.le_of_ble_eq_true rfl)

theorem dX11_quotient_0 : decode cX11_quotient 0 = .ok (.aload_n 0, 1) := by decide +kernel
theorem dX11_quotient_1 : decode cX11_quotient 1 = .ok (.iload_n 1, 1) := by decide +kernel
theorem dX11_quotient_2 : decode cX11_quotient 2 = .ok (.invokevirtual 103, 3) := by decide +kernel
set_option maxHeartbeats 4000000 in
set_option maxRecDepth 100000 in
/-- quotient on a fresh object: throws -/
theorem c_X11_quotient (l : Launch) (hfl : l.stackTraces = false) (D : va_G) (sz : Nat) (h0 : Nat) (q : Nat → Nat) (p0 p1 : Int32) : vx_Met l yX11_quotient (Cond.code yX11_quotient cX11_quotient 5 (some .int) :: pv_W) ({ frames := 8, cells := 1, slots := 6, locals := 122 } : Room) (va_Pc [.ref h0, .int p0, .int p1] (pv_P D [] [(h0, .inr (0, [.ref (q 0), .int 0, .int 108, .ref (q 1), .int 0, .ref (q 2), .int 0, .ref (q 3), .ref (q 4), .int 1, .ref (q 5), .ref (q 6), .ref (q 7), .ref (q 8), .ref (q 9)]))] (va_A [] sz) sz)) (fun _ _ _ _ => False) (vx_X (fun _ : Unit => True) (fun E _ _ => E = "java/lang/IndexOutOfBoundsException") (va_A [] sz)) 1 6 (va_A [] sz) := by
  refine vx_ofW (cc := cX11_quotient) (maxL := 5) (ret := (some .int)) (by decide) rfl ?_
  intro p e s m args below meth c s₁ B hml hnt hv
  obtain ⟨rfl, hsz, hE, hP, hK, hD0⟩ := hv
  have hx := B.exec
  have hb := B.bytes
  have hr := B.returns
  have hts := fun (w : Cond) (h : w ∈ pv_W) => atoms_spec (ws := Cond.code yX11_quotient cX11_quotient 5 (some .int) :: pv_W) B.pre w (List.mem_cons_of_mem _ h)
  have hg := fun {w : Cond} (h : w ∈ lw_tbl) (g : goodWord w = true) => hts w (pv_in h g)
  have hown : s.vm.findClass RX11 = some m.cls := findClass_of_methodNamed B.named
  have hlocks := B.notSynchronized
  subst hsz
  have hD := hD0
  generalize hAe : va_A [] s.heap.size = A at hE ⊢
  have hA : ∀ q : Nat, s.heap.size ≤ q → A q := fun q h => by rw [← hAe]; exact Or.inr h
  have hS : va_S A s.heap s.heap [] := va_S.rf
  have hP : va_P D pv_cl [(h0, .inr (0, [.ref (q 0), .int 0, .int 108, .ref (q 1), .int 0, .ref (q 2), .int 0, .ref (q 3), .ref (q 4), .int 1, .ref (q 5), .ref (q 6), .ref (q 7), .ref (q 8), .ref (q 9)]))] s.heap := hP
  have hl := lv_entry ([.ref h0, .int p0, .int p1]) (n := 5) (Nat.le_of_ble_eq_true rfl)
  rw [lg_entry_eq]
  generalize (lg_sl ([.ref h0, .int p0, .int p1]) ++ List.replicate (5 - (lg_sl ([.ref h0, .int p0, .int p1])).length) Slot.unset).toArray = ls at hl ⊢
  have hl : lv_has ls 5 [(0, .ref h0), (1, .int p0), (2, .int p1)] := hl
  refine lv_aload_n hx hb dX11_quotient_0 rfl (lv_at hl 0 rfl) ?_
  refine lv_iload_n hx hb dX11_quotient_1 rfl (lv_at hl 1 rfl) ?_
  have hF := pv_new hA hS.1
  refine pv_thrown (vx_runV (As := [.int p0]) (rest := []) ⟨hx, hb, hml, hown, hts⟩ (c_X11_polynomialAt l hfl D _ h0 q p0) (cwV 1 hts (pv_gV w5_112 w5_114 wp3_13 w1_1 w5_115) rfl rfl rfl (by decide +kernel) ⟨Nat.le_of_ble_eq_true rfl, Nat.le_of_ble_eq_true rfl⟩) (pv_pV hE hS hF (hP.sub [0] rfl) (hK.sub [] rfl) (hD.sub [0] (by decide) rfl) (va_recv (ci := 0) (q0 := 0) hK hP rfl rfl)) rfl rfl hl.1 rfl (lv_room (Nat.le_of_ble_eq_true rfl)) dX11_quotient_2 ⟨Nat.le_of_ble_eq_true rfl, Nat.le_of_ble_eq_true rfl⟩) (fun _ _ _ h => h) hS hF hF (fun E ce q9 u t H1 locs1 ht hvm hpx hbx hz1 hk1 hS hce hcv hcl => ?_)
  exact vx_out (fun x h9 => absurd (hnt x h9) id) hlocks hce hcv hcl (fun t ht hvm => ⟨(), trivial, hbx, hS.F ht⟩) hS.2.2 (Nat.le_of_ble_eq_true rfl) (Nat.le_of_ble_eq_true rfl)

theorem dX11_remainder_0 : decode cX11_remainder 0 = .ok (.aload_n 0, 1) := by decide +kernel
theorem dX11_remainder_1 : decode cX11_remainder 1 = .ok (.iload_n 1, 1) := by decide +kernel
theorem dX11_remainder_2 : decode cX11_remainder 2 = .ok (.invokevirtual 103, 3) := by decide +kernel
set_option maxHeartbeats 4000000 in
set_option maxRecDepth 100000 in
/-- remainder on a fresh object: throws -/
theorem c_X11_remainder (l : Launch) (hfl : l.stackTraces = false) (D : va_G) (sz : Nat) (h0 : Nat) (q : Nat → Nat) (p0 p1 : Int32) : vx_Met l yX11_remainder (Cond.code yX11_remainder cX11_remainder 5 (some .int) :: pv_W) ({ frames := 8, cells := 1, slots := 6, locals := 122 } : Room) (va_Pc [.ref h0, .int p0, .int p1] (pv_P D [] [(h0, .inr (0, [.ref (q 0), .int 0, .int 108, .ref (q 1), .int 0, .ref (q 2), .int 0, .ref (q 3), .ref (q 4), .int 1, .ref (q 5), .ref (q 6), .ref (q 7), .ref (q 8), .ref (q 9)]))] (va_A [] sz) sz)) (fun _ _ _ _ => False) (vx_X (fun _ : Unit => True) (fun E _ _ => E = "java/lang/IndexOutOfBoundsException") (va_A [] sz)) 1 6 (va_A [] sz) := by
  refine vx_ofW (cc := cX11_remainder) (maxL := 5) (ret := (some .int)) (by decide) rfl ?_
  intro p e s m args below meth c s₁ B hml hnt hv
  obtain ⟨rfl, hsz, hE, hP, hK, hD0⟩ := hv
  have hx := B.exec
  have hb := B.bytes
  have hr := B.returns
  have hts := fun (w : Cond) (h : w ∈ pv_W) => atoms_spec (ws := Cond.code yX11_remainder cX11_remainder 5 (some .int) :: pv_W) B.pre w (List.mem_cons_of_mem _ h)
  have hg := fun {w : Cond} (h : w ∈ lw_tbl) (g : goodWord w = true) => hts w (pv_in h g)
  have hown : s.vm.findClass RX11 = some m.cls := findClass_of_methodNamed B.named
  have hlocks := B.notSynchronized
  subst hsz
  have hD := hD0
  generalize hAe : va_A [] s.heap.size = A at hE ⊢
  have hA : ∀ q : Nat, s.heap.size ≤ q → A q := fun q h => by rw [← hAe]; exact Or.inr h
  have hS : va_S A s.heap s.heap [] := va_S.rf
  have hP : va_P D pv_cl [(h0, .inr (0, [.ref (q 0), .int 0, .int 108, .ref (q 1), .int 0, .ref (q 2), .int 0, .ref (q 3), .ref (q 4), .int 1, .ref (q 5), .ref (q 6), .ref (q 7), .ref (q 8), .ref (q 9)]))] s.heap := hP
  have hl := lv_entry ([.ref h0, .int p0, .int p1]) (n := 5) (Nat.le_of_ble_eq_true rfl)
  rw [lg_entry_eq]
  generalize (lg_sl ([.ref h0, .int p0, .int p1]) ++ List.replicate (5 - (lg_sl ([.ref h0, .int p0, .int p1])).length) Slot.unset).toArray = ls at hl ⊢
  have hl : lv_has ls 5 [(0, .ref h0), (1, .int p0), (2, .int p1)] := hl
  refine lv_aload_n hx hb dX11_remainder_0 rfl (lv_at hl 0 rfl) ?_
  refine lv_iload_n hx hb dX11_remainder_1 rfl (lv_at hl 1 rfl) ?_
  have hF := pv_new hA hS.1
  refine pv_thrown (vx_runV (As := [.int p0]) (rest := []) ⟨hx, hb, hml, hown, hts⟩ (c_X11_polynomialAt l hfl D _ h0 q p0) (cwV 1 hts (pv_gV w5_112 w5_114 wp3_13 w1_1 w5_115) rfl rfl rfl (by decide +kernel) ⟨Nat.le_of_ble_eq_true rfl, Nat.le_of_ble_eq_true rfl⟩) (pv_pV hE hS hF (hP.sub [0] rfl) (hK.sub [] rfl) (hD.sub [0] (by decide) rfl) (va_recv (ci := 0) (q0 := 0) hK hP rfl rfl)) rfl rfl hl.1 rfl (lv_room (Nat.le_of_ble_eq_true rfl)) dX11_remainder_2 ⟨Nat.le_of_ble_eq_true rfl, Nat.le_of_ble_eq_true rfl⟩) (fun _ _ _ h => h) hS hF hF (fun E ce q9 u t H1 locs1 ht hvm hpx hbx hz1 hk1 hS hce hcv hcl => ?_)
  exact vx_out (fun x h9 => absurd (hnt x h9) id) hlocks hce hcv hcl (fun t ht hvm => ⟨(), trivial, hbx, hS.F ht⟩) hS.2.2 (Nat.le_of_ble_eq_true rfl) (Nat.le_of_ble_eq_true rfl)

theorem dX11_divisor_0 : decode cX11_divisor 0 = .ok (.aload_n 0, 1) := by decide +kernel
theorem dX11_divisor_1 : decode cX11_divisor 1 = .ok (.iload_n 1, 1) := by decide +kernel
theorem dX11_divisor_2 : decode cX11_divisor 2 = .ok (.invokevirtual 103, 3) := by decide +kernel
set_option maxHeartbeats 4000000 in
set_option maxRecDepth 100000 in
/-- divisor on a fresh object: throws -/
theorem c_X11_divisor (l : Launch) (hfl : l.stackTraces = false) (D : va_G) (sz : Nat) (h0 : Nat) (q : Nat → Nat) (p0 p1 : Int32) : vx_Met l yX11_divisor (Cond.code yX11_divisor cX11_divisor 5 (some .int) :: pv_W) ({ frames := 8, cells := 1, slots := 6, locals := 122 } : Room) (va_Pc [.ref h0, .int p0, .int p1] (pv_P D [] [(h0, .inr (0, [.ref (q 0), .int 0, .int 108, .ref (q 1), .int 0, .ref (q 2), .int 0, .ref (q 3), .ref (q 4), .int 1, .ref (q 5), .ref (q 6), .ref (q 7), .ref (q 8), .ref (q 9)]))] (va_A [] sz) sz)) (fun _ _ _ _ => False) (vx_X (fun _ : Unit => True) (fun E _ _ => E = "java/lang/IndexOutOfBoundsException") (va_A [] sz)) 1 6 (va_A [] sz) := by
  refine vx_ofW (cc := cX11_divisor) (maxL := 5) (ret := (some .int)) (by decide) rfl ?_
  intro p e s m args below meth c s₁ B hml hnt hv
  obtain ⟨rfl, hsz, hE, hP, hK, hD0⟩ := hv
  have hx := B.exec
  have hb := B.bytes
  have hr := B.returns
  have hts := fun (w : Cond) (h : w ∈ pv_W) => atoms_spec (ws := Cond.code yX11_divisor cX11_divisor 5 (some .int) :: pv_W) B.pre w (List.mem_cons_of_mem _ h)
  have hg := fun {w : Cond} (h : w ∈ lw_tbl) (g : goodWord w = true) => hts w (pv_in h g)
  have hown : s.vm.findClass RX11 = some m.cls := findClass_of_methodNamed B.named
  have hlocks := B.notSynchronized
  subst hsz
  have hD := hD0
  generalize hAe : va_A [] s.heap.size = A at hE ⊢
  have hA : ∀ q : Nat, s.heap.size ≤ q → A q := fun q h => by rw [← hAe]; exact Or.inr h
  have hS : va_S A s.heap s.heap [] := va_S.rf
  have hP : va_P D pv_cl [(h0, .inr (0, [.ref (q 0), .int 0, .int 108, .ref (q 1), .int 0, .ref (q 2), .int 0, .ref (q 3), .ref (q 4), .int 1, .ref (q 5), .ref (q 6), .ref (q 7), .ref (q 8), .ref (q 9)]))] s.heap := hP
  have hl := lv_entry ([.ref h0, .int p0, .int p1]) (n := 5) (Nat.le_of_ble_eq_true rfl)
  rw [lg_entry_eq]
  generalize (lg_sl ([.ref h0, .int p0, .int p1]) ++ List.replicate (5 - (lg_sl ([.ref h0, .int p0, .int p1])).length) Slot.unset).toArray = ls at hl ⊢
  have hl : lv_has ls 5 [(0, .ref h0), (1, .int p0), (2, .int p1)] := hl
  refine lv_aload_n hx hb dX11_divisor_0 rfl (lv_at hl 0 rfl) ?_
  refine lv_iload_n hx hb dX11_divisor_1 rfl (lv_at hl 1 rfl) ?_
  have hF := pv_new hA hS.1
  refine pv_thrown (vx_runV (As := [.int p0]) (rest := []) ⟨hx, hb, hml, hown, hts⟩ (c_X11_polynomialAt l hfl D _ h0 q p0) (cwV 1 hts (pv_gV w5_112 w5_114 wp3_13 w1_1 w5_115) rfl rfl rfl (by decide +kernel) ⟨Nat.le_of_ble_eq_true rfl, Nat.le_of_ble_eq_true rfl⟩) (pv_pV hE hS hF (hP.sub [0] rfl) (hK.sub [] rfl) (hD.sub [0] (by decide) rfl) (va_recv (ci := 0) (q0 := 0) hK hP rfl rfl)) rfl rfl hl.1 rfl (lv_room (Nat.le_of_ble_eq_true rfl)) dX11_divisor_2 ⟨Nat.le_of_ble_eq_true rfl, Nat.le_of_ble_eq_true rfl⟩) (fun _ _ _ h => h) hS hF hF (fun E ce q9 u t H1 locs1 ht hvm hpx hbx hz1 hk1 hS hce hcv hcl => ?_)
  exact vx_out (fun x h9 => absurd (hnt x h9) id) hlocks hce hcv hcl (fun t ht hvm => ⟨(), trivial, hbx, hS.F ht⟩) hS.2.2 (Nat.le_of_ble_eq_true rfl) (Nat.le_of_ble_eq_true rfl)

theorem dX11_factors_0 : decode cX11_factors 0 = .ok (.aload_n 0, 1) := by decide +kernel
theorem dX11_factors_1 : decode cX11_factors 1 = .ok (.iload_n 1, 1) := by decide +kernel
theorem dX11_factors_2 : decode cX11_factors 2 = .ok (.invokevirtual 103, 3) := by decide +kernel
set_option maxHeartbeats 4000000 in
set_option maxRecDepth 100000 in
/-- factors on a fresh object: throws -/
theorem c_X11_factors (l : Launch) (hfl : l.stackTraces = false) (D : va_G) (sz : Nat) (h0 : Nat) (q : Nat → Nat) (p0 : Int32) : vx_Met l yX11_factors (Cond.code yX11_factors cX11_factors 3 (some .int) :: pv_W) ({ frames := 8, cells := 1, slots := 6, locals := 122 } : Room) (va_Pc [.ref h0, .int p0] (pv_P D [] [(h0, .inr (0, [.ref (q 0), .int 0, .int 108, .ref (q 1), .int 0, .ref (q 2), .int 0, .ref (q 3), .ref (q 4), .int 1, .ref (q 5), .ref (q 6), .ref (q 7), .ref (q 8), .ref (q 9)]))] (va_A [] sz) sz)) (fun _ _ _ _ => False) (vx_X (fun _ : Unit => True) (fun E _ _ => E = "java/lang/IndexOutOfBoundsException") (va_A [] sz)) 1 6 (va_A [] sz) := by
  refine vx_ofW (cc := cX11_factors) (maxL := 3) (ret := (some .int)) (by decide) rfl ?_
  intro p e s m args below meth c s₁ B hml hnt hv
  obtain ⟨rfl, hsz, hE, hP, hK, hD0⟩ := hv
  have hx := B.exec
  have hb := B.bytes
  have hr := B.returns
  have hts := fun (w : Cond) (h : w ∈ pv_W) => atoms_spec (ws := Cond.code yX11_factors cX11_factors 3 (some .int) :: pv_W) B.pre w (List.mem_cons_of_mem _ h)
  have hg := fun {w : Cond} (h : w ∈ lw_tbl) (g : goodWord w = true) => hts w (pv_in h g)
  have hown : s.vm.findClass RX11 = some m.cls := findClass_of_methodNamed B.named
  have hlocks := B.notSynchronized
  subst hsz
  have hD := hD0
  generalize hAe : va_A [] s.heap.size = A at hE ⊢
  have hA : ∀ q : Nat, s.heap.size ≤ q → A q := fun q h => by rw [← hAe]; exact Or.inr h
  have hS : va_S A s.heap s.heap [] := va_S.rf
  have hP : va_P D pv_cl [(h0, .inr (0, [.ref (q 0), .int 0, .int 108, .ref (q 1), .int 0, .ref (q 2), .int 0, .ref (q 3), .ref (q 4), .int 1, .ref (q 5), .ref (q 6), .ref (q 7), .ref (q 8), .ref (q 9)]))] s.heap := hP
  have hl := lv_entry ([.ref h0, .int p0]) (n := 3) (Nat.le_of_ble_eq_true rfl)
  rw [lg_entry_eq]
  generalize (lg_sl ([.ref h0, .int p0]) ++ List.replicate (3 - (lg_sl ([.ref h0, .int p0])).length) Slot.unset).toArray = ls at hl ⊢
  have hl : lv_has ls 3 [(0, .ref h0), (1, .int p0)] := hl
  refine lv_aload_n hx hb dX11_factors_0 rfl (lv_at hl 0 rfl) ?_
  refine lv_iload_n hx hb dX11_factors_1 rfl (lv_at hl 1 rfl) ?_
  have hF := pv_new hA hS.1
  refine pv_thrown (vx_runV (As := [.int p0]) (rest := []) ⟨hx, hb, hml, hown, hts⟩ (c_X11_polynomialAt l hfl D _ h0 q p0) (cwV 1 hts (pv_gV w5_112 w5_114 wp3_13 w1_1 w5_115) rfl rfl rfl (by decide +kernel) ⟨Nat.le_of_ble_eq_true rfl, Nat.le_of_ble_eq_true rfl⟩) (pv_pV hE hS hF (hP.sub [0] rfl) (hK.sub [] rfl) (hD.sub [0] (by decide) rfl) (va_recv (ci := 0) (q0 := 0) hK hP rfl rfl)) rfl rfl hl.1 rfl (lv_room (Nat.le_of_ble_eq_true rfl)) dX11_factors_2 ⟨Nat.le_of_ble_eq_true rfl, Nat.le_of_ble_eq_true rfl⟩) (fun _ _ _ h => h) hS hF hF (fun E ce q9 u t H1 locs1 ht hvm hpx hbx hz1 hk1 hS hce hcv hcl => ?_)
  exact vx_out (fun x h9 => absurd (hnt x h9) id) hlocks hce hcv hcl (fun t ht hvm => ⟨(), trivial, hbx, hS.F ht⟩) hS.2.2 (Nat.le_of_ble_eq_true rfl) (Nat.le_of_ble_eq_true rfl)

theorem dX11_factorAt_0 : decode cX11_factorAt 0 = .ok (.aload_n 0, 1) := by decide +kernel
theorem dX11_factorAt_1 : decode cX11_factorAt 1 = .ok (.iload_n 1, 1) := by decide +kernel
theorem dX11_factorAt_2 : decode cX11_factorAt 2 = .ok (.invokevirtual 103, 3) := by decide +kernel
set_option maxHeartbeats 4000000 in
set_option maxRecDepth 100000 in
/-- factorAt on a fresh object: throws -/
theorem c_X11_factorAt (l : Launch) (hfl : l.stackTraces = false) (D : va_G) (sz : Nat) (h0 : Nat) (q : Nat → Nat) (p0 p1 : Int32) : vx_Met l yX11_factorAt (Cond.code yX11_factorAt cX11_factorAt 4 (some .int) :: pv_W) ({ frames := 8, cells := 1, slots := 6, locals := 122 } : Room) (va_Pc [.ref h0, .int p0, .int p1] (pv_P D [] [(h0, .inr (0, [.ref (q 0), .int 0, .int 108, .ref (q 1), .int 0, .ref (q 2), .int 0, .ref (q 3), .ref (q 4), .int 1, .ref (q 5), .ref (q 6), .ref (q 7), .ref (q 8), .ref (q 9)]))] (va_A [] sz) sz)) (fun _ _ _ _ => False) (vx_X (fun _ : Unit => True) (fun E _ _ => E = "java/lang/IndexOutOfBoundsException") (va_A [] sz)) 1 6 (va_A [] sz) := by
  refine vx_ofW (cc := cX11_factorAt) (maxL := 4) (ret := (some .int)) (by decide) rfl ?_
  intro p e s m args below meth c s₁ B hml hnt hv
  obtain ⟨rfl, hsz, hE, hP, hK, hD0⟩ := hv
  have hx := B.exec
  have hb := B.bytes
  have hr := B.returns
  have hts := fun (w : Cond) (h : w ∈ pv_W) => atoms_spec (ws := Cond.code yX11_factorAt cX11_factorAt 4 (some .int) :: pv_W) B.pre w (List.mem_cons_of_mem _ h)
  have hg := fun {w : Cond} (h : w ∈ lw_tbl) (g : goodWord w = true) => hts w (pv_in h g)
  have hown : s.vm.findClass RX11 = some m.cls := findClass_of_methodNamed B.named
  have hlocks := B.notSynchronized
  subst hsz
  have hD := hD0
  generalize hAe : va_A [] s.heap.size = A at hE ⊢
  have hA : ∀ q : Nat, s.heap.size ≤ q → A q := fun q h => by rw [← hAe]; exact Or.inr h
  have hS : va_S A s.heap s.heap [] := va_S.rf
  have hP : va_P D pv_cl [(h0, .inr (0, [.ref (q 0), .int 0, .int 108, .ref (q 1), .int 0, .ref (q 2), .int 0, .ref (q 3), .ref (q 4), .int 1, .ref (q 5), .ref (q 6), .ref (q 7), .ref (q 8), .ref (q 9)]))] s.heap := hP
  have hl := lv_entry ([.ref h0, .int p0, .int p1]) (n := 4) (Nat.le_of_ble_eq_true rfl)
  rw [lg_entry_eq]
  generalize (lg_sl ([.ref h0, .int p0, .int p1]) ++ List.replicate (4 - (lg_sl ([.ref h0, .int p0, .int p1])).length) Slot.unset).toArray = ls at hl ⊢
  have hl : lv_has ls 4 [(0, .ref h0), (1, .int p0), (2, .int p1)] := hl
  refine lv_aload_n hx hb dX11_factorAt_0 rfl (lv_at hl 0 rfl) ?_
  refine lv_iload_n hx hb dX11_factorAt_1 rfl (lv_at hl 1 rfl) ?_
  have hF := pv_new hA hS.1
  refine pv_thrown (vx_runV (As := [.int p0]) (rest := []) ⟨hx, hb, hml, hown, hts⟩ (c_X11_polynomialAt l hfl D _ h0 q p0) (cwV 1 hts (pv_gV w5_112 w5_114 wp3_13 w1_1 w5_115) rfl rfl rfl (by decide +kernel) ⟨Nat.le_of_ble_eq_true rfl, Nat.le_of_ble_eq_true rfl⟩) (pv_pV hE hS hF (hP.sub [0] rfl) (hK.sub [] rfl) (hD.sub [0] (by decide) rfl) (va_recv (ci := 0) (q0 := 0) hK hP rfl rfl)) rfl rfl hl.1 rfl (lv_room (Nat.le_of_ble_eq_true rfl)) dX11_factorAt_2 ⟨Nat.le_of_ble_eq_true rfl, Nat.le_of_ble_eq_true rfl⟩) (fun _ _ _ h => h) hS hF hF (fun E ce q9 u t H1 locs1 ht hvm hpx hbx hz1 hk1 hS hce hcv hcl => ?_)
  exact vx_out (fun x h9 => absurd (hnt x h9) id) hlocks hce hcv hcl (fun t ht hvm => ⟨(), trivial, hbx, hS.F ht⟩) hS.2.2 (Nat.le_of_ble_eq_true rfl) (Nat.le_of_ble_eq_true rfl)

theorem dX11_multiplicity_0 : decode cX11_multiplicity 0 = .ok (.aload_n 0, 1) := by decide +kernel
theorem dX11_multiplicity_1 : decode cX11_multiplicity 1 = .ok (.iload_n 1, 1) := by decide +kernel
theorem dX11_multiplicity_2 : decode cX11_multiplicity 2 = .ok (.invokevirtual 103, 3) := by decide +kernel
set_option maxHeartbeats 4000000 in
set_option maxRecDepth 100000 in
/-- multiplicity on a fresh object: throws -/
theorem c_X11_multiplicity (l : Launch) (hfl : l.stackTraces = false) (D : va_G) (sz : Nat) (h0 : Nat) (q : Nat → Nat) (p0 p1 : Int32) : vx_Met l yX11_multiplicity (Cond.code yX11_multiplicity cX11_multiplicity 4 (some .int) :: pv_W) ({ frames := 8, cells := 1, slots := 6, locals := 122 } : Room) (va_Pc [.ref h0, .int p0, .int p1] (pv_P D [] [(h0, .inr (0, [.ref (q 0), .int 0, .int 108, .ref (q 1), .int 0, .ref (q 2), .int 0, .ref (q 3), .ref (q 4), .int 1, .ref (q 5), .ref (q 6), .ref (q 7), .ref (q 8), .ref (q 9)]))] (va_A [] sz) sz)) (fun _ _ _ _ => False) (vx_X (fun _ : Unit => True) (fun E _ _ => E = "java/lang/IndexOutOfBoundsException") (va_A [] sz)) 1 6 (va_A [] sz) := by
  refine vx_ofW (cc := cX11_multiplicity) (maxL := 4) (ret := (some .int)) (by decide) rfl ?_
  intro p e s m args below meth c s₁ B hml hnt hv
  obtain ⟨rfl, hsz, hE, hP, hK, hD0⟩ := hv
  have hx := B.exec
  have hb := B.bytes
  have hr := B.returns
  have hts := fun (w : Cond) (h : w ∈ pv_W) => atoms_spec (ws := Cond.code yX11_multiplicity cX11_multiplicity 4 (some .int) :: pv_W) B.pre w (List.mem_cons_of_mem _ h)
  have hg := fun {w : Cond} (h : w ∈ lw_tbl) (g : goodWord w = true) => hts w (pv_in h g)
  have hown : s.vm.findClass RX11 = some m.cls := findClass_of_methodNamed B.named
  have hlocks := B.notSynchronized
  subst hsz
  have hD := hD0
  generalize hAe : va_A [] s.heap.size = A at hE ⊢
  have hA : ∀ q : Nat, s.heap.size ≤ q → A q := fun q h => by rw [← hAe]; exact Or.inr h
  have hS : va_S A s.heap s.heap [] := va_S.rf
  have hP : va_P D pv_cl [(h0, .inr (0, [.ref (q 0), .int 0, .int 108, .ref (q 1), .int 0, .ref (q 2), .int 0, .ref (q 3), .ref (q 4), .int 1, .ref (q 5), .ref (q 6), .ref (q 7), .ref (q 8), .ref (q 9)]))] s.heap := hP
  have hl := lv_entry ([.ref h0, .int p0, .int p1]) (n := 4) (Nat.le_of_ble_eq_true rfl)
  rw [lg_entry_eq]
  generalize (lg_sl ([.ref h0, .int p0, .int p1]) ++ List.replicate (4 - (lg_sl ([.ref h0, .int p0, .int p1])).length) Slot.unset).toArray = ls at hl ⊢
  have hl : lv_has ls 4 [(0, .ref h0), (1, .int p0), (2, .int p1)] := hl
  refine lv_aload_n hx hb dX11_multiplicity_0 rfl (lv_at hl 0 rfl) ?_
  refine lv_iload_n hx hb dX11_multiplicity_1 rfl (lv_at hl 1 rfl) ?_
  have hF := pv_new hA hS.1
  refine pv_thrown (vx_runV (As := [.int p0]) (rest := []) ⟨hx, hb, hml, hown, hts⟩ (c_X11_polynomialAt l hfl D _ h0 q p0) (cwV 1 hts (pv_gV w5_112 w5_114 wp3_13 w1_1 w5_115) rfl rfl rfl (by decide +kernel) ⟨Nat.le_of_ble_eq_true rfl, Nat.le_of_ble_eq_true rfl⟩) (pv_pV hE hS hF (hP.sub [0] rfl) (hK.sub [] rfl) (hD.sub [0] (by decide) rfl) (va_recv (ci := 0) (q0 := 0) hK hP rfl rfl)) rfl rfl hl.1 rfl (lv_room (Nat.le_of_ble_eq_true rfl)) dX11_multiplicity_2 ⟨Nat.le_of_ble_eq_true rfl, Nat.le_of_ble_eq_true rfl⟩) (fun _ _ _ h => h) hS hF hF (fun E ce q9 u t H1 locs1 ht hvm hpx hbx hz1 hk1 hS hce hcv hcl => ?_)
  exact vx_out (fun x h9 => absurd (hnt x h9) id) hlocks hce hcv hcl (fun t ht hvm => ⟨(), trivial, hbx, hS.F ht⟩) hS.2.2 (Nat.le_of_ble_eq_true rfl) (Nat.le_of_ble_eq_true rfl)

theorem dX11_isIrreducible_0 : decode cX11_isIrreducible 0 = .ok (.aload_n 0, 1) := by decide +kernel
theorem dX11_isIrreducible_1 : decode cX11_isIrreducible 1 = .ok (.iload_n 1, 1) := by decide +kernel
theorem dX11_isIrreducible_2 : decode cX11_isIrreducible 2 = .ok (.invokevirtual 103, 3) := by decide +kernel
set_option maxHeartbeats 4000000 in
set_option maxRecDepth 100000 in
/-- isIrreducible on a fresh object: throws -/
theorem c_X11_isIrreducible (l : Launch) (hfl : l.stackTraces = false) (D : va_G) (sz : Nat) (h0 : Nat) (q : Nat → Nat) (p0 : Int32) : vx_Met l yX11_isIrreducible (Cond.code yX11_isIrreducible cX11_isIrreducible 3 (some .boolean) :: pv_W) ({ frames := 8, cells := 1, slots := 6, locals := 122 } : Room) (va_Pc [.ref h0, .int p0] (pv_P D [] [(h0, .inr (0, [.ref (q 0), .int 0, .int 108, .ref (q 1), .int 0, .ref (q 2), .int 0, .ref (q 3), .ref (q 4), .int 1, .ref (q 5), .ref (q 6), .ref (q 7), .ref (q 8), .ref (q 9)]))] (va_A [] sz) sz)) (fun _ _ _ _ => False) (vx_X (fun _ : Unit => True) (fun E _ _ => E = "java/lang/IndexOutOfBoundsException") (va_A [] sz)) 1 6 (va_A [] sz) := by
  refine vx_ofW (cc := cX11_isIrreducible) (maxL := 3) (ret := (some .boolean)) (by decide) rfl ?_
  intro p e s m args below meth c s₁ B hml hnt hv
  obtain ⟨rfl, hsz, hE, hP, hK, hD0⟩ := hv
  have hx := B.exec
  have hb := B.bytes
  have hr := B.returns
  have hts := fun (w : Cond) (h : w ∈ pv_W) => atoms_spec (ws := Cond.code yX11_isIrreducible cX11_isIrreducible 3 (some .boolean) :: pv_W) B.pre w (List.mem_cons_of_mem _ h)
  have hg := fun {w : Cond} (h : w ∈ lw_tbl) (g : goodWord w = true) => hts w (pv_in h g)
  have hown : s.vm.findClass RX11 = some m.cls := findClass_of_methodNamed B.named
  have hlocks := B.notSynchronized
  subst hsz
  have hD := hD0
  generalize hAe : va_A [] s.heap.size = A at hE ⊢
  have hA : ∀ q : Nat, s.heap.size ≤ q → A q := fun q h => by rw [← hAe]; exact Or.inr h
  have hS : va_S A s.heap s.heap [] := va_S.rf
  have hP : va_P D pv_cl [(h0, .inr (0, [.ref (q 0), .int 0, .int 108, .ref (q 1), .int 0, .ref (q 2), .int 0, .ref (q 3), .ref (q 4), .int 1, .ref (q 5), .ref (q 6), .ref (q 7), .ref (q 8), .ref (q 9)]))] s.heap := hP
  have hl := lv_entry ([.ref h0, .int p0]) (n := 3) (Nat.le_of_ble_eq_true rfl)
  rw [lg_entry_eq]
  generalize (lg_sl ([.ref h0, .int p0]) ++ List.replicate (3 - (lg_sl ([.ref h0, .int p0])).length) Slot.unset).toArray = ls at hl ⊢
  have hl : lv_has ls 3 [(0, .ref h0), (1, .int p0)] := hl
  refine lv_aload_n hx hb dX11_isIrreducible_0 rfl (lv_at hl 0 rfl) ?_
  refine lv_iload_n hx hb dX11_isIrreducible_1 rfl (lv_at hl 1 rfl) ?_
  have hF := pv_new hA hS.1
  refine pv_thrown (vx_runV (As := [.int p0]) (rest := []) ⟨hx, hb, hml, hown, hts⟩ (c_X11_polynomialAt l hfl D _ h0 q p0) (cwV 1 hts (pv_gV w5_112 w5_114 wp3_13 w1_1 w5_115) rfl rfl rfl (by decide +kernel) ⟨Nat.le_of_ble_eq_true rfl, Nat.le_of_ble_eq_true rfl⟩) (pv_pV hE hS hF (hP.sub [0] rfl) (hK.sub [] rfl) (hD.sub [0] (by decide) rfl) (va_recv (ci := 0) (q0 := 0) hK hP rfl rfl)) rfl rfl hl.1 rfl (lv_room (Nat.le_of_ble_eq_true rfl)) dX11_isIrreducible_2 ⟨Nat.le_of_ble_eq_true rfl, Nat.le_of_ble_eq_true rfl⟩) (fun _ _ _ h => h) hS hF hF (fun E ce q9 u t H1 locs1 ht hvm hpx hbx hz1 hk1 hS hce hcv hcl => ?_)
  exact vx_out (fun x h9 => absurd (hnt x h9) id) hlocks hce hcv hcl (fun t ht hvm => ⟨(), trivial, hbx, hS.F ht⟩) hS.2.2 (Nat.le_of_ble_eq_true rfl) (Nat.le_of_ble_eq_true rfl)

theorem dX11_roots_0 : decode cX11_roots 0 = .ok (.aload_n 0, 1) := by decide +kernel
theorem dX11_roots_1 : decode cX11_roots 1 = .ok (.iload_n 1, 1) := by decide +kernel
theorem dX11_roots_2 : decode cX11_roots 2 = .ok (.invokevirtual 103, 3) := by decide +kernel
set_option maxHeartbeats 4000000 in
set_option maxRecDepth 100000 in
/-- roots on a fresh object: throws -/
theorem c_X11_roots (l : Launch) (hfl : l.stackTraces = false) (D : va_G) (sz : Nat) (h0 : Nat) (q : Nat → Nat) (p0 : Int32) : vx_Met l yX11_roots (Cond.code yX11_roots cX11_roots 3 (some .int) :: pv_W) ({ frames := 8, cells := 1, slots := 6, locals := 122 } : Room) (va_Pc [.ref h0, .int p0] (pv_P D [] [(h0, .inr (0, [.ref (q 0), .int 0, .int 108, .ref (q 1), .int 0, .ref (q 2), .int 0, .ref (q 3), .ref (q 4), .int 1, .ref (q 5), .ref (q 6), .ref (q 7), .ref (q 8), .ref (q 9)]))] (va_A [] sz) sz)) (fun _ _ _ _ => False) (vx_X (fun _ : Unit => True) (fun E _ _ => E = "java/lang/IndexOutOfBoundsException") (va_A [] sz)) 1 6 (va_A [] sz) := by
  refine vx_ofW (cc := cX11_roots) (maxL := 3) (ret := (some .int)) (by decide) rfl ?_
  intro p e s m args below meth c s₁ B hml hnt hv
  obtain ⟨rfl, hsz, hE, hP, hK, hD0⟩ := hv
  have hx := B.exec
  have hb := B.bytes
  have hr := B.returns
  have hts := fun (w : Cond) (h : w ∈ pv_W) => atoms_spec (ws := Cond.code yX11_roots cX11_roots 3 (some .int) :: pv_W) B.pre w (List.mem_cons_of_mem _ h)
  have hg := fun {w : Cond} (h : w ∈ lw_tbl) (g : goodWord w = true) => hts w (pv_in h g)
  have hown : s.vm.findClass RX11 = some m.cls := findClass_of_methodNamed B.named
  have hlocks := B.notSynchronized
  subst hsz
  have hD := hD0
  generalize hAe : va_A [] s.heap.size = A at hE ⊢
  have hA : ∀ q : Nat, s.heap.size ≤ q → A q := fun q h => by rw [← hAe]; exact Or.inr h
  have hS : va_S A s.heap s.heap [] := va_S.rf
  have hP : va_P D pv_cl [(h0, .inr (0, [.ref (q 0), .int 0, .int 108, .ref (q 1), .int 0, .ref (q 2), .int 0, .ref (q 3), .ref (q 4), .int 1, .ref (q 5), .ref (q 6), .ref (q 7), .ref (q 8), .ref (q 9)]))] s.heap := hP
  have hl := lv_entry ([.ref h0, .int p0]) (n := 3) (Nat.le_of_ble_eq_true rfl)
  rw [lg_entry_eq]
  generalize (lg_sl ([.ref h0, .int p0]) ++ List.replicate (3 - (lg_sl ([.ref h0, .int p0])).length) Slot.unset).toArray = ls at hl ⊢
  have hl : lv_has ls 3 [(0, .ref h0), (1, .int p0)] := hl
  refine lv_aload_n hx hb dX11_roots_0 rfl (lv_at hl 0 rfl) ?_
  refine lv_iload_n hx hb dX11_roots_1 rfl (lv_at hl 1 rfl) ?_
  have hF := pv_new hA hS.1
  refine pv_thrown (vx_runV (As := [.int p0]) (rest := []) ⟨hx, hb, hml, hown, hts⟩ (c_X11_polynomialAt l hfl D _ h0 q p0) (cwV 1 hts (pv_gV w5_112 w5_114 wp3_13 w1_1 w5_115) rfl rfl rfl (by decide +kernel) ⟨Nat.le_of_ble_eq_true rfl, Nat.le_of_ble_eq_true rfl⟩) (pv_pV hE hS hF (hP.sub [0] rfl) (hK.sub [] rfl) (hD.sub [0] (by decide) rfl) (va_recv (ci := 0) (q0 := 0) hK hP rfl rfl)) rfl rfl hl.1 rfl (lv_room (Nat.le_of_ble_eq_true rfl)) dX11_roots_2 ⟨Nat.le_of_ble_eq_true rfl, Nat.le_of_ble_eq_true rfl⟩) (fun _ _ _ h => h) hS hF hF (fun E ce q9 u t H1 locs1 ht hvm hpx hbx hz1 hk1 hS hce hcv hcl => ?_)
  exact vx_out (fun x h9 => absurd (hnt x h9) id) hlocks hce hcv hcl (fun t ht hvm => ⟨(), trivial, hbx, hS.F ht⟩) hS.2.2 (Nat.le_of_ble_eq_true rfl) (Nat.le_of_ble_eq_true rfl)

theorem dX11_resultant_0 : decode cX11_resultant 0 = .ok (.aload_n 0, 1) := by decide +kernel
theorem dX11_resultant_1 : decode cX11_resultant 1 = .ok (.iload_n 1, 1) := by decide +kernel
theorem dX11_resultant_2 : decode cX11_resultant 2 = .ok (.invokevirtual 103, 3) := by decide +kernel
set_option maxHeartbeats 4000000 in
set_option maxRecDepth 100000 in
/-- resultant on a fresh object: throws -/
theorem c_X11_resultant (l : Launch) (hfl : l.stackTraces = false) (D : va_G) (sz : Nat) (h0 : Nat) (q : Nat → Nat) (p0 p1 : Int32) : vx_Met l yX11_resultant (Cond.code yX11_resultant cX11_resultant 5 (some .int) :: pv_W) ({ frames := 8, cells := 1, slots := 6, locals := 122 } : Room) (va_Pc [.ref h0, .int p0, .int p1] (pv_P D [] [(h0, .inr (0, [.ref (q 0), .int 0, .int 108, .ref (q 1), .int 0, .ref (q 2), .int 0, .ref (q 3), .ref (q 4), .int 1, .ref (q 5), .ref (q 6), .ref (q 7), .ref (q 8), .ref (q 9)]))] (va_A [] sz) sz)) (fun _ _ _ _ => False) (vx_X (fun _ : Unit => True) (fun E _ _ => E = "java/lang/IndexOutOfBoundsException") (va_A [] sz)) 1 6 (va_A [] sz) := by
  refine vx_ofW (cc := cX11_resultant) (maxL := 5) (ret := (some .int)) (by decide) rfl ?_
  intro p e s m args below meth c s₁ B hml hnt hv
  obtain ⟨rfl, hsz, hE, hP, hK, hD0⟩ := hv
  have hx := B.exec
  have hb := B.bytes
  have hr := B.returns
  have hts := fun (w : Cond) (h : w ∈ pv_W) => atoms_spec (ws := Cond.code yX11_resultant cX11_resultant 5 (some .int) :: pv_W) B.pre w (List.mem_cons_of_mem _ h)
  have hg := fun {w : Cond} (h : w ∈ lw_tbl) (g : goodWord w = true) => hts w (pv_in h g)
  have hown : s.vm.findClass RX11 = some m.cls := findClass_of_methodNamed B.named
  have hlocks := B.notSynchronized
  subst hsz
  have hD := hD0
  generalize hAe : va_A [] s.heap.size = A at hE ⊢
  have hA : ∀ q : Nat, s.heap.size ≤ q → A q := fun q h => by rw [← hAe]; exact Or.inr h
  have hS : va_S A s.heap s.heap [] := va_S.rf
  have hP : va_P D pv_cl [(h0, .inr (0, [.ref (q 0), .int 0, .int 108, .ref (q 1), .int 0, .ref (q 2), .int 0, .ref (q 3), .ref (q 4), .int 1, .ref (q 5), .ref (q 6), .ref (q 7), .ref (q 8), .ref (q 9)]))] s.heap := hP
  have hl := lv_entry ([.ref h0, .int p0, .int p1]) (n := 5) (Nat.le_of_ble_eq_true rfl)
  rw [lg_entry_eq]
  generalize (lg_sl ([.ref h0, .int p0, .int p1]) ++ List.replicate (5 - (lg_sl ([.ref h0, .int p0, .int p1])).length) Slot.unset).toArray = ls at hl ⊢
  have hl : lv_has ls 5 [(0, .ref h0), (1, .int p0), (2, .int p1)] := hl
  refine lv_aload_n hx hb dX11_resultant_0 rfl (lv_at hl 0 rfl) ?_
  refine lv_iload_n hx hb dX11_resultant_1 rfl (lv_at hl 1 rfl) ?_
  have hF := pv_new hA hS.1
  refine pv_thrown (vx_runV (As := [.int p0]) (rest := []) ⟨hx, hb, hml, hown, hts⟩ (c_X11_polynomialAt l hfl D _ h0 q p0) (cwV 1 hts (pv_gV w5_112 w5_114 wp3_13 w1_1 w5_115) rfl rfl rfl (by decide +kernel) ⟨Nat.le_of_ble_eq_true rfl, Nat.le_of_ble_eq_true rfl⟩) (pv_pV hE hS hF (hP.sub [0] rfl) (hK.sub [] rfl) (hD.sub [0] (by decide) rfl) (va_recv (ci := 0) (q0 := 0) hK hP rfl rfl)) rfl rfl hl.1 rfl (lv_room (Nat.le_of_ble_eq_true rfl)) dX11_resultant_2 ⟨Nat.le_of_ble_eq_true rfl, Nat.le_of_ble_eq_true rfl⟩) (fun _ _ _ h => h) hS hF hF (fun E ce q9 u t H1 locs1 ht hvm hpx hbx hz1 hk1 hS hce hcv hcl => ?_)
  exact vx_out (fun x h9 => absurd (hnt x h9) id) hlocks hce hcv hcl (fun t ht hvm => ⟨(), trivial, hbx, hS.F ht⟩) hS.2.2 (Nat.le_of_ble_eq_true rfl) (Nat.le_of_ble_eq_true rfl)

theorem dX11_resultantByDeterminant_0 : decode cX11_resultantByDeterminant 0 = .ok (.aload_n 0, 1) := by decide +kernel
theorem dX11_resultantByDeterminant_1 : decode cX11_resultantByDeterminant 1 = .ok (.iload_n 1, 1) := by decide +kernel
theorem dX11_resultantByDeterminant_2 : decode cX11_resultantByDeterminant 2 = .ok (.invokevirtual 103, 3) := by decide +kernel
set_option maxHeartbeats 4000000 in
set_option maxRecDepth 100000 in
/-- resultantByDeterminant on a fresh object: throws -/
theorem c_X11_resultantByDeterminant (l : Launch) (hfl : l.stackTraces = false) (D : va_G) (sz : Nat) (h0 : Nat) (q : Nat → Nat) (p0 p1 : Int32) : vx_Met l yX11_resultantByDeterminant (Cond.code yX11_resultantByDeterminant cX11_resultantByDeterminant 5 (some .int) :: pv_W) ({ frames := 8, cells := 1, slots := 6, locals := 122 } : Room) (va_Pc [.ref h0, .int p0, .int p1] (pv_P D [] [(h0, .inr (0, [.ref (q 0), .int 0, .int 108, .ref (q 1), .int 0, .ref (q 2), .int 0, .ref (q 3), .ref (q 4), .int 1, .ref (q 5), .ref (q 6), .ref (q 7), .ref (q 8), .ref (q 9)]))] (va_A [] sz) sz)) (fun _ _ _ _ => False) (vx_X (fun _ : Unit => True) (fun E _ _ => E = "java/lang/IndexOutOfBoundsException") (va_A [] sz)) 1 6 (va_A [] sz) := by
  refine vx_ofW (cc := cX11_resultantByDeterminant) (maxL := 5) (ret := (some .int)) (by decide) rfl ?_
  intro p e s m args below meth c s₁ B hml hnt hv
  obtain ⟨rfl, hsz, hE, hP, hK, hD0⟩ := hv
  have hx := B.exec
  have hb := B.bytes
  have hr := B.returns
  have hts := fun (w : Cond) (h : w ∈ pv_W) => atoms_spec (ws := Cond.code yX11_resultantByDeterminant cX11_resultantByDeterminant 5 (some .int) :: pv_W) B.pre w (List.mem_cons_of_mem _ h)
  have hg := fun {w : Cond} (h : w ∈ lw_tbl) (g : goodWord w = true) => hts w (pv_in h g)
  have hown : s.vm.findClass RX11 = some m.cls := findClass_of_methodNamed B.named
  have hlocks := B.notSynchronized
  subst hsz
  have hD := hD0
  generalize hAe : va_A [] s.heap.size = A at hE ⊢
  have hA : ∀ q : Nat, s.heap.size ≤ q → A q := fun q h => by rw [← hAe]; exact Or.inr h
  have hS : va_S A s.heap s.heap [] := va_S.rf
  have hP : va_P D pv_cl [(h0, .inr (0, [.ref (q 0), .int 0, .int 108, .ref (q 1), .int 0, .ref (q 2), .int 0, .ref (q 3), .ref (q 4), .int 1, .ref (q 5), .ref (q 6), .ref (q 7), .ref (q 8), .ref (q 9)]))] s.heap := hP
  have hl := lv_entry ([.ref h0, .int p0, .int p1]) (n := 5) (Nat.le_of_ble_eq_true rfl)
  rw [lg_entry_eq]
  generalize (lg_sl ([.ref h0, .int p0, .int p1]) ++ List.replicate (5 - (lg_sl ([.ref h0, .int p0, .int p1])).length) Slot.unset).toArray = ls at hl ⊢
  have hl : lv_has ls 5 [(0, .ref h0), (1, .int p0), (2, .int p1)] := hl
  refine lv_aload_n hx hb dX11_resultantByDeterminant_0 rfl (lv_at hl 0 rfl) ?_
  refine lv_iload_n hx hb dX11_resultantByDeterminant_1 rfl (lv_at hl 1 rfl) ?_
  have hF := pv_new hA hS.1
  refine pv_thrown (vx_runV (As := [.int p0]) (rest := []) ⟨hx, hb, hml, hown, hts⟩ (c_X11_polynomialAt l hfl D _ h0 q p0) (cwV 1 hts (pv_gV w5_112 w5_114 wp3_13 w1_1 w5_115) rfl rfl rfl (by decide +kernel) ⟨Nat.le_of_ble_eq_true rfl, Nat.le_of_ble_eq_true rfl⟩) (pv_pV hE hS hF (hP.sub [0] rfl) (hK.sub [] rfl) (hD.sub [0] (by decide) rfl) (va_recv (ci := 0) (q0 := 0) hK hP rfl rfl)) rfl rfl hl.1 rfl (lv_room (Nat.le_of_ble_eq_true rfl)) dX11_resultantByDeterminant_2 ⟨Nat.le_of_ble_eq_true rfl, Nat.le_of_ble_eq_true rfl⟩) (fun _ _ _ h => h) hS hF hF (fun E ce q9 u t H1 locs1 ht hvm hpx hbx hz1 hk1 hS hce hcv hcl => ?_)
  exact vx_out (fun x h9 => absurd (hnt x h9) id) hlocks hce hcv hcl (fun t ht hvm => ⟨(), trivial, hbx, hS.F ht⟩) hS.2.2 (Nat.le_of_ble_eq_true rfl) (Nat.le_of_ble_eq_true rfl)

theorem dX11_series_0 : decode cX11_series 0 = .ok (.aload_n 0, 1) := by decide +kernel
theorem dX11_series_1 : decode cX11_series 1 = .ok (.iload_n 1, 1) := by decide +kernel
theorem dX11_series_2 : decode cX11_series 2 = .ok (.invokevirtual 103, 3) := by decide +kernel
set_option maxHeartbeats 4000000 in
set_option maxRecDepth 100000 in
/-- series on a fresh object: throws -/
theorem c_X11_series (l : Launch) (hfl : l.stackTraces = false) (D : va_G) (sz : Nat) (h0 : Nat) (q : Nat → Nat) (p0 p1 p2 : Int32) : vx_Met l yX11_series (Cond.code yX11_series cX11_series 6 (some .int) :: pv_W) ({ frames := 8, cells := 1, slots := 6, locals := 122 } : Room) (va_Pc [.ref h0, .int p0, .int p1, .int p2] (pv_P D [] [(h0, .inr (0, [.ref (q 0), .int 0, .int 108, .ref (q 1), .int 0, .ref (q 2), .int 0, .ref (q 3), .ref (q 4), .int 1, .ref (q 5), .ref (q 6), .ref (q 7), .ref (q 8), .ref (q 9)]))] (va_A [] sz) sz)) (fun _ _ _ _ => False) (vx_X (fun _ : Unit => True) (fun E _ _ => E = "java/lang/IndexOutOfBoundsException") (va_A [] sz)) 1 6 (va_A [] sz) := by
  refine vx_ofW (cc := cX11_series) (maxL := 6) (ret := (some .int)) (by decide) rfl ?_
  intro p e s m args below meth c s₁ B hml hnt hv
  obtain ⟨rfl, hsz, hE, hP, hK, hD0⟩ := hv
  have hx := B.exec
  have hb := B.bytes
  have hr := B.returns
  have hts := fun (w : Cond) (h : w ∈ pv_W) => atoms_spec (ws := Cond.code yX11_series cX11_series 6 (some .int) :: pv_W) B.pre w (List.mem_cons_of_mem _ h)
  have hg := fun {w : Cond} (h : w ∈ lw_tbl) (g : goodWord w = true) => hts w (pv_in h g)
  have hown : s.vm.findClass RX11 = some m.cls := findClass_of_methodNamed B.named
  have hlocks := B.notSynchronized
  subst hsz
  have hD := hD0
  generalize hAe : va_A [] s.heap.size = A at hE ⊢
  have hA : ∀ q : Nat, s.heap.size ≤ q → A q := fun q h => by rw [← hAe]; exact Or.inr h
  have hS : va_S A s.heap s.heap [] := va_S.rf
  have hP : va_P D pv_cl [(h0, .inr (0, [.ref (q 0), .int 0, .int 108, .ref (q 1), .int 0, .ref (q 2), .int 0, .ref (q 3), .ref (q 4), .int 1, .ref (q 5), .ref (q 6), .ref (q 7), .ref (q 8), .ref (q 9)]))] s.heap := hP
  have hl := lv_entry ([.ref h0, .int p0, .int p1, .int p2]) (n := 6) (Nat.le_of_ble_eq_true rfl)
  rw [lg_entry_eq]
  generalize (lg_sl ([.ref h0, .int p0, .int p1, .int p2]) ++ List.replicate (6 - (lg_sl ([.ref h0, .int p0, .int p1, .int p2])).length) Slot.unset).toArray = ls at hl ⊢
  have hl : lv_has ls 6 [(0, .ref h0), (1, .int p0), (2, .int p1), (3, .int p2)] := hl
  refine lv_aload_n hx hb dX11_series_0 rfl (lv_at hl 0 rfl) ?_
  refine lv_iload_n hx hb dX11_series_1 rfl (lv_at hl 1 rfl) ?_
  have hF := pv_new hA hS.1
  refine pv_thrown (vx_runV (As := [.int p0]) (rest := []) ⟨hx, hb, hml, hown, hts⟩ (c_X11_polynomialAt l hfl D _ h0 q p0) (cwV 1 hts (pv_gV w5_112 w5_114 wp3_13 w1_1 w5_115) rfl rfl rfl (by decide +kernel) ⟨Nat.le_of_ble_eq_true rfl, Nat.le_of_ble_eq_true rfl⟩) (pv_pV hE hS hF (hP.sub [0] rfl) (hK.sub [] rfl) (hD.sub [0] (by decide) rfl) (va_recv (ci := 0) (q0 := 0) hK hP rfl rfl)) rfl rfl hl.1 rfl (lv_room (Nat.le_of_ble_eq_true rfl)) dX11_series_2 ⟨Nat.le_of_ble_eq_true rfl, Nat.le_of_ble_eq_true rfl⟩) (fun _ _ _ h => h) hS hF hF (fun E ce q9 u t H1 locs1 ht hvm hpx hbx hz1 hk1 hS hce hcv hcl => ?_)
  exact vx_out (fun x h9 => absurd (hnt x h9) id) hlocks hce hcv hcl (fun t ht hvm => ⟨(), trivial, hbx, hS.F ht⟩) hS.2.2 (Nat.le_of_ble_eq_true rfl) (Nat.le_of_ble_eq_true rfl)

theorem dX11_limit_0 : decode cX11_limit 0 = .ok (.aload_n 0, 1) := by decide +kernel
theorem dX11_limit_1 : decode cX11_limit 1 = .ok (.iload_n 1, 1) := by decide +kernel
theorem dX11_limit_2 : decode cX11_limit 2 = .ok (.invokevirtual 103, 3) := by decide +kernel
set_option maxHeartbeats 4000000 in
set_option maxRecDepth 100000 in
/-- limit on a fresh object: throws -/
theorem c_X11_limit (l : Launch) (hfl : l.stackTraces = false) (D : va_G) (sz : Nat) (h0 : Nat) (q : Nat → Nat) (p0 p1 p2 : Int32) : vx_Met l yX11_limit (Cond.code yX11_limit cX11_limit 7 (some .int) :: pv_W) ({ frames := 8, cells := 1, slots := 6, locals := 122 } : Room) (va_Pc [.ref h0, .int p0, .int p1, .int p2] (pv_P D [] [(h0, .inr (0, [.ref (q 0), .int 0, .int 108, .ref (q 1), .int 0, .ref (q 2), .int 0, .ref (q 3), .ref (q 4), .int 1, .ref (q 5), .ref (q 6), .ref (q 7), .ref (q 8), .ref (q 9)]))] (va_A [] sz) sz)) (fun _ _ _ _ => False) (vx_X (fun _ : Unit => True) (fun E _ _ => E = "java/lang/IndexOutOfBoundsException") (va_A [] sz)) 1 6 (va_A [] sz) := by
  refine vx_ofW (cc := cX11_limit) (maxL := 7) (ret := (some .int)) (by decide) rfl ?_
  intro p e s m args below meth c s₁ B hml hnt hv
  obtain ⟨rfl, hsz, hE, hP, hK, hD0⟩ := hv
  have hx := B.exec
  have hb := B.bytes
  have hr := B.returns
  have hts := fun (w : Cond) (h : w ∈ pv_W) => atoms_spec (ws := Cond.code yX11_limit cX11_limit 7 (some .int) :: pv_W) B.pre w (List.mem_cons_of_mem _ h)
  have hg := fun {w : Cond} (h : w ∈ lw_tbl) (g : goodWord w = true) => hts w (pv_in h g)
  have hown : s.vm.findClass RX11 = some m.cls := findClass_of_methodNamed B.named
  have hlocks := B.notSynchronized
  subst hsz
  have hD := hD0
  generalize hAe : va_A [] s.heap.size = A at hE ⊢
  have hA : ∀ q : Nat, s.heap.size ≤ q → A q := fun q h => by rw [← hAe]; exact Or.inr h
  have hS : va_S A s.heap s.heap [] := va_S.rf
  have hP : va_P D pv_cl [(h0, .inr (0, [.ref (q 0), .int 0, .int 108, .ref (q 1), .int 0, .ref (q 2), .int 0, .ref (q 3), .ref (q 4), .int 1, .ref (q 5), .ref (q 6), .ref (q 7), .ref (q 8), .ref (q 9)]))] s.heap := hP
  have hl := lv_entry ([.ref h0, .int p0, .int p1, .int p2]) (n := 7) (Nat.le_of_ble_eq_true rfl)
  rw [lg_entry_eq]
  generalize (lg_sl ([.ref h0, .int p0, .int p1, .int p2]) ++ List.replicate (7 - (lg_sl ([.ref h0, .int p0, .int p1, .int p2])).length) Slot.unset).toArray = ls at hl ⊢
  have hl : lv_has ls 7 [(0, .ref h0), (1, .int p0), (2, .int p1), (3, .int p2)] := hl
  refine lv_aload_n hx hb dX11_limit_0 rfl (lv_at hl 0 rfl) ?_
  refine lv_iload_n hx hb dX11_limit_1 rfl (lv_at hl 1 rfl) ?_
  have hF := pv_new hA hS.1
  refine pv_thrown (vx_runV (As := [.int p0]) (rest := []) ⟨hx, hb, hml, hown, hts⟩ (c_X11_polynomialAt l hfl D _ h0 q p0) (cwV 1 hts (pv_gV w5_112 w5_114 wp3_13 w1_1 w5_115) rfl rfl rfl (by decide +kernel) ⟨Nat.le_of_ble_eq_true rfl, Nat.le_of_ble_eq_true rfl⟩) (pv_pV hE hS hF (hP.sub [0] rfl) (hK.sub [] rfl) (hD.sub [0] (by decide) rfl) (va_recv (ci := 0) (q0 := 0) hK hP rfl rfl)) rfl rfl hl.1 rfl (lv_room (Nat.le_of_ble_eq_true rfl)) dX11_limit_2 ⟨Nat.le_of_ble_eq_true rfl, Nat.le_of_ble_eq_true rfl⟩) (fun _ _ _ h => h) hS hF hF (fun E ce q9 u t H1 locs1 ht hvm hpx hbx hz1 hk1 hS hce hcv hcl => ?_)
  exact vx_out (fun x h9 => absurd (hnt x h9) id) hlocks hce hcv hcl (fun t ht hvm => ⟨(), trivial, hbx, hS.F ht⟩) hS.2.2 (Nat.le_of_ble_eq_true rfl) (Nat.le_of_ble_eq_true rfl)

theorem dX11_partial_0 : decode cX11_partial 0 = .ok (.aload_n 0, 1) := by decide +kernel
theorem dX11_partial_1 : decode cX11_partial 1 = .ok (.iload_n 1, 1) := by decide +kernel
theorem dX11_partial_2 : decode cX11_partial 2 = .ok (.invokevirtual 103, 3) := by decide +kernel
set_option maxHeartbeats 4000000 in
set_option maxRecDepth 100000 in
/-- partial on a fresh object: throws -/
theorem c_X11_partial (l : Launch) (hfl : l.stackTraces = false) (D : va_G) (sz : Nat) (h0 : Nat) (q : Nat → Nat) (p0 p1 p2 : Int32) : vx_Met l yX11_partial (Cond.code yX11_partial cX11_partial 6 (some .int) :: pv_W) ({ frames := 8, cells := 1, slots := 6, locals := 122 } : Room) (va_Pc [.ref h0, .int p0, .int p1, .int p2] (pv_P D [] [(h0, .inr (0, [.ref (q 0), .int 0, .int 108, .ref (q 1), .int 0, .ref (q 2), .int 0, .ref (q 3), .ref (q 4), .int 1, .ref (q 5), .ref (q 6), .ref (q 7), .ref (q 8), .ref (q 9)]))] (va_A [] sz) sz)) (fun _ _ _ _ => False) (vx_X (fun _ : Unit => True) (fun E _ _ => E = "java/lang/IndexOutOfBoundsException") (va_A [] sz)) 1 6 (va_A [] sz) := by
  refine vx_ofW (cc := cX11_partial) (maxL := 6) (ret := (some .int)) (by decide) rfl ?_
  intro p e s m args below meth c s₁ B hml hnt hv
  obtain ⟨rfl, hsz, hE, hP, hK, hD0⟩ := hv
  have hx := B.exec
  have hb := B.bytes
  have hr := B.returns
  have hts := fun (w : Cond) (h : w ∈ pv_W) => atoms_spec (ws := Cond.code yX11_partial cX11_partial 6 (some .int) :: pv_W) B.pre w (List.mem_cons_of_mem _ h)
  have hg := fun {w : Cond} (h : w ∈ lw_tbl) (g : goodWord w = true) => hts w (pv_in h g)
  have hown : s.vm.findClass RX11 = some m.cls := findClass_of_methodNamed B.named
  have hlocks := B.notSynchronized
  subst hsz
  have hD := hD0
  generalize hAe : va_A [] s.heap.size = A at hE ⊢
  have hA : ∀ q : Nat, s.heap.size ≤ q → A q := fun q h => by rw [← hAe]; exact Or.inr h
  have hS : va_S A s.heap s.heap [] := va_S.rf
  have hP : va_P D pv_cl [(h0, .inr (0, [.ref (q 0), .int 0, .int 108, .ref (q 1), .int 0, .ref (q 2), .int 0, .ref (q 3), .ref (q 4), .int 1, .ref (q 5), .ref (q 6), .ref (q 7), .ref (q 8), .ref (q 9)]))] s.heap := hP
  have hl := lv_entry ([.ref h0, .int p0, .int p1, .int p2]) (n := 6) (Nat.le_of_ble_eq_true rfl)
  rw [lg_entry_eq]
  generalize (lg_sl ([.ref h0, .int p0, .int p1, .int p2]) ++ List.replicate (6 - (lg_sl ([.ref h0, .int p0, .int p1, .int p2])).length) Slot.unset).toArray = ls at hl ⊢
  have hl : lv_has ls 6 [(0, .ref h0), (1, .int p0), (2, .int p1), (3, .int p2)] := hl
  refine lv_aload_n hx hb dX11_partial_0 rfl (lv_at hl 0 rfl) ?_
  refine lv_iload_n hx hb dX11_partial_1 rfl (lv_at hl 1 rfl) ?_
  have hF := pv_new hA hS.1
  refine pv_thrown (vx_runV (As := [.int p0]) (rest := []) ⟨hx, hb, hml, hown, hts⟩ (c_X11_polynomialAt l hfl D _ h0 q p0) (cwV 1 hts (pv_gV w5_112 w5_114 wp3_13 w1_1 w5_115) rfl rfl rfl (by decide +kernel) ⟨Nat.le_of_ble_eq_true rfl, Nat.le_of_ble_eq_true rfl⟩) (pv_pV hE hS hF (hP.sub [0] rfl) (hK.sub [] rfl) (hD.sub [0] (by decide) rfl) (va_recv (ci := 0) (q0 := 0) hK hP rfl rfl)) rfl rfl hl.1 rfl (lv_room (Nat.le_of_ble_eq_true rfl)) dX11_partial_2 ⟨Nat.le_of_ble_eq_true rfl, Nat.le_of_ble_eq_true rfl⟩) (fun _ _ _ h => h) hS hF hF (fun E ce q9 u t H1 locs1 ht hvm hpx hbx hz1 hk1 hS hce hcv hcl => ?_)
  exact vx_out (fun x h9 => absurd (hnt x h9) id) hlocks hce hcv hcl (fun t ht hvm => ⟨(), trivial, hbx, hS.F ht⟩) hS.2.2 (Nat.le_of_ble_eq_true rfl) (Nat.le_of_ble_eq_true rfl)

theorem dX11_addRule_0 : decode cX11_addRule 0 = .ok (.aload_n 0, 1) := by decide +kernel
theorem dX11_addRule_1 : decode cX11_addRule 1 = .ok (.iload 4, 2) := by decide +kernel
theorem dX11_addRule_3 : decode cX11_addRule 3 = .ok (.invokevirtual 103, 3) := by decide +kernel
set_option maxHeartbeats 4000000 in
set_option maxRecDepth 100000 in
/-- addRule on a fresh object: throws -/
theorem c_X11_addRule (l : Launch) (hfl : l.stackTraces = false) (D : va_G) (sz : Nat) (h0 : Nat) (q : Nat → Nat) (p0 p1 p2 p3 p4 p5 : Int32) : vx_Met l yX11_addRule (Cond.code yX11_addRule cX11_addRule 8 (some .int) :: pv_W) ({ frames := 8, cells := 1, slots := 6, locals := 122 } : Room) (va_Pc [.ref h0, .int p0, .int p1, .int p2, .int p3, .int p4, .int p5] (pv_P D [] [(h0, .inr (0, [.ref (q 0), .int 0, .int 108, .ref (q 1), .int 0, .ref (q 2), .int 0, .ref (q 3), .ref (q 4), .int 1, .ref (q 5), .ref (q 6), .ref (q 7), .ref (q 8), .ref (q 9)]))] (va_A [] sz) sz)) (fun _ _ _ _ => False) (vx_X (fun _ : Unit => True) (fun E _ _ => E = "java/lang/IndexOutOfBoundsException") (va_A [] sz)) 1 6 (va_A [] sz) := by
  refine vx_ofW (cc := cX11_addRule) (maxL := 8) (ret := (some .int)) (by decide) rfl ?_
  intro p e s m args below meth c s₁ B hml hnt hv
  obtain ⟨rfl, hsz, hE, hP, hK, hD0⟩ := hv
  have hx := B.exec
  have hb := B.bytes
  have hr := B.returns
  have hts := fun (w : Cond) (h : w ∈ pv_W) => atoms_spec (ws := Cond.code yX11_addRule cX11_addRule 8 (some .int) :: pv_W) B.pre w (List.mem_cons_of_mem _ h)
  have hg := fun {w : Cond} (h : w ∈ lw_tbl) (g : goodWord w = true) => hts w (pv_in h g)
  have hown : s.vm.findClass RX11 = some m.cls := findClass_of_methodNamed B.named
  have hlocks := B.notSynchronized
  subst hsz
  have hD := hD0
  generalize hAe : va_A [] s.heap.size = A at hE ⊢
  have hA : ∀ q : Nat, s.heap.size ≤ q → A q := fun q h => by rw [← hAe]; exact Or.inr h
  have hS : va_S A s.heap s.heap [] := va_S.rf
  have hP : va_P D pv_cl [(h0, .inr (0, [.ref (q 0), .int 0, .int 108, .ref (q 1), .int 0, .ref (q 2), .int 0, .ref (q 3), .ref (q 4), .int 1, .ref (q 5), .ref (q 6), .ref (q 7), .ref (q 8), .ref (q 9)]))] s.heap := hP
  have hl := lv_entry ([.ref h0, .int p0, .int p1, .int p2, .int p3, .int p4, .int p5]) (n := 8) (Nat.le_of_ble_eq_true rfl)
  rw [lg_entry_eq]
  generalize (lg_sl ([.ref h0, .int p0, .int p1, .int p2, .int p3, .int p4, .int p5]) ++ List.replicate (8 - (lg_sl ([.ref h0, .int p0, .int p1, .int p2, .int p3, .int p4, .int p5])).length) Slot.unset).toArray = ls at hl ⊢
  have hl : lv_has ls 8 [(0, .ref h0), (1, .int p0), (2, .int p1), (3, .int p2), (4, .int p3), (5, .int p4), (6, .int p5)] := hl
  refine lv_aload_n hx hb dX11_addRule_0 rfl (lv_at hl 0 rfl) ?_
  refine lv_iload hx hb dX11_addRule_1 (lv_at hl 4 rfl) ?_
  have hF := pv_new hA hS.1
  refine pv_thrown (vx_runV (As := [.int p3]) (rest := []) ⟨hx, hb, hml, hown, hts⟩ (c_X11_polynomialAt l hfl D _ h0 q p3) (cwV 1 hts (pv_gV w5_112 w5_114 wp3_13 w1_1 w5_115) rfl rfl rfl (by decide +kernel) ⟨Nat.le_of_ble_eq_true rfl, Nat.le_of_ble_eq_true rfl⟩) (pv_pV hE hS hF (hP.sub [0] rfl) (hK.sub [] rfl) (hD.sub [0] (by decide) rfl) (va_recv (ci := 0) (q0 := 0) hK hP rfl rfl)) rfl rfl hl.1 rfl (lv_room (Nat.le_of_ble_eq_true rfl)) dX11_addRule_3 ⟨Nat.le_of_ble_eq_true rfl, Nat.le_of_ble_eq_true rfl⟩) (fun _ _ _ h => h) hS hF hF (fun E ce q9 u t H1 locs1 ht hvm hpx hbx hz1 hk1 hS hce hcv hcl => ?_)
  exact vx_out (fun x h9 => absurd (hnt x h9) id) hlocks hce hcv hcl (fun t ht hvm => ⟨(), trivial, hbx, hS.F ht⟩) hS.2.2 (Nat.le_of_ble_eq_true rfl) (Nat.le_of_ble_eq_true rfl)

theorem dX11_rewrite_0 : decode cX11_rewrite 0 = .ok (.aload_n 0, 1) := by decide +kernel
theorem dX11_rewrite_1 : decode cX11_rewrite 1 = .ok (.iload_n 1, 1) := by decide +kernel
theorem dX11_rewrite_2 : decode cX11_rewrite 2 = .ok (.invokevirtual 103, 3) := by decide +kernel
set_option maxHeartbeats 4000000 in
set_option maxRecDepth 100000 in
/-- rewrite on a fresh object: throws -/
theorem c_X11_rewrite (l : Launch) (hfl : l.stackTraces = false) (D : va_G) (sz : Nat) (h0 : Nat) (q : Nat → Nat) (p0 : Int32) : vx_Met l yX11_rewrite (Cond.code yX11_rewrite cX11_rewrite 3 (some .int) :: pv_W) ({ frames := 8, cells := 1, slots := 6, locals := 122 } : Room) (va_Pc [.ref h0, .int p0] (pv_P D [] [(h0, .inr (0, [.ref (q 0), .int 0, .int 108, .ref (q 1), .int 0, .ref (q 2), .int 0, .ref (q 3), .ref (q 4), .int 1, .ref (q 5), .ref (q 6), .ref (q 7), .ref (q 8), .ref (q 9)]))] (va_A [] sz) sz)) (fun _ _ _ _ => False) (vx_X (fun _ : Unit => True) (fun E _ _ => E = "java/lang/IndexOutOfBoundsException") (va_A [] sz)) 1 6 (va_A [] sz) := by
  refine vx_ofW (cc := cX11_rewrite) (maxL := 3) (ret := (some .int)) (by decide) rfl ?_
  intro p e s m args below meth c s₁ B hml hnt hv
  obtain ⟨rfl, hsz, hE, hP, hK, hD0⟩ := hv
  have hx := B.exec
  have hb := B.bytes
  have hr := B.returns
  have hts := fun (w : Cond) (h : w ∈ pv_W) => atoms_spec (ws := Cond.code yX11_rewrite cX11_rewrite 3 (some .int) :: pv_W) B.pre w (List.mem_cons_of_mem _ h)
  have hg := fun {w : Cond} (h : w ∈ lw_tbl) (g : goodWord w = true) => hts w (pv_in h g)
  have hown : s.vm.findClass RX11 = some m.cls := findClass_of_methodNamed B.named
  have hlocks := B.notSynchronized
  subst hsz
  have hD := hD0
  generalize hAe : va_A [] s.heap.size = A at hE ⊢
  have hA : ∀ q : Nat, s.heap.size ≤ q → A q := fun q h => by rw [← hAe]; exact Or.inr h
  have hS : va_S A s.heap s.heap [] := va_S.rf
  have hP : va_P D pv_cl [(h0, .inr (0, [.ref (q 0), .int 0, .int 108, .ref (q 1), .int 0, .ref (q 2), .int 0, .ref (q 3), .ref (q 4), .int 1, .ref (q 5), .ref (q 6), .ref (q 7), .ref (q 8), .ref (q 9)]))] s.heap := hP
  have hl := lv_entry ([.ref h0, .int p0]) (n := 3) (Nat.le_of_ble_eq_true rfl)
  rw [lg_entry_eq]
  generalize (lg_sl ([.ref h0, .int p0]) ++ List.replicate (3 - (lg_sl ([.ref h0, .int p0])).length) Slot.unset).toArray = ls at hl ⊢
  have hl : lv_has ls 3 [(0, .ref h0), (1, .int p0)] := hl
  refine lv_aload_n hx hb dX11_rewrite_0 rfl (lv_at hl 0 rfl) ?_
  refine lv_iload_n hx hb dX11_rewrite_1 rfl (lv_at hl 1 rfl) ?_
  have hF := pv_new hA hS.1
  refine pv_thrown (vx_runV (As := [.int p0]) (rest := []) ⟨hx, hb, hml, hown, hts⟩ (c_X11_polynomialAt l hfl D _ h0 q p0) (cwV 1 hts (pv_gV w5_112 w5_114 wp3_13 w1_1 w5_115) rfl rfl rfl (by decide +kernel) ⟨Nat.le_of_ble_eq_true rfl, Nat.le_of_ble_eq_true rfl⟩) (pv_pV hE hS hF (hP.sub [0] rfl) (hK.sub [] rfl) (hD.sub [0] (by decide) rfl) (va_recv (ci := 0) (q0 := 0) hK hP rfl rfl)) rfl rfl hl.1 rfl (lv_room (Nat.le_of_ble_eq_true rfl)) dX11_rewrite_2 ⟨Nat.le_of_ble_eq_true rfl, Nat.le_of_ble_eq_true rfl⟩) (fun _ _ _ h => h) hS hF hF (fun E ce q9 u t H1 locs1 ht hvm hpx hbx hz1 hk1 hS hce hcv hcl => ?_)
  exact vx_out (fun x h9 => absurd (hnt x h9) id) hlocks hce hcv hcl (fun t ht hvm => ⟨(), trivial, hbx, hS.F ht⟩) hS.2.2 (Nat.le_of_ble_eq_true rfl) (Nat.le_of_ble_eq_true rfl)

theorem dX11_steps_0 : decode cX11_steps 0 = .ok (.aload_n 0, 1) := by decide +kernel
theorem dX11_steps_1 : decode cX11_steps 1 = .ok (.iload_n 1, 1) := by decide +kernel
theorem dX11_steps_2 : decode cX11_steps 2 = .ok (.invokevirtual 103, 3) := by decide +kernel
set_option maxHeartbeats 4000000 in
set_option maxRecDepth 100000 in
/-- steps on a fresh object: throws -/
theorem c_X11_steps (l : Launch) (hfl : l.stackTraces = false) (D : va_G) (sz : Nat) (h0 : Nat) (q : Nat → Nat) (p0 : Int32) : vx_Met l yX11_steps (Cond.code yX11_steps cX11_steps 4 (some .int) :: pv_W) ({ frames := 8, cells := 1, slots := 6, locals := 122 } : Room) (va_Pc [.ref h0, .int p0] (pv_P D [] [(h0, .inr (0, [.ref (q 0), .int 0, .int 108, .ref (q 1), .int 0, .ref (q 2), .int 0, .ref (q 3), .ref (q 4), .int 1, .ref (q 5), .ref (q 6), .ref (q 7), .ref (q 8), .ref (q 9)]))] (va_A [] sz) sz)) (fun _ _ _ _ => False) (vx_X (fun _ : Unit => True) (fun E _ _ => E = "java/lang/IndexOutOfBoundsException") (va_A [] sz)) 1 6 (va_A [] sz) := by
  refine vx_ofW (cc := cX11_steps) (maxL := 4) (ret := (some .int)) (by decide) rfl ?_
  intro p e s m args below meth c s₁ B hml hnt hv
  obtain ⟨rfl, hsz, hE, hP, hK, hD0⟩ := hv
  have hx := B.exec
  have hb := B.bytes
  have hr := B.returns
  have hts := fun (w : Cond) (h : w ∈ pv_W) => atoms_spec (ws := Cond.code yX11_steps cX11_steps 4 (some .int) :: pv_W) B.pre w (List.mem_cons_of_mem _ h)
  have hg := fun {w : Cond} (h : w ∈ lw_tbl) (g : goodWord w = true) => hts w (pv_in h g)
  have hown : s.vm.findClass RX11 = some m.cls := findClass_of_methodNamed B.named
  have hlocks := B.notSynchronized
  subst hsz
  have hD := hD0
  generalize hAe : va_A [] s.heap.size = A at hE ⊢
  have hA : ∀ q : Nat, s.heap.size ≤ q → A q := fun q h => by rw [← hAe]; exact Or.inr h
  have hS : va_S A s.heap s.heap [] := va_S.rf
  have hP : va_P D pv_cl [(h0, .inr (0, [.ref (q 0), .int 0, .int 108, .ref (q 1), .int 0, .ref (q 2), .int 0, .ref (q 3), .ref (q 4), .int 1, .ref (q 5), .ref (q 6), .ref (q 7), .ref (q 8), .ref (q 9)]))] s.heap := hP
  have hl := lv_entry ([.ref h0, .int p0]) (n := 4) (Nat.le_of_ble_eq_true rfl)
  rw [lg_entry_eq]
  generalize (lg_sl ([.ref h0, .int p0]) ++ List.replicate (4 - (lg_sl ([.ref h0, .int p0])).length) Slot.unset).toArray = ls at hl ⊢
  have hl : lv_has ls 4 [(0, .ref h0), (1, .int p0)] := hl
  refine lv_aload_n hx hb dX11_steps_0 rfl (lv_at hl 0 rfl) ?_
  refine lv_iload_n hx hb dX11_steps_1 rfl (lv_at hl 1 rfl) ?_
  have hF := pv_new hA hS.1
  refine pv_thrown (vx_runV (As := [.int p0]) (rest := []) ⟨hx, hb, hml, hown, hts⟩ (c_X11_polynomialAt l hfl D _ h0 q p0) (cwV 1 hts (pv_gV w5_112 w5_114 wp3_13 w1_1 w5_115) rfl rfl rfl (by decide +kernel) ⟨Nat.le_of_ble_eq_true rfl, Nat.le_of_ble_eq_true rfl⟩) (pv_pV hE hS hF (hP.sub [0] rfl) (hK.sub [] rfl) (hD.sub [0] (by decide) rfl) (va_recv (ci := 0) (q0 := 0) hK hP rfl rfl)) rfl rfl hl.1 rfl (lv_room (Nat.le_of_ble_eq_true rfl)) dX11_steps_2 ⟨Nat.le_of_ble_eq_true rfl, Nat.le_of_ble_eq_true rfl⟩) (fun _ _ _ h => h) hS hF hF (fun E ce q9 u t H1 locs1 ht hvm hpx hbx hz1 hk1 hS hce hcv hcl => ?_)
  exact vx_out (fun x h9 => absurd (hnt x h9) id) hlocks hce hcv hcl (fun t ht hvm => ⟨(), trivial, hbx, hS.F ht⟩) hS.2.2 (Nat.le_of_ble_eq_true rfl) (Nat.le_of_ble_eq_true rfl)

theorem dX11_addGenerator_0 : decode cX11_addGenerator 0 = .ok (.aload_n 0, 1) := by decide +kernel
theorem dX11_addGenerator_1 : decode cX11_addGenerator 1 = .ok (.iload_n 1, 1) := by decide +kernel
theorem dX11_addGenerator_2 : decode cX11_addGenerator 2 = .ok (.invokevirtual 313, 3) := by decide +kernel
theorem w7_190 : (Jvm.Cond.methodLink "Polyforge" (313 : Nat) ({ cls := "Polyforge", name := "idealAt", desc := "(I)LPolyforge$Ideal;" } : Jvm.MethodName)) ∈ lw_tbl := pv_t7 (pv_mg 190 rfl)
theorem w7_193 : (Jvm.Cond.code ({ cls := "Polyforge", name := "idealAt", desc := "(I)LPolyforge$Ideal;" } : Jvm.MethodName) prog_1_method_77_code (3 : Nat) (Option.some (Jvm.ClassFile.FieldType.object "Polyforge$Ideal"))) ∈ lw_tbl := pv_t7 (pv_mg 193 rfl)
theorem wp4_15 : Cond.selects "Polyforge" ⟨"Polyforge", "idealAt", "(I)LPolyforge$Ideal;"⟩ ⟨"Polyforge", "idealAt", "(I)LPolyforge$Ideal;"⟩ ∈ lw_tbl := pv_mg 63 rfl
theorem w7_192 : (Jvm.Cond.instanceMethod ({ cls := "Polyforge", name := "idealAt", desc := "(I)LPolyforge$Ideal;" } : Jvm.MethodName)) ∈ lw_tbl := pv_t7 (pv_mg 192 rfl)
set_option maxHeartbeats 4000000 in
set_option maxRecDepth 100000 in
/-- addGenerator on a fresh object: throws -/
theorem c_X11_addGenerator (l : Launch) (hfl : l.stackTraces = false) (D : va_G) (sz : Nat) (h0 : Nat) (q : Nat → Nat) (p0 p1 : Int32) : vx_Met l yX11_addGenerator (Cond.code yX11_addGenerator cX11_addGenerator 5 (some .int) :: pv_W) ({ frames := 8, cells := 1, slots := 6, locals := 122 } : Room) (va_Pc [.ref h0, .int p0, .int p1] (pv_P D [] [(h0, .inr (0, [.ref (q 0), .int 0, .int 108, .ref (q 1), .int 0, .ref (q 2), .int 0, .ref (q 3), .ref (q 4), .int 1, .ref (q 5), .ref (q 6), .ref (q 7), .ref (q 8), .ref (q 9)]))] (va_A [] sz) sz)) (fun _ _ _ _ => False) (vx_X (fun _ : Unit => True) (fun E _ _ => E = "java/util/NoSuchElementException") (va_A [] sz)) 1 6 (va_A [] sz) := by
  refine vx_ofW (cc := cX11_addGenerator) (maxL := 5) (ret := (some .int)) (by decide) rfl ?_
  intro p e s m args below meth c s₁ B hml hnt hv
  obtain ⟨rfl, hsz, hE, hP, hK, hD0⟩ := hv
  have hx := B.exec
  have hb := B.bytes
  have hr := B.returns
  have hts := fun (w : Cond) (h : w ∈ pv_W) => atoms_spec (ws := Cond.code yX11_addGenerator cX11_addGenerator 5 (some .int) :: pv_W) B.pre w (List.mem_cons_of_mem _ h)
  have hg := fun {w : Cond} (h : w ∈ lw_tbl) (g : goodWord w = true) => hts w (pv_in h g)
  have hown : s.vm.findClass RX11 = some m.cls := findClass_of_methodNamed B.named
  have hlocks := B.notSynchronized
  subst hsz
  have hD := hD0
  generalize hAe : va_A [] s.heap.size = A at hE ⊢
  have hA : ∀ q : Nat, s.heap.size ≤ q → A q := fun q h => by rw [← hAe]; exact Or.inr h
  have hS : va_S A s.heap s.heap [] := va_S.rf
  have hP : va_P D pv_cl [(h0, .inr (0, [.ref (q 0), .int 0, .int 108, .ref (q 1), .int 0, .ref (q 2), .int 0, .ref (q 3), .ref (q 4), .int 1, .ref (q 5), .ref (q 6), .ref (q 7), .ref (q 8), .ref (q 9)]))] s.heap := hP
  have hl := lv_entry ([.ref h0, .int p0, .int p1]) (n := 5) (Nat.le_of_ble_eq_true rfl)
  rw [lg_entry_eq]
  generalize (lg_sl ([.ref h0, .int p0, .int p1]) ++ List.replicate (5 - (lg_sl ([.ref h0, .int p0, .int p1])).length) Slot.unset).toArray = ls at hl ⊢
  have hl : lv_has ls 5 [(0, .ref h0), (1, .int p0), (2, .int p1)] := hl
  refine lv_aload_n hx hb dX11_addGenerator_0 rfl (lv_at hl 0 rfl) ?_
  refine lv_iload_n hx hb dX11_addGenerator_1 rfl (lv_at hl 1 rfl) ?_
  have hF := pv_new hA hS.1
  refine pv_thrown (vx_runV (As := [.int p0]) (rest := []) ⟨hx, hb, hml, hown, hts⟩ (c_X11_idealAt l hfl D _ h0 q p0) (cwV 1 hts (pv_gV w7_190 w7_192 wp4_15 w1_1 w7_193) rfl rfl rfl (by decide +kernel) ⟨Nat.le_of_ble_eq_true rfl, Nat.le_of_ble_eq_true rfl⟩) (pv_pV hE hS hF (hP.sub [0] rfl) (hK.sub [] rfl) (hD.sub [0] (by decide) rfl) (va_recv (ci := 0) (q0 := 0) hK hP rfl rfl)) rfl rfl hl.1 rfl (lv_room (Nat.le_of_ble_eq_true rfl)) dX11_addGenerator_2 ⟨Nat.le_of_ble_eq_true rfl, Nat.le_of_ble_eq_true rfl⟩) (fun _ _ _ h => h) hS hF hF (fun E ce q9 u t H1 locs1 ht hvm hpx hbx hz1 hk1 hS hce hcv hcl => ?_)
  exact vx_out (fun x h9 => absurd (hnt x h9) id) hlocks hce hcv hcl (fun t ht hvm => ⟨(), trivial, hbx, hS.F ht⟩) hS.2.2 (Nat.le_of_ble_eq_true rfl) (Nat.le_of_ble_eq_true rfl)

theorem dX11_basis_0 : decode cX11_basis 0 = .ok (.aload_n 0, 1) := by decide +kernel
theorem dX11_basis_1 : decode cX11_basis 1 = .ok (.aload_n 0, 1) := by decide +kernel
theorem dX11_basis_2 : decode cX11_basis 2 = .ok (.iload_n 1, 1) := by decide +kernel
theorem dX11_basis_3 : decode cX11_basis 3 = .ok (.invokevirtual 313, 3) := by decide +kernel
set_option maxHeartbeats 4000000 in
set_option maxRecDepth 100000 in
/-- basis on a fresh object: throws -/
theorem c_X11_basis (l : Launch) (hfl : l.stackTraces = false) (D : va_G) (sz : Nat) (h0 : Nat) (q : Nat → Nat) (p0 : Int32) : vx_Met l yX11_basis (Cond.code yX11_basis cX11_basis 2 (some .int) :: pv_W) ({ frames := 8, cells := 1, slots := 6, locals := 122 } : Room) (va_Pc [.ref h0, .int p0] (pv_P D [] [(h0, .inr (0, [.ref (q 0), .int 0, .int 108, .ref (q 1), .int 0, .ref (q 2), .int 0, .ref (q 3), .ref (q 4), .int 1, .ref (q 5), .ref (q 6), .ref (q 7), .ref (q 8), .ref (q 9)]))] (va_A [] sz) sz)) (fun _ _ _ _ => False) (vx_X (fun _ : Unit => True) (fun E _ _ => E = "java/util/NoSuchElementException") (va_A [] sz)) 1 6 (va_A [] sz) := by
  refine vx_ofW (cc := cX11_basis) (maxL := 2) (ret := (some .int)) (by decide) rfl ?_
  intro p e s m args below meth c s₁ B hml hnt hv
  obtain ⟨rfl, hsz, hE, hP, hK, hD0⟩ := hv
  have hx := B.exec
  have hb := B.bytes
  have hr := B.returns
  have hts := fun (w : Cond) (h : w ∈ pv_W) => atoms_spec (ws := Cond.code yX11_basis cX11_basis 2 (some .int) :: pv_W) B.pre w (List.mem_cons_of_mem _ h)
  have hg := fun {w : Cond} (h : w ∈ lw_tbl) (g : goodWord w = true) => hts w (pv_in h g)
  have hown : s.vm.findClass RX11 = some m.cls := findClass_of_methodNamed B.named
  have hlocks := B.notSynchronized
  subst hsz
  have hD := hD0
  generalize hAe : va_A [] s.heap.size = A at hE ⊢
  have hA : ∀ q : Nat, s.heap.size ≤ q → A q := fun q h => by rw [← hAe]; exact Or.inr h
  have hS : va_S A s.heap s.heap [] := va_S.rf
  have hP : va_P D pv_cl [(h0, .inr (0, [.ref (q 0), .int 0, .int 108, .ref (q 1), .int 0, .ref (q 2), .int 0, .ref (q 3), .ref (q 4), .int 1, .ref (q 5), .ref (q 6), .ref (q 7), .ref (q 8), .ref (q 9)]))] s.heap := hP
  have hl := lv_entry ([.ref h0, .int p0]) (n := 2) (Nat.le_of_ble_eq_true rfl)
  rw [lg_entry_eq]
  generalize (lg_sl ([.ref h0, .int p0]) ++ List.replicate (2 - (lg_sl ([.ref h0, .int p0])).length) Slot.unset).toArray = ls at hl ⊢
  have hl : lv_has ls 2 [(0, .ref h0), (1, .int p0)] := hl
  refine lv_aload_n hx hb dX11_basis_0 rfl (lv_at hl 0 rfl) ?_
  refine lv_aload_n hx hb dX11_basis_1 rfl (lv_at hl 0 rfl) ?_
  refine lv_iload_n hx hb dX11_basis_2 rfl (lv_at hl 1 rfl) ?_
  have hF := pv_new hA hS.1
  refine pv_thrown (vx_runV (As := [.int p0]) (rest := [.ref h0]) ⟨hx, hb, hml, hown, hts⟩ (c_X11_idealAt l hfl D _ h0 q p0) (cwV 1 hts (pv_gV w7_190 w7_192 wp4_15 w1_1 w7_193) rfl rfl rfl (by decide +kernel) ⟨Nat.le_of_ble_eq_true rfl, Nat.le_of_ble_eq_true rfl⟩) (pv_pV hE hS hF (hP.sub [0] rfl) (hK.sub [] rfl) (hD.sub [0] (by decide) rfl) (va_recv (ci := 0) (q0 := 0) hK hP rfl rfl)) rfl rfl hl.1 rfl (lv_room (Nat.le_of_ble_eq_true rfl)) dX11_basis_3 ⟨Nat.le_of_ble_eq_true rfl, Nat.le_of_ble_eq_true rfl⟩) (fun _ _ _ h => h) hS hF hF (fun E ce q9 u t H1 locs1 ht hvm hpx hbx hz1 hk1 hS hce hcv hcl => ?_)
  exact vx_out (fun x h9 => absurd (hnt x h9) id) hlocks hce hcv hcl (fun t ht hvm => ⟨(), trivial, hbx, hS.F ht⟩) hS.2.2 (Nat.le_of_ble_eq_true rfl) (Nat.le_of_ble_eq_true rfl)

theorem dX11_basisTerms_0 : decode cX11_basisTerms 0 = .ok (.aload_n 0, 1) := by decide +kernel
theorem dX11_basisTerms_1 : decode cX11_basisTerms 1 = .ok (.aload_n 0, 1) := by decide +kernel
theorem dX11_basisTerms_2 : decode cX11_basisTerms 2 = .ok (.iload_n 1, 1) := by decide +kernel
theorem dX11_basisTerms_3 : decode cX11_basisTerms 3 = .ok (.invokevirtual 313, 3) := by decide +kernel
set_option maxHeartbeats 4000000 in
set_option maxRecDepth 100000 in
/-- basisTerms on a fresh object: throws -/
theorem c_X11_basisTerms (l : Launch) (hfl : l.stackTraces = false) (D : va_G) (sz : Nat) (h0 : Nat) (q : Nat → Nat) (p0 p1 : Int32) : vx_Met l yX11_basisTerms (Cond.code yX11_basisTerms cX11_basisTerms 4 (some .int) :: pv_W) ({ frames := 8, cells := 1, slots := 6, locals := 122 } : Room) (va_Pc [.ref h0, .int p0, .int p1] (pv_P D [] [(h0, .inr (0, [.ref (q 0), .int 0, .int 108, .ref (q 1), .int 0, .ref (q 2), .int 0, .ref (q 3), .ref (q 4), .int 1, .ref (q 5), .ref (q 6), .ref (q 7), .ref (q 8), .ref (q 9)]))] (va_A [] sz) sz)) (fun _ _ _ _ => False) (vx_X (fun _ : Unit => True) (fun E _ _ => E = "java/util/NoSuchElementException") (va_A [] sz)) 1 6 (va_A [] sz) := by
  refine vx_ofW (cc := cX11_basisTerms) (maxL := 4) (ret := (some .int)) (by decide) rfl ?_
  intro p e s m args below meth c s₁ B hml hnt hv
  obtain ⟨rfl, hsz, hE, hP, hK, hD0⟩ := hv
  have hx := B.exec
  have hb := B.bytes
  have hr := B.returns
  have hts := fun (w : Cond) (h : w ∈ pv_W) => atoms_spec (ws := Cond.code yX11_basisTerms cX11_basisTerms 4 (some .int) :: pv_W) B.pre w (List.mem_cons_of_mem _ h)
  have hg := fun {w : Cond} (h : w ∈ lw_tbl) (g : goodWord w = true) => hts w (pv_in h g)
  have hown : s.vm.findClass RX11 = some m.cls := findClass_of_methodNamed B.named
  have hlocks := B.notSynchronized
  subst hsz
  have hD := hD0
  generalize hAe : va_A [] s.heap.size = A at hE ⊢
  have hA : ∀ q : Nat, s.heap.size ≤ q → A q := fun q h => by rw [← hAe]; exact Or.inr h
  have hS : va_S A s.heap s.heap [] := va_S.rf
  have hP : va_P D pv_cl [(h0, .inr (0, [.ref (q 0), .int 0, .int 108, .ref (q 1), .int 0, .ref (q 2), .int 0, .ref (q 3), .ref (q 4), .int 1, .ref (q 5), .ref (q 6), .ref (q 7), .ref (q 8), .ref (q 9)]))] s.heap := hP
  have hl := lv_entry ([.ref h0, .int p0, .int p1]) (n := 4) (Nat.le_of_ble_eq_true rfl)
  rw [lg_entry_eq]
  generalize (lg_sl ([.ref h0, .int p0, .int p1]) ++ List.replicate (4 - (lg_sl ([.ref h0, .int p0, .int p1])).length) Slot.unset).toArray = ls at hl ⊢
  have hl : lv_has ls 4 [(0, .ref h0), (1, .int p0), (2, .int p1)] := hl
  refine lv_aload_n hx hb dX11_basisTerms_0 rfl (lv_at hl 0 rfl) ?_
  refine lv_aload_n hx hb dX11_basisTerms_1 rfl (lv_at hl 0 rfl) ?_
  refine lv_iload_n hx hb dX11_basisTerms_2 rfl (lv_at hl 1 rfl) ?_
  have hF := pv_new hA hS.1
  refine pv_thrown (vx_runV (As := [.int p0]) (rest := [.ref h0]) ⟨hx, hb, hml, hown, hts⟩ (c_X11_idealAt l hfl D _ h0 q p0) (cwV 1 hts (pv_gV w7_190 w7_192 wp4_15 w1_1 w7_193) rfl rfl rfl (by decide +kernel) ⟨Nat.le_of_ble_eq_true rfl, Nat.le_of_ble_eq_true rfl⟩) (pv_pV hE hS hF (hP.sub [0] rfl) (hK.sub [] rfl) (hD.sub [0] (by decide) rfl) (va_recv (ci := 0) (q0 := 0) hK hP rfl rfl)) rfl rfl hl.1 rfl (lv_room (Nat.le_of_ble_eq_true rfl)) dX11_basisTerms_3 ⟨Nat.le_of_ble_eq_true rfl, Nat.le_of_ble_eq_true rfl⟩) (fun _ _ _ h => h) hS hF hF (fun E ce q9 u t H1 locs1 ht hvm hpx hbx hz1 hk1 hS hce hcv hcl => ?_)
  exact vx_out (fun x h9 => absurd (hnt x h9) id) hlocks hce hcv hcl (fun t ht hvm => ⟨(), trivial, hbx, hS.F ht⟩) hS.2.2 (Nat.le_of_ble_eq_true rfl) (Nat.le_of_ble_eq_true rfl)

theorem dX11_basisCoefficient_0 : decode cX11_basisCoefficient 0 = .ok (.aload_n 0, 1) := by decide +kernel
theorem dX11_basisCoefficient_1 : decode cX11_basisCoefficient 1 = .ok (.aload_n 0, 1) := by decide +kernel
theorem dX11_basisCoefficient_2 : decode cX11_basisCoefficient 2 = .ok (.iload_n 1, 1) := by decide +kernel
theorem dX11_basisCoefficient_3 : decode cX11_basisCoefficient 3 = .ok (.invokevirtual 313, 3) := by decide +kernel
set_option maxHeartbeats 4000000 in
set_option maxRecDepth 100000 in
/-- basisCoefficient on a fresh object: throws -/
theorem c_X11_basisCoefficient (l : Launch) (hfl : l.stackTraces = false) (D : va_G) (sz : Nat) (h0 : Nat) (q : Nat → Nat) (p0 p1 p2 : Int32) : vx_Met l yX11_basisCoefficient (Cond.code yX11_basisCoefficient cX11_basisCoefficient 5 (some .int) :: pv_W) ({ frames := 8, cells := 1, slots := 6, locals := 122 } : Room) (va_Pc [.ref h0, .int p0, .int p1, .int p2] (pv_P D [] [(h0, .inr (0, [.ref (q 0), .int 0, .int 108, .ref (q 1), .int 0, .ref (q 2), .int 0, .ref (q 3), .ref (q 4), .int 1, .ref (q 5), .ref (q 6), .ref (q 7), .ref (q 8), .ref (q 9)]))] (va_A [] sz) sz)) (fun _ _ _ _ => False) (vx_X (fun _ : Unit => True) (fun E _ _ => E = "java/util/NoSuchElementException") (va_A [] sz)) 1 6 (va_A [] sz) := by
  refine vx_ofW (cc := cX11_basisCoefficient) (maxL := 5) (ret := (some .int)) (by decide) rfl ?_
  intro p e s m args below meth c s₁ B hml hnt hv
  obtain ⟨rfl, hsz, hE, hP, hK, hD0⟩ := hv
  have hx := B.exec
  have hb := B.bytes
  have hr := B.returns
  have hts := fun (w : Cond) (h : w ∈ pv_W) => atoms_spec (ws := Cond.code yX11_basisCoefficient cX11_basisCoefficient 5 (some .int) :: pv_W) B.pre w (List.mem_cons_of_mem _ h)
  have hg := fun {w : Cond} (h : w ∈ lw_tbl) (g : goodWord w = true) => hts w (pv_in h g)
  have hown : s.vm.findClass RX11 = some m.cls := findClass_of_methodNamed B.named
  have hlocks := B.notSynchronized
  subst hsz
  have hD := hD0
  generalize hAe : va_A [] s.heap.size = A at hE ⊢
  have hA : ∀ q : Nat, s.heap.size ≤ q → A q := fun q h => by rw [← hAe]; exact Or.inr h
  have hS : va_S A s.heap s.heap [] := va_S.rf
  have hP : va_P D pv_cl [(h0, .inr (0, [.ref (q 0), .int 0, .int 108, .ref (q 1), .int 0, .ref (q 2), .int 0, .ref (q 3), .ref (q 4), .int 1, .ref (q 5), .ref (q 6), .ref (q 7), .ref (q 8), .ref (q 9)]))] s.heap := hP
  have hl := lv_entry ([.ref h0, .int p0, .int p1, .int p2]) (n := 5) (Nat.le_of_ble_eq_true rfl)
  rw [lg_entry_eq]
  generalize (lg_sl ([.ref h0, .int p0, .int p1, .int p2]) ++ List.replicate (5 - (lg_sl ([.ref h0, .int p0, .int p1, .int p2])).length) Slot.unset).toArray = ls at hl ⊢
  have hl : lv_has ls 5 [(0, .ref h0), (1, .int p0), (2, .int p1), (3, .int p2)] := hl
  refine lv_aload_n hx hb dX11_basisCoefficient_0 rfl (lv_at hl 0 rfl) ?_
  refine lv_aload_n hx hb dX11_basisCoefficient_1 rfl (lv_at hl 0 rfl) ?_
  refine lv_iload_n hx hb dX11_basisCoefficient_2 rfl (lv_at hl 1 rfl) ?_
  have hF := pv_new hA hS.1
  refine pv_thrown (vx_runV (As := [.int p0]) (rest := [.ref h0]) ⟨hx, hb, hml, hown, hts⟩ (c_X11_idealAt l hfl D _ h0 q p0) (cwV 1 hts (pv_gV w7_190 w7_192 wp4_15 w1_1 w7_193) rfl rfl rfl (by decide +kernel) ⟨Nat.le_of_ble_eq_true rfl, Nat.le_of_ble_eq_true rfl⟩) (pv_pV hE hS hF (hP.sub [0] rfl) (hK.sub [] rfl) (hD.sub [0] (by decide) rfl) (va_recv (ci := 0) (q0 := 0) hK hP rfl rfl)) rfl rfl hl.1 rfl (lv_room (Nat.le_of_ble_eq_true rfl)) dX11_basisCoefficient_3 ⟨Nat.le_of_ble_eq_true rfl, Nat.le_of_ble_eq_true rfl⟩) (fun _ _ _ h => h) hS hF hF (fun E ce q9 u t H1 locs1 ht hvm hpx hbx hz1 hk1 hS hce hcv hcl => ?_)
  exact vx_out (fun x h9 => absurd (hnt x h9) id) hlocks hce hcv hcl (fun t ht hvm => ⟨(), trivial, hbx, hS.F ht⟩) hS.2.2 (Nat.le_of_ble_eq_true rfl) (Nat.le_of_ble_eq_true rfl)

theorem dX11_basisExponent_0 : decode cX11_basisExponent 0 = .ok (.aload_n 0, 1) := by decide +kernel
theorem dX11_basisExponent_1 : decode cX11_basisExponent 1 = .ok (.aload_n 0, 1) := by decide +kernel
theorem dX11_basisExponent_2 : decode cX11_basisExponent 2 = .ok (.iload_n 1, 1) := by decide +kernel
theorem dX11_basisExponent_3 : decode cX11_basisExponent 3 = .ok (.invokevirtual 313, 3) := by decide +kernel
set_option maxHeartbeats 4000000 in
set_option maxRecDepth 100000 in
/-- basisExponent on a fresh object: throws -/
theorem c_X11_basisExponent (l : Launch) (hfl : l.stackTraces = false) (D : va_G) (sz : Nat) (h0 : Nat) (q : Nat → Nat) (p0 p1 p2 p3 : Int32) : vx_Met l yX11_basisExponent (Cond.code yX11_basisExponent cX11_basisExponent 6 (some .int) :: pv_W) ({ frames := 8, cells := 1, slots := 6, locals := 122 } : Room) (va_Pc [.ref h0, .int p0, .int p1, .int p2, .int p3] (pv_P D [] [(h0, .inr (0, [.ref (q 0), .int 0, .int 108, .ref (q 1), .int 0, .ref (q 2), .int 0, .ref (q 3), .ref (q 4), .int 1, .ref (q 5), .ref (q 6), .ref (q 7), .ref (q 8), .ref (q 9)]))] (va_A [] sz) sz)) (fun _ _ _ _ => False) (vx_X (fun _ : Unit => True) (fun E _ _ => E = "java/util/NoSuchElementException") (va_A [] sz)) 1 6 (va_A [] sz) := by
  refine vx_ofW (cc := cX11_basisExponent) (maxL := 6) (ret := (some .int)) (by decide) rfl ?_
  intro p e s m args below meth c s₁ B hml hnt hv
  obtain ⟨rfl, hsz, hE, hP, hK, hD0⟩ := hv
  have hx := B.exec
  have hb := B.bytes
  have hr := B.returns
  have hts := fun (w : Cond) (h : w ∈ pv_W) => atoms_spec (ws := Cond.code yX11_basisExponent cX11_basisExponent 6 (some .int) :: pv_W) B.pre w (List.mem_cons_of_mem _ h)
  have hg := fun {w : Cond} (h : w ∈ lw_tbl) (g : goodWord w = true) => hts w (pv_in h g)
  have hown : s.vm.findClass RX11 = some m.cls := findClass_of_methodNamed B.named
  have hlocks := B.notSynchronized
  subst hsz
  have hD := hD0
  generalize hAe : va_A [] s.heap.size = A at hE ⊢
  have hA : ∀ q : Nat, s.heap.size ≤ q → A q := fun q h => by rw [← hAe]; exact Or.inr h
  have hS : va_S A s.heap s.heap [] := va_S.rf
  have hP : va_P D pv_cl [(h0, .inr (0, [.ref (q 0), .int 0, .int 108, .ref (q 1), .int 0, .ref (q 2), .int 0, .ref (q 3), .ref (q 4), .int 1, .ref (q 5), .ref (q 6), .ref (q 7), .ref (q 8), .ref (q 9)]))] s.heap := hP
  have hl := lv_entry ([.ref h0, .int p0, .int p1, .int p2, .int p3]) (n := 6) (Nat.le_of_ble_eq_true rfl)
  rw [lg_entry_eq]
  generalize (lg_sl ([.ref h0, .int p0, .int p1, .int p2, .int p3]) ++ List.replicate (6 - (lg_sl ([.ref h0, .int p0, .int p1, .int p2, .int p3])).length) Slot.unset).toArray = ls at hl ⊢
  have hl : lv_has ls 6 [(0, .ref h0), (1, .int p0), (2, .int p1), (3, .int p2), (4, .int p3)] := hl
  refine lv_aload_n hx hb dX11_basisExponent_0 rfl (lv_at hl 0 rfl) ?_
  refine lv_aload_n hx hb dX11_basisExponent_1 rfl (lv_at hl 0 rfl) ?_
  refine lv_iload_n hx hb dX11_basisExponent_2 rfl (lv_at hl 1 rfl) ?_
  have hF := pv_new hA hS.1
  refine pv_thrown (vx_runV (As := [.int p0]) (rest := [.ref h0]) ⟨hx, hb, hml, hown, hts⟩ (c_X11_idealAt l hfl D _ h0 q p0) (cwV 1 hts (pv_gV w7_190 w7_192 wp4_15 w1_1 w7_193) rfl rfl rfl (by decide +kernel) ⟨Nat.le_of_ble_eq_true rfl, Nat.le_of_ble_eq_true rfl⟩) (pv_pV hE hS hF (hP.sub [0] rfl) (hK.sub [] rfl) (hD.sub [0] (by decide) rfl) (va_recv (ci := 0) (q0 := 0) hK hP rfl rfl)) rfl rfl hl.1 rfl (lv_room (Nat.le_of_ble_eq_true rfl)) dX11_basisExponent_3 ⟨Nat.le_of_ble_eq_true rfl, Nat.le_of_ble_eq_true rfl⟩) (fun _ _ _ h => h) hS hF hF (fun E ce q9 u t H1 locs1 ht hvm hpx hbx hz1 hk1 hS hce hcv hcl => ?_)
  exact vx_out (fun x h9 => absurd (hnt x h9) id) hlocks hce hcv hcl (fun t ht hvm => ⟨(), trivial, hbx, hS.F ht⟩) hS.2.2 (Nat.le_of_ble_eq_true rfl) (Nat.le_of_ble_eq_true rfl)

theorem dX11_normalForm_0 : decode cX11_normalForm 0 = .ok (.aload_n 0, 1) := by decide +kernel
theorem dX11_normalForm_1 : decode cX11_normalForm 1 = .ok (.iload_n 1, 1) := by decide +kernel
theorem dX11_normalForm_2 : decode cX11_normalForm 2 = .ok (.invokevirtual 313, 3) := by decide +kernel
set_option maxHeartbeats 4000000 in
set_option maxRecDepth 100000 in
/-- normalForm on a fresh object: throws -/
theorem c_X11_normalForm (l : Launch) (hfl : l.stackTraces = false) (D : va_G) (sz : Nat) (h0 : Nat) (q : Nat → Nat) (p0 p1 : Int32) : vx_Met l yX11_normalForm (Cond.code yX11_normalForm cX11_normalForm 7 (some .int) :: pv_W) ({ frames := 8, cells := 1, slots := 6, locals := 122 } : Room) (va_Pc [.ref h0, .int p0, .int p1] (pv_P D [] [(h0, .inr (0, [.ref (q 0), .int 0, .int 108, .ref (q 1), .int 0, .ref (q 2), .int 0, .ref (q 3), .ref (q 4), .int 1, .ref (q 5), .ref (q 6), .ref (q 7), .ref (q 8), .ref (q 9)]))] (va_A [] sz) sz)) (fun _ _ _ _ => False) (vx_X (fun _ : Unit => True) (fun E _ _ => E = "java/util/NoSuchElementException") (va_A [] sz)) 1 6 (va_A [] sz) := by
  refine vx_ofW (cc := cX11_normalForm) (maxL := 7) (ret := (some .int)) (by decide) rfl ?_
  intro p e s m args below meth c s₁ B hml hnt hv
  obtain ⟨rfl, hsz, hE, hP, hK, hD0⟩ := hv
  have hx := B.exec
  have hb := B.bytes
  have hr := B.returns
  have hts := fun (w : Cond) (h : w ∈ pv_W) => atoms_spec (ws := Cond.code yX11_normalForm cX11_normalForm 7 (some .int) :: pv_W) B.pre w (List.mem_cons_of_mem _ h)
  have hg := fun {w : Cond} (h : w ∈ lw_tbl) (g : goodWord w = true) => hts w (pv_in h g)
  have hown : s.vm.findClass RX11 = some m.cls := findClass_of_methodNamed B.named
  have hlocks := B.notSynchronized
  subst hsz
  have hD := hD0
  generalize hAe : va_A [] s.heap.size = A at hE ⊢
  have hA : ∀ q : Nat, s.heap.size ≤ q → A q := fun q h => by rw [← hAe]; exact Or.inr h
  have hS : va_S A s.heap s.heap [] := va_S.rf
  have hP : va_P D pv_cl [(h0, .inr (0, [.ref (q 0), .int 0, .int 108, .ref (q 1), .int 0, .ref (q 2), .int 0, .ref (q 3), .ref (q 4), .int 1, .ref (q 5), .ref (q 6), .ref (q 7), .ref (q 8), .ref (q 9)]))] s.heap := hP
  have hl := lv_entry ([.ref h0, .int p0, .int p1]) (n := 7) (Nat.le_of_ble_eq_true rfl)
  rw [lg_entry_eq]
  generalize (lg_sl ([.ref h0, .int p0, .int p1]) ++ List.replicate (7 - (lg_sl ([.ref h0, .int p0, .int p1])).length) Slot.unset).toArray = ls at hl ⊢
  have hl : lv_has ls 7 [(0, .ref h0), (1, .int p0), (2, .int p1)] := hl
  refine lv_aload_n hx hb dX11_normalForm_0 rfl (lv_at hl 0 rfl) ?_
  refine lv_iload_n hx hb dX11_normalForm_1 rfl (lv_at hl 1 rfl) ?_
  have hF := pv_new hA hS.1
  refine pv_thrown (vx_runV (As := [.int p0]) (rest := []) ⟨hx, hb, hml, hown, hts⟩ (c_X11_idealAt l hfl D _ h0 q p0) (cwV 1 hts (pv_gV w7_190 w7_192 wp4_15 w1_1 w7_193) rfl rfl rfl (by decide +kernel) ⟨Nat.le_of_ble_eq_true rfl, Nat.le_of_ble_eq_true rfl⟩) (pv_pV hE hS hF (hP.sub [0] rfl) (hK.sub [] rfl) (hD.sub [0] (by decide) rfl) (va_recv (ci := 0) (q0 := 0) hK hP rfl rfl)) rfl rfl hl.1 rfl (lv_room (Nat.le_of_ble_eq_true rfl)) dX11_normalForm_2 ⟨Nat.le_of_ble_eq_true rfl, Nat.le_of_ble_eq_true rfl⟩) (fun _ _ _ h => h) hS hF hF (fun E ce q9 u t H1 locs1 ht hvm hpx hbx hz1 hk1 hS hce hcv hcl => ?_)
  exact vx_out (fun x h9 => absurd (hnt x h9) id) hlocks hce hcv hcl (fun t ht hvm => ⟨(), trivial, hbx, hS.F ht⟩) hS.2.2 (Nat.le_of_ble_eq_true rfl) (Nat.le_of_ble_eq_true rfl)

theorem dX11_isIn_0 : decode cX11_isIn 0 = .ok (.aload_n 0, 1) := by decide +kernel
theorem dX11_isIn_1 : decode cX11_isIn 1 = .ok (.iload_n 1, 1) := by decide +kernel
theorem dX11_isIn_2 : decode cX11_isIn 2 = .ok (.invokevirtual 313, 3) := by decide +kernel
set_option maxHeartbeats 4000000 in
set_option maxRecDepth 100000 in
/-- isIn on a fresh object: throws -/
theorem c_X11_isIn (l : Launch) (hfl : l.stackTraces = false) (D : va_G) (sz : Nat) (h0 : Nat) (q : Nat → Nat) (p0 p1 : Int32) : vx_Met l yX11_isIn (Cond.code yX11_isIn cX11_isIn 6 (some .boolean) :: pv_W) ({ frames := 8, cells := 1, slots := 6, locals := 122 } : Room) (va_Pc [.ref h0, .int p0, .int p1] (pv_P D [] [(h0, .inr (0, [.ref (q 0), .int 0, .int 108, .ref (q 1), .int 0, .ref (q 2), .int 0, .ref (q 3), .ref (q 4), .int 1, .ref (q 5), .ref (q 6), .ref (q 7), .ref (q 8), .ref (q 9)]))] (va_A [] sz) sz)) (fun _ _ _ _ => False) (vx_X (fun _ : Unit => True) (fun E _ _ => E = "java/util/NoSuchElementException") (va_A [] sz)) 1 6 (va_A [] sz) := by
  refine vx_ofW (cc := cX11_isIn) (maxL := 6) (ret := (some .boolean)) (by decide) rfl ?_
  intro p e s m args below meth c s₁ B hml hnt hv
  obtain ⟨rfl, hsz, hE, hP, hK, hD0⟩ := hv
  have hx := B.exec
  have hb := B.bytes
  have hr := B.returns
  have hts := fun (w : Cond) (h : w ∈ pv_W) => atoms_spec (ws := Cond.code yX11_isIn cX11_isIn 6 (some .boolean) :: pv_W) B.pre w (List.mem_cons_of_mem _ h)
  have hg := fun {w : Cond} (h : w ∈ lw_tbl) (g : goodWord w = true) => hts w (pv_in h g)
  have hown : s.vm.findClass RX11 = some m.cls := findClass_of_methodNamed B.named
  have hlocks := B.notSynchronized
  subst hsz
  have hD := hD0
  generalize hAe : va_A [] s.heap.size = A at hE ⊢
  have hA : ∀ q : Nat, s.heap.size ≤ q → A q := fun q h => by rw [← hAe]; exact Or.inr h
  have hS : va_S A s.heap s.heap [] := va_S.rf
  have hP : va_P D pv_cl [(h0, .inr (0, [.ref (q 0), .int 0, .int 108, .ref (q 1), .int 0, .ref (q 2), .int 0, .ref (q 3), .ref (q 4), .int 1, .ref (q 5), .ref (q 6), .ref (q 7), .ref (q 8), .ref (q 9)]))] s.heap := hP
  have hl := lv_entry ([.ref h0, .int p0, .int p1]) (n := 6) (Nat.le_of_ble_eq_true rfl)
  rw [lg_entry_eq]
  generalize (lg_sl ([.ref h0, .int p0, .int p1]) ++ List.replicate (6 - (lg_sl ([.ref h0, .int p0, .int p1])).length) Slot.unset).toArray = ls at hl ⊢
  have hl : lv_has ls 6 [(0, .ref h0), (1, .int p0), (2, .int p1)] := hl
  refine lv_aload_n hx hb dX11_isIn_0 rfl (lv_at hl 0 rfl) ?_
  refine lv_iload_n hx hb dX11_isIn_1 rfl (lv_at hl 1 rfl) ?_
  have hF := pv_new hA hS.1
  refine pv_thrown (vx_runV (As := [.int p0]) (rest := []) ⟨hx, hb, hml, hown, hts⟩ (c_X11_idealAt l hfl D _ h0 q p0) (cwV 1 hts (pv_gV w7_190 w7_192 wp4_15 w1_1 w7_193) rfl rfl rfl (by decide +kernel) ⟨Nat.le_of_ble_eq_true rfl, Nat.le_of_ble_eq_true rfl⟩) (pv_pV hE hS hF (hP.sub [0] rfl) (hK.sub [] rfl) (hD.sub [0] (by decide) rfl) (va_recv (ci := 0) (q0 := 0) hK hP rfl rfl)) rfl rfl hl.1 rfl (lv_room (Nat.le_of_ble_eq_true rfl)) dX11_isIn_2 ⟨Nat.le_of_ble_eq_true rfl, Nat.le_of_ble_eq_true rfl⟩) (fun _ _ _ h => h) hS hF hF (fun E ce q9 u t H1 locs1 ht hvm hpx hbx hz1 hk1 hS hce hcv hcl => ?_)
  exact vx_out (fun x h9 => absurd (hnt x h9) id) hlocks hce hcv hcl (fun t ht hvm => ⟨(), trivial, hbx, hS.F ht⟩) hS.2.2 (Nat.le_of_ble_eq_true rfl) (Nat.le_of_ble_eq_true rfl)

theorem dX11_size_0 : decode cX11_size 0 = .ok (.aload_n 0, 1) := by decide +kernel
theorem dX11_size_1 : decode cX11_size 1 = .ok (.aload_n 0, 1) := by decide +kernel
theorem dX11_size_2 : decode cX11_size 2 = .ok (.iload_n 1, 1) := by decide +kernel
theorem dX11_size_3 : decode cX11_size 3 = .ok (.invokevirtual 313, 3) := by decide +kernel
set_option maxHeartbeats 4000000 in
set_option maxRecDepth 100000 in
/-- size on a fresh object: throws -/
theorem c_X11_size (l : Launch) (hfl : l.stackTraces = false) (D : va_G) (sz : Nat) (h0 : Nat) (q : Nat → Nat) (p0 : Int32) : vx_Met l yX11_size (Cond.code yX11_size cX11_size 3 (some .int) :: pv_W) ({ frames := 8, cells := 1, slots := 6, locals := 122 } : Room) (va_Pc [.ref h0, .int p0] (pv_P D [] [(h0, .inr (0, [.ref (q 0), .int 0, .int 108, .ref (q 1), .int 0, .ref (q 2), .int 0, .ref (q 3), .ref (q 4), .int 1, .ref (q 5), .ref (q 6), .ref (q 7), .ref (q 8), .ref (q 9)]))] (va_A [] sz) sz)) (fun _ _ _ _ => False) (vx_X (fun _ : Unit => True) (fun E _ _ => E = "java/util/NoSuchElementException") (va_A [] sz)) 1 6 (va_A [] sz) := by
  refine vx_ofW (cc := cX11_size) (maxL := 3) (ret := (some .int)) (by decide) rfl ?_
  intro p e s m args below meth c s₁ B hml hnt hv
  obtain ⟨rfl, hsz, hE, hP, hK, hD0⟩ := hv
  have hx := B.exec
  have hb := B.bytes
  have hr := B.returns
  have hts := fun (w : Cond) (h : w ∈ pv_W) => atoms_spec (ws := Cond.code yX11_size cX11_size 3 (some .int) :: pv_W) B.pre w (List.mem_cons_of_mem _ h)
  have hg := fun {w : Cond} (h : w ∈ lw_tbl) (g : goodWord w = true) => hts w (pv_in h g)
  have hown : s.vm.findClass RX11 = some m.cls := findClass_of_methodNamed B.named
  have hlocks := B.notSynchronized
  subst hsz
  have hD := hD0
  generalize hAe : va_A [] s.heap.size = A at hE ⊢
  have hA : ∀ q : Nat, s.heap.size ≤ q → A q := fun q h => by rw [← hAe]; exact Or.inr h
  have hS : va_S A s.heap s.heap [] := va_S.rf
  have hP : va_P D pv_cl [(h0, .inr (0, [.ref (q 0), .int 0, .int 108, .ref (q 1), .int 0, .ref (q 2), .int 0, .ref (q 3), .ref (q 4), .int 1, .ref (q 5), .ref (q 6), .ref (q 7), .ref (q 8), .ref (q 9)]))] s.heap := hP
  have hl := lv_entry ([.ref h0, .int p0]) (n := 3) (Nat.le_of_ble_eq_true rfl)
  rw [lg_entry_eq]
  generalize (lg_sl ([.ref h0, .int p0]) ++ List.replicate (3 - (lg_sl ([.ref h0, .int p0])).length) Slot.unset).toArray = ls at hl ⊢
  have hl : lv_has ls 3 [(0, .ref h0), (1, .int p0)] := hl
  refine lv_aload_n hx hb dX11_size_0 rfl (lv_at hl 0 rfl) ?_
  refine lv_aload_n hx hb dX11_size_1 rfl (lv_at hl 0 rfl) ?_
  refine lv_iload_n hx hb dX11_size_2 rfl (lv_at hl 1 rfl) ?_
  have hF := pv_new hA hS.1
  refine pv_thrown (vx_runV (As := [.int p0]) (rest := [.ref h0]) ⟨hx, hb, hml, hown, hts⟩ (c_X11_idealAt l hfl D _ h0 q p0) (cwV 1 hts (pv_gV w7_190 w7_192 wp4_15 w1_1 w7_193) rfl rfl rfl (by decide +kernel) ⟨Nat.le_of_ble_eq_true rfl, Nat.le_of_ble_eq_true rfl⟩) (pv_pV hE hS hF (hP.sub [0] rfl) (hK.sub [] rfl) (hD.sub [0] (by decide) rfl) (va_recv (ci := 0) (q0 := 0) hK hP rfl rfl)) rfl rfl hl.1 rfl (lv_room (Nat.le_of_ble_eq_true rfl)) dX11_size_3 ⟨Nat.le_of_ble_eq_true rfl, Nat.le_of_ble_eq_true rfl⟩) (fun _ _ _ h => h) hS hF hF (fun E ce q9 u t H1 locs1 ht hvm hpx hbx hz1 hk1 hS hce hcv hcl => ?_)
  exact vx_out (fun x h9 => absurd (hnt x h9) id) hlocks hce hcv hcl (fun t ht hvm => ⟨(), trivial, hbx, hS.F ht⟩) hS.2.2 (Nat.le_of_ble_eq_true rfl) (Nat.le_of_ble_eq_true rfl)

