theorem pv_thrown {p : Program} {l : Launch} {e : Env} {R : Room} {s : State} {m : MethodId} {args : Array Value} {below : List Frame} {meth : Method} {c : Code} {H : Heap} {locs : List Loc} {cells slots mc ms : Nat} {Q : State → Prop} {pc : Nat} {ls : Array Slot} {st0 rest : List Value} {free : Addr → Prop} {A0 : Nat → Prop} {H0 : Heap} {Qa : State → Outcome → State → Prop} {SX : Type} {px : SX → Prop} {BX : String → SX → State → Prop} {AX : Nat → Prop}
    (hr : vx_Run p l e R s m args below meth c H locs cells slots mc ms (F0 m pc ls st0) rest Qa (vx_X px BX AX) free) (hno : ∀ st o t, ¬ Qa st o t) (hS : va_S A0 H0 H locs) (hf : ∀ q, free q → A0 q) (hAX : ∀ q, AX q → A0 q)
    (kx : ∀ (E : String) (ce : Cell) (q9 : Addr) (u : SX) (t : State) (H1 : Heap) (locs1 : List Loc), t.heap = H1 → s.vm.Alike t.vm → px u → BX E u t → H.size ≤ H1.size → (∀ q : Nat, q < H.size → ¬ AX q → H1[q]? = H[q]?) → va_S A0 H0 H1 locs1 → H1[q9]? = some ce → ce.vm = .none → s.vm.findClass E = some ce.cls → vx_W p l e R s m args below meth c H1 locs1 (cells + mc) (slots + ms) Q (F0 m pc ls rest) q9) : W p l e R s m args below meth c H locs cells slots Q (F0 m pc ls st0) := by
  intro T hT X
  rcases hr T hT X with ⟨v, st₀, t, T', L, h0, X', hL, e1, e2, hq, st⟩ | ⟨q, st₀, t, T', L, E, ce, h0, X', hL, e1, e2, ⟨u, hp, hb, hF⟩, hce, hcv, hcl, st⟩
  · exact absurd hq (hno _ _ _)
  · obtain ⟨k1, k2, k3⟩ := vx_keep h0 e1 hS (fun q _ h => hAX q h) hf hL hF
    obtain ⟨t2, a1, b1⟩ := kx E ce q u t T'.heap (locs ++ L) e1.symm (by rw [← e2]; exact X'.warmed.alike) hp hb k1 k2 k3 (by rw [e1]; exact hce) hcv hcl T' rfl X'
    exact ⟨t2, st.trans a1, b1⟩
/-- a fresh object's fields -/
abbrev pv_x (q : Nat → Nat) : List Value := [.ref (q 0), .int 0, .int 108, .ref (q 1), .int 0, .ref (q 2), .int 0, .ref (q 3), .ref (q 4), .int 1, .ref (q 5), .ref (q 6), .ref (q 7), .ref (q 8), .ref (q 9)]

theorem dX11_keptAt_0 : decode cX11_keptAt 0 = .ok (.iload_n 1, 1) := by decide +kernel
theorem dX11_keptAt_1 : decode cX11_keptAt 1 = .ok (.ifCond .lt 29, 3) := by decide +kernel
theorem dX11_keptAt_30 : decode cX11_keptAt 30 = .ok (.aconst_null, 1) := by decide +kernel
theorem dX11_keptAt_31 : decode cX11_keptAt 31 = .ok (.areturn, 1) := by decide +kernel
theorem dX11_keptAt_4 : decode cX11_keptAt 4 = .ok (.iload_n 1, 1) := by decide +kernel
theorem dX11_keptAt_5 : decode cX11_keptAt 5 = .ok (.aload_n 0, 1) := by decide +kernel
theorem dX11_keptAt_6 : decode cX11_keptAt 6 = .ok (.getfield 15, 3) := by decide +kernel
theorem w2_38 : (Jvm.Cond.fieldLink "Polyforge" (15 : Nat) "Polyforge" "keptCount" "I") ∈ lw_tbl := pv_t2 (pv_mg 38 rfl)
theorem dX11_keptAt_9 : decode cX11_keptAt 9 = .ok (.if_icmp .ge 21, 3) := by decide +kernel
set_option maxHeartbeats 4000000 in
set_option maxRecDepth 100000 in
/-- keptAt(p) on a fresh object: null -/
theorem c_X11_keptAt (l : Launch) (hfl : l.stackTraces = false) (D : va_G) (sz : Nat) (h0 : Nat) (q : Nat → Nat) (p0 : Int32) : Met l yX11_keptAt (Cond.code yX11_keptAt cX11_keptAt 2 (some (.object "Polyforge$Polynomial")) :: pv_W) ({ frames := 0, cells := 0, slots := 0, locals := 0 } : Room) (va_Pc [.ref h0, .int p0] (pv_P D [] [(h0, .inr (0, [.ref (q 0), .int 0, .int 108, .ref (q 1), .int 0, .ref (q 2), .int 0, .ref (q 3), .ref (q 4), .int 1, .ref (q 5), .ref (q 6), .ref (q 7), .ref (q 8), .ref (q 9)]))] (va_A [] sz) sz)) (va_Qq (fun r (_ : Unit) => r = none) (fun _ _ => True) (va_A [] sz)) 0 0 (va_A [] sz) := by
  refine Met.ofW (cc := cX11_keptAt) (maxL := 2) (ret := (some (.object "Polyforge$Polynomial"))) (by decide) rfl ?_
  intro p e s m args below meth c s₁ B hml hv
  obtain ⟨rfl, hsz, hE, hP, hK, hD0⟩ := hv
  have hx := B.exec
  have hb := B.bytes
  have hr := B.returns
  have hts := fun (w : Cond) (h : w ∈ pv_W) => atoms_spec (ws := Cond.code yX11_keptAt cX11_keptAt 2 (some (.object "Polyforge$Polynomial")) :: pv_W) B.pre w (List.mem_cons_of_mem _ h)
  have hg := fun {w : Cond} (h : w ∈ lw_tbl) (g : goodWord w = true) => hts w (pv_in h g)
  have hown : s.vm.findClass RX11 = some m.cls := findClass_of_methodNamed B.named
  have hlocks := B.notSynchronized
  subst hsz
  have hD := hD0
  generalize hAe : va_A [] s.heap.size = A at hE ⊢
  have hA : ∀ q : Nat, s.heap.size ≤ q → A q := fun q h => by rw [← hAe]; exact Or.inr h
  have hS : va_S A s.heap s.heap [] := va_S.rf
  have hP : va_P D pv_cl [(h0, .inr (0, [.ref (q 0), .int 0, .int 108, .ref (q 1), .int 0, .ref (q 2), .int 0, .ref (q 3), .ref (q 4), .int 1, .ref (q 5), .ref (q 6), .ref (q 7), .ref (q 8), .ref (q 9)]))] s.heap := hP
  have hl := lv_entry ([.ref h0, .int p0]) (n := 2) (Nat.le_of_ble_eq_true rfl)
  rw [lg_entry_eq]
  generalize (lg_sl ([.ref h0, .int p0]) ++ List.replicate (2 - (lg_sl ([.ref h0, .int p0])).length) Slot.unset).toArray = ls at hl ⊢
  have hl : lv_has ls 2 [(0, .ref h0), (1, .int p0)] := hl
  refine lv_iload_n hx hb dX11_keptAt_0 rfl (lv_at hl 1 rfl) ?_
  refine lv_if_lt (tgt := 30) hx hb dX11_keptAt_1 (by decide) (fun c_1 => ?_) (fun c_1 => ?_)
  · refine lv_null hx hb dX11_keptAt_30 ?_
    refine W.widen (k := 0) (n := 0) (Nat.le_of_ble_eq_true rfl) (Nat.le_of_ble_eq_true rfl) ?_
    exact W.aret (v := .null) hx hb hr (Or.inl ⟨_, rfl⟩) (Or.inl rfl) (fun t ht hW => ⟨⟨none, (), rfl, rfl, trivial⟩, hS.F ht⟩) hS.2.2 dX11_keptAt_31
  · refine lv_iload_n hx hb dX11_keptAt_4 rfl (lv_at hl 1 rfl) ?_
    refine lv_aload_n hx hb dX11_keptAt_5 rfl (lv_at hl 0 rfl) ?_
    refine va_get (own := RX11) (D := D) (ci := 0) (v := .int 0) (C := RX11) (T := TX11) (N := 15) hx hb hts inF11 hown hK hP 0 rfl rfl 1 (by decide) (hg w2_38 rfl) (fun _ h9 => h9) rfl dX11_keptAt_6 ?_
    refine lv_icmp_ge (tgt := 30) hx hb dX11_keptAt_9 (by decide) (fun c_2 => ?_) (fun c_2 => absurd (Int32.not_lt.mp c_1) c_2)
    refine lv_null hx hb dX11_keptAt_30 ?_
    refine W.widen (k := 0) (n := 0) (Nat.le_of_ble_eq_true rfl) (Nat.le_of_ble_eq_true rfl) ?_
    exact W.aret (v := .null) hx hb hr (Or.inl ⟨_, rfl⟩) (Or.inl rfl) (fun t ht hW => ⟨⟨none, (), rfl, rfl, trivial⟩, hS.F ht⟩) hS.2.2 dX11_keptAt_31

theorem dX11_polynomialAt_0 : decode cX11_polynomialAt 0 = .ok (.aload_n 0, 1) := by decide +kernel
theorem dX11_polynomialAt_1 : decode cX11_polynomialAt 1 = .ok (.iload_n 1, 1) := by decide +kernel
theorem dX11_polynomialAt_2 : decode cX11_polynomialAt 2 = .ok (.invokevirtual 425, 3) := by decide +kernel
theorem w2_91 : (Jvm.Cond.methodLink "Polyforge" (425 : Nat) ({ cls := "Polyforge", name := "keptAt", desc := "(I)LPolyforge$Polynomial;" } : Jvm.MethodName)) ∈ lw_tbl := pv_t2 (pv_mg 91 rfl)
theorem w2_94 : (Jvm.Cond.code ({ cls := "Polyforge", name := "keptAt", desc := "(I)LPolyforge$Polynomial;" } : Jvm.MethodName) prog_1_method_74_code (2 : Nat) (Option.some (Jvm.ClassFile.FieldType.object "Polyforge$Polynomial"))) ∈ lw_tbl := pv_t2 (pv_mg 94 rfl)
theorem wp1_0 : Cond.selects "Polyforge" ⟨"Polyforge", "keptAt", "(I)LPolyforge$Polynomial;"⟩ ⟨"Polyforge", "keptAt", "(I)LPolyforge$Polynomial;"⟩ ∈ lw_tbl := pv_mg 0 rfl
theorem w2_93 : (Jvm.Cond.instanceMethod ({ cls := "Polyforge", name := "keptAt", desc := "(I)LPolyforge$Polynomial;" } : Jvm.MethodName)) ∈ lw_tbl := pv_t2 (pv_mg 93 rfl)
theorem w1_1 : (Jvm.Cond.initialized "Polyforge") ∈ lw_tbl := pv_t1 (pv_mg 1 rfl)
theorem dX11_polynomialAt_5 : decode cX11_polynomialAt 5 = .ok (.astore_n 2, 1) := by decide +kernel
theorem dX11_polynomialAt_6 : decode cX11_polynomialAt 6 = .ok (.aload_n 2, 1) := by decide +kernel
theorem dX11_polynomialAt_7 : decode cX11_polynomialAt 7 = .ok (.ifnonnull 14, 3) := by decide +kernel
theorem dX11_polynomialAt_10 : decode cX11_polynomialAt 10 = .ok (.new 481, 3) := by decide +kernel
theorem dX11_polynomialAt_13 : decode cX11_polynomialAt 13 = .ok (.dup, 1) := by decide +kernel
theorem dX11_polynomialAt_14 : decode cX11_polynomialAt 14 = .ok (.ldc_w 490, 3) := by decide +kernel
theorem dX11_polynomialAt_17 : decode cX11_polynomialAt 17 = .ok (.invokespecial 485, 3) := by decide +kernel
theorem dX11_polynomialAt_20 : decode cX11_polynomialAt 20 = .ok (.athrow, 1) := by decide +kernel
theorem vx_at_485_g : ∀ w ∈ (vx_atS RX11 485 "java/lang/IndexOutOfBoundsException" ["java/lang/RuntimeException", "java/lang/Exception"]).filter goodWord, w ∈ lw_tbl := by decide +kernel
theorem vx_at_485_b : ∀ w ∈ (vx_atS RX11 485 "java/lang/IndexOutOfBoundsException" ["java/lang/RuntimeException", "java/lang/Exception"]).filter (fun w => !goodWord w), w ∈ pv_bw := by decide +kernel
theorem vx_at_485_t : ∀ w ∈ Cond.classLink RX11 481 "java/lang/IndexOutOfBoundsException" :: Cond.initialized "java/lang/IndexOutOfBoundsException" :: vx_atS RX11 485 "java/lang/IndexOutOfBoundsException" ["java/lang/RuntimeException", "java/lang/Exception"], vx_ot w = true := by decide +kernel
theorem w5_116 : (Jvm.Cond.classLink "Polyforge" (481 : Nat) "java/lang/IndexOutOfBoundsException") ∈ lw_tbl := pv_t5 (pv_mg 116 rfl)
theorem w1_20 : (Jvm.Cond.initialized "java/lang/IndexOutOfBoundsException") ∈ lw_tbl := pv_t1 (pv_mg 20 rfl)
set_option maxHeartbeats 4000000 in
set_option maxRecDepth 100000 in
/-- polynomialAt(p) on a fresh object: throws -/
theorem c_X11_polynomialAt (l : Launch) (hfl : l.stackTraces = false) (D : va_G) (sz : Nat) (h0 : Nat) (q : Nat → Nat) (p0 : Int32) : vx_Met l yX11_polynomialAt (Cond.code yX11_polynomialAt cX11_polynomialAt 3 (some (.object "Polyforge$Polynomial")) :: pv_W) ({ frames := 7, cells := 1, slots := 6, locals := 100 } : Room) (va_Pc [.ref h0, .int p0] (pv_P D [] [(h0, .inr (0, [.ref (q 0), .int 0, .int 108, .ref (q 1), .int 0, .ref (q 2), .int 0, .ref (q 3), .ref (q 4), .int 1, .ref (q 5), .ref (q 6), .ref (q 7), .ref (q 8), .ref (q 9)]))] (va_A [] sz) sz)) (fun _ _ _ _ => False) (vx_X (fun _ : Unit => True) (fun E _ _ => E = "java/lang/IndexOutOfBoundsException") (va_A [] sz)) 1 6 (va_A [] sz) := by
  refine vx_ofW (cc := cX11_polynomialAt) (maxL := 3) (ret := (some (.object "Polyforge$Polynomial"))) (by decide) rfl ?_
  intro p e s m args below meth c s₁ B hml hnt hv
  obtain ⟨rfl, hsz, hE, hP, hK, hD0⟩ := hv
  have hx := B.exec
  have hb := B.bytes
  have hr := B.returns
  have hts := fun (w : Cond) (h : w ∈ pv_W) => atoms_spec (ws := Cond.code yX11_polynomialAt cX11_polynomialAt 3 (some (.object "Polyforge$Polynomial")) :: pv_W) B.pre w (List.mem_cons_of_mem _ h)
  have hg := fun {w : Cond} (h : w ∈ lw_tbl) (g : goodWord w = true) => hts w (pv_in h g)
  have hown : s.vm.findClass RX11 = some m.cls := findClass_of_methodNamed B.named
  have hlocks := B.notSynchronized
  subst hsz
  have hD := hD0
  generalize hAe : va_A [] s.heap.size = A at hE ⊢
  have hA : ∀ q : Nat, s.heap.size ≤ q → A q := fun q h => by rw [← hAe]; exact Or.inr h
  have hS : va_S A s.heap s.heap [] := va_S.rf
  have hP : va_P D pv_cl [(h0, .inr (0, [.ref (q 0), .int 0, .int 108, .ref (q 1), .int 0, .ref (q 2), .int 0, .ref (q 3), .ref (q 4), .int 1, .ref (q 5), .ref (q 6), .ref (q 7), .ref (q 8), .ref (q 9)]))] s.heap := hP
  have hl := lv_entry ([.ref h0, .int p0]) (n := 3) (Nat.le_of_ble_eq_true rfl)
  rw [lg_entry_eq]
  generalize (lg_sl ([.ref h0, .int p0]) ++ List.replicate (3 - (lg_sl ([.ref h0, .int p0])).length) Slot.unset).toArray = ls at hl ⊢
  have hl : lv_has ls 3 [(0, .ref h0), (1, .int p0)] := hl
  refine lv_aload_n hx hb dX11_polynomialAt_0 rfl (lv_at hl 0 rfl) ?_
  refine lv_iload_n hx hb dX11_polynomialAt_1 rfl (lv_at hl 1 rfl) ?_
  have hF := pv_new hA hS.1
  refine va_callq (va_runV (As := [.int p0]) (rest := []) ⟨hx, hb, hml, hown, hts⟩ (c_X11_keptAt l hfl D _ h0 q p0) (cwV 1 hts (pv_gV w2_91 w2_93 wp1_0 w1_1 w2_94) rfl rfl rfl (by decide +kernel) ⟨Nat.le_of_ble_eq_true rfl, Nat.le_of_ble_eq_true rfl⟩) (pv_pV hE hS hF (hP.sub [0] rfl) (hK.sub [] rfl) (hD.sub [0] (by decide) rfl) (va_recv (ci := 0) (q0 := 0) hK hP rfl rfl)) rfl rfl hl.1 rfl (lv_room (Nat.le_of_ble_eq_true rfl)) dX11_polynomialAt_2 ⟨Nat.le_of_ble_eq_true rfl, Nat.le_of_ble_eq_true rfl⟩) hS (fun q _ h => hF q h) hF (fun r_0 u t H1 locs1 ht hvm hw hB hz1 hk1 hS => ?_)
  refine W.widen (k := 0) (n := 0) (Nat.le_of_ble_eq_true rfl) (Nat.le_of_ble_eq_true rfl) ?_
  have hP := pv_keep hP rfl hk1
  obtain rfl := hw
  refine lv_astore_nN (lv' := [(2, .null), (0, .ref h0), (1, .int p0)]) hx hb dX11_polynomialAt_5 rfl hl (by decide) rfl (fun ls hl => ?_)
  refine lv_aload_nN hx hb dX11_polynomialAt_6 rfl (lv_at hl 0 rfl) ?_
  refine lv_ifnonnullN hx hb dX11_polynomialAt_7 ?_
  obtain ⟨sa, hsa⟩ := hE.2.2.2.1 (490, "no such polynomial") (by decide)
  exact vx_throwSW (own := RX11) (cls := "java/lang/IndexOutOfBoundsException") (names := ["java/lang/RuntimeException", "java/lang/Exception"]) hx hb hfl hown rfl (by decide) (hg w5_116 rfl) (hg w1_20 rfl) hsa (vx_hat (fun w h => hts w (pv_in (vx_at_485_g w h) (List.mem_filter.mp h).2)) vx_at_485_b (fun w h => va_Nw.use (pv_kind_on (List.mem_filter.mp h).2) (hE.2.2.1 w h))) vx_at_485_t hE.1 hE.2.1 hS (hl.1.trans hml.symm) dX11_polynomialAt_10 dX11_polynomialAt_13 dX11_polynomialAt_14 dX11_polynomialAt_17 dX11_polynomialAt_20 (fun x h9 => absurd (hnt x h9) id) (Nat.le_of_ble_eq_true rfl) (Nat.le_of_ble_eq_true rfl) (Nat.le_of_ble_eq_true rfl) (Nat.le_of_ble_eq_true rfl) hlocks (fun t h1 h2 h3 => ⟨(), trivial, rfl, Nat.le_trans hS.1 h2, fun q h4 h5 => (h3 q (Nat.lt_of_lt_of_le h4 hS.1)).trans (hS.2.1 q h4 h5)⟩) hS.2.2 (Nat.le_of_ble_eq_true rfl) (Nat.le_of_ble_eq_true rfl)

theorem dX11_add_0 : decode cX11_add 0 = .ok (.aload_n 0, 1) := by decide +kernel
theorem dX11_add_1 : decode cX11_add 1 = .ok (.iload_n 1, 1) := by decide +kernel
theorem dX11_add_2 : decode cX11_add 2 = .ok (.invokevirtual 103, 3) := by decide +kernel
theorem w5_112 : (Jvm.Cond.methodLink "Polyforge" (103 : Nat) ({ cls := "Polyforge", name := "polynomialAt", desc := "(I)LPolyforge$Polynomial;" } : Jvm.MethodName)) ∈ lw_tbl := pv_t5 (pv_mg 112 rfl)
theorem w5_115 : (Jvm.Cond.code ({ cls := "Polyforge", name := "polynomialAt", desc := "(I)LPolyforge$Polynomial;" } : Jvm.MethodName) prog_1_method_75_code (3 : Nat) (Option.some (Jvm.ClassFile.FieldType.object "Polyforge$Polynomial"))) ∈ lw_tbl := pv_t5 (pv_mg 115 rfl)
theorem wp3_13 : Cond.selects "Polyforge" ⟨"Polyforge", "polynomialAt", "(I)LPolyforge$Polynomial;"⟩ ⟨"Polyforge", "polynomialAt", "(I)LPolyforge$Polynomial;"⟩ ∈ lw_tbl := pv_mg 45 rfl
theorem w5_114 : (Jvm.Cond.instanceMethod ({ cls := "Polyforge", name := "polynomialAt", desc := "(I)LPolyforge$Polynomial;" } : Jvm.MethodName)) ∈ lw_tbl := pv_t5 (pv_mg 114 rfl)
set_option maxHeartbeats 4000000 in
set_option maxRecDepth 100000 in
/-- add on a fresh object: throws -/
theorem c_X11_add (l : Launch) (hfl : l.stackTraces = false) (D : va_G) (sz : Nat) (h0 : Nat) (q : Nat → Nat) (p0 p1 : Int32) : vx_Met l yX11_add (Cond.code yX11_add cX11_add 5 (some .int) :: pv_W) ({ frames := 8, cells := 1, slots := 6, locals := 122 } : Room) (va_Pc [.ref h0, .int p0, .int p1] (pv_P D [] [(h0, .inr (0, [.ref (q 0), .int 0, .int 108, .ref (q 1), .int 0, .ref (q 2), .int 0, .ref (q 3), .ref (q 4), .int 1, .ref (q 5), .ref (q 6), .ref (q 7), .ref (q 8), .ref (q 9)]))] (va_A [] sz) sz)) (fun _ _ _ _ => False) (vx_X (fun _ : Unit => True) (fun E _ _ => E = "java/lang/IndexOutOfBoundsException") (va_A [] sz)) 1 6 (va_A [] sz) := by
  refine vx_ofW (cc := cX11_add) (maxL := 5) (ret := (some .int)) (by decide) rfl ?_
  intro p e s m args below meth c s₁ B hml hnt hv
  obtain ⟨rfl, hsz, hE, hP, hK, hD0⟩ := hv
  have hx := B.exec
  have hb := B.bytes
  have hr := B.returns
  have hts := fun (w : Cond) (h : w ∈ pv_W) => atoms_spec (ws := Cond.code yX11_add cX11_add 5 (some .int) :: pv_W) B.pre w (List.mem_cons_of_mem _ h)
  have hg := fun {w : Cond} (h : w ∈ lw_tbl) (g : goodWord w = true) => hts w (pv_in h g)
  have hown : s.vm.findClass RX11 = some m.cls := findClass_of_methodNamed B.named
  have hlocks := B.notSynchronized
  subst hsz
  have hD := hD0
  generalize hAe : va_A [] s.heap.size = A at hE ⊢
  have hA : ∀ q : Nat, s.heap.size ≤ q → A q := fun q h => by rw [← hAe]; exact Or.inr h
  have hS : va_S A s.heap s.heap [] := va_S.rf
  have hP : va_P D pv_cl [(h0, .inr (0, [.ref (q 0), .int 0, .int 108, .ref (q 1), .int 0, .ref (q 2), .int 0, .ref (q 3), .ref (q 4), .int 1, .ref (q 5), .ref (q 6), .ref (q 7), .ref (q 8), .ref (q 9)]))] s.heap := hP
  have hl := lv_entry ([.ref h0, .int p0, .int p1]) (n := 5) (Nat.le_of_ble_eq_true rfl)
  rw [lg_entry_eq]
  generalize (lg_sl ([.ref h0, .int p0, .int p1]) ++ List.replicate (5 - (lg_sl ([.ref h0, .int p0, .int p1])).length) Slot.unset).toArray = ls at hl ⊢
  have hl : lv_has ls 5 [(0, .ref h0), (1, .int p0), (2, .int p1)] := hl
  refine lv_aload_n hx hb dX11_add_0 rfl (lv_at hl 0 rfl) ?_
  refine lv_iload_n hx hb dX11_add_1 rfl (lv_at hl 1 rfl) ?_
  have hF := pv_new hA hS.1
  refine pv_thrown (vx_runV (As := [.int p0]) (rest := []) ⟨hx, hb, hml, hown, hts⟩ (c_X11_polynomialAt l hfl D _ h0 q p0) (cwV 1 hts (pv_gV w5_112 w5_114 wp3_13 w1_1 w5_115) rfl rfl rfl (by decide +kernel) ⟨Nat.le_of_ble_eq_true rfl, Nat.le_of_ble_eq_true rfl⟩) (pv_pV hE hS hF (hP.sub [0] rfl) (hK.sub [] rfl) (hD.sub [0] (by decide) rfl) (va_recv (ci := 0) (q0 := 0) hK hP rfl rfl)) rfl rfl hl.1 rfl (lv_room (Nat.le_of_ble_eq_true rfl)) dX11_add_2 ⟨Nat.le_of_ble_eq_true rfl, Nat.le_of_ble_eq_true rfl⟩) (fun _ _ _ h => h) hS hF hF (fun E ce q9 u t H1 locs1 ht hvm hpx hbx hz1 hk1 hS hce hcv hcl => ?_)
  exact vx_out (fun x h9 => absurd (hnt x h9) id) hlocks hce hcv hcl (fun t ht hvm => ⟨(), trivial, hbx, hS.F ht⟩) hS.2.2 (Nat.le_of_ble_eq_true rfl) (Nat.le_of_ble_eq_true rfl)

