theorem pv_pc {p : Program} {l : Launch} {e : Env} {R : Room} {s : State} {m : MethodId} {args : Array Value} {below : List Frame} {meth : Method} {c : Code} {H : Heap} {locs : List Loc} {cells slots : Nat} {Q : State → Prop} {pc : Nat} {ls : Array Slot} {st : List Value} (n : Nat) (h : pc = n) (k : W p l e R s m args below meth c H locs cells slots Q (F0 m n ls st)) : W p l e R s m args below meth c H locs cells slots Q (F0 m pc ls st) := by
  subst h; exact k

section PVM
variable {p : Program} {l : Launch} {e : Env} {R : Room} {s : State} {m : MethodId} {args : Array Value} {below : List Frame} {meth : Method} {c : Code} {H : Heap} {locs : List Loc} {cells slots : Nat} {Q : State → Prop}
/-- new T[n][m], its rows let go -/
theorem pv_mna {cc : ByteArray} {pc : Nat} {ls : Array Slot} {rest : List Value} {D : va_G} {cl : List vw_C} {A : Nat → Prop} {ws : va_W} {H0 : Heap} (hexec : p.tables.exec = Jvm.exec) (hb : c.code = cc) {own nm : String} {index : Nat} {ty : FieldType} (hown : s.vm.findClass own = some m.cls) (hclink : (Cond.classLink own index nm).before args s = true) (hnm : nm = "[" ++ (FieldType.array ty).toString) (hover : (Cond.arrayOver (.array ty)).before #[] s = true) (harr : (Cond.arrayClass ty).before args s = true)
    (hP : va_P D cl ws H) (hD : va_D A ws) (hS : va_S A H0 H locs) (hA : ∀ q, H0.size ≤ q → A q) {n k : Int32} {N' K' : Nat} (hn : ¬ n < 0) (hk : ¬ k < 0) (hN : n.toNatClampNeg = N') (hM : k.toNatClampNeg = K')
    (hb1 : N' * 4 ≤ 536870912) (hb2 : K' * componentBytes ty ≤ 536870912) (hb3 : K' ≤ 536870912) (hdf : fits ty (defaultValue ty) = true) (hdd : (defaultValue ty).isDefault = true) (hcells : cells + (1 + N') ≤ R.cells) (hslots : slots + (N' + N' * K') ≤ R.slots) (hdg : decode cc pc = .ok (.multianewarray index 2, 4))
    (kk : ∀ (q : Nat) (H1 : Heap), va_P D cl ws H1 → va_D A ws → va_S A H0 H1 locs → W p l e R s m args below meth c H1 locs (cells + 1 + N') (slots + N' + N' * K') Q (F0 m (pc + 4) ls (.ref q :: rest))) : W p l e R s m args below meth c H locs cells slots Q (F0 m pc ls (.int k :: .int n :: rest)) := by
  subst hN
  subst hM
  subst hnm
  intro T hT Xs
  obtain ⟨vm₁, cA, comp, -, -, -, -, -, X', step⟩ := Stand.multianewarray2F Xs hexec hown hclink hover harr (g := F0 m pc ls (.int k :: .int n :: rest)) rfl (by rw [hb]; exact hdg) rfl hn hk hb1 hb2 hb3 hdf hdd hcells hslots
  generalize hF : Jvm.Free.Multi.fill (T.setVm vm₁) cA comp n.toNatClampNeg k.toNatClampNeg (defaultValue ty) n.toNatClampNeg = F at X' step
  have hTh : (T.setVm vm₁).heap = H := hT
  have f1 := (Jvm.Free.Multi.fill_facts (T.setVm vm₁) cA comp n.toNatClampNeg k.toNatClampNeg (defaultValue ty) n.toNatClampNeg).1
  rw [hF, hTh] at f1
  have hold : ∀ x : Nat, x < H.size → F.heap[x]? = H[x]? := fun x hx => by
    have := Jvm.Free.Multi.fill_old (T.setVm vm₁) cA comp n.toNatClampNeg k.toNatClampNeg (defaultValue ty) (a := x) (by rw [hTh]; exact hx) n.toNatClampNeg
    rw [hF, hTh] at this
    exact this
  obtain ⟨t, a1, b1⟩ := kk H.size F.heap (hP.kept (fun k9 x hx => hold x.1 (vx_lt hP hx))) hD ⟨by rw [f1]; have := hS.1; omega, fun x h1 h2 => (hold x (Nat.lt_of_lt_of_le h1 hS.1)).trans (hS.2.1 x h1 h2), hS.2.2⟩ F rfl X'
  refine ⟨t, step t ?_, b1⟩
  have e : T.heap.size = H.size := by rw [hT]
  rw [e]
  exact a1
end PVM
theorem pv_sg3 : ∀ j, j < 3 → upd (upd (upd (fun _ => 0) (0 : Int32).toNatClampNeg (vp_nar .char 63)) (1 : Int32).toNatClampNeg (vp_nar .char 63)) (2 : Int32).toNatClampNeg (vp_nar .char 63) j = (63 : Int32) := by
  intro j hj
  rcases (show j = 0 ∨ j = 1 ∨ j = 2 by omega) with rfl | rfl | rfl <;> rfl

theorem dX6_init_0 : decode cX6_init 0 = .ok (.aload_n 0, 1) := by decide +kernel
theorem dX6_init_1 : decode cX6_init 1 = .ok (.invokespecial 1, 3) := by decide +kernel
theorem w1_87 : (Jvm.Cond.methodLink "Polyforge$Line" (1 : Nat) ({ cls := "java/lang/Object", name := "<init>", desc := "()V" } : Jvm.MethodName)) ∈ lw_tbl := pv_t1 (pv_mg 87 rfl)
theorem dX6_init_4 : decode cX6_init 4 = .ok (.aload_n 0, 1) := by decide +kernel
theorem dX6_init_5 : decode cX6_init 5 = .ok (.bipush 32, 2) := by decide +kernel
theorem dX6_init_7 : decode cX6_init 7 = .ok (.newarray .int, 2) := by decide +kernel
theorem dX6_init_9 : decode cX6_init 9 = .ok (.putfield 9, 3) := by decide +kernel
theorem w1_88 : (Jvm.Cond.fieldLink "Polyforge$Line" (9 : Nat) "Polyforge$Line" "row" "[I") ∈ lw_tbl := pv_t1 (pv_mg 88 rfl)
theorem dX6_init_12 : decode cX6_init 12 = .ok (.aload_n 0, 1) := by decide +kernel
theorem dX6_init_13 : decode cX6_init 13 = .ok (.iconst (-1), 1) := by decide +kernel
theorem dX6_init_14 : decode cX6_init 14 = .ok (.putfield 13, 3) := by decide +kernel
theorem w1_89 : (Jvm.Cond.fieldLink "Polyforge$Line" (13 : Nat) "Polyforge$Line" "top" "I") ∈ lw_tbl := pv_t1 (pv_mg 89 rfl)
theorem dX6_init_17 : decode cX6_init 17 = .ok (.return_, 1) := by decide +kernel
set_option maxHeartbeats 4000000 in
set_option maxRecDepth 100000 in
/-- a new Polyforge$Line -/
theorem c_X6_init (l : Launch) (hfl : l.stackTraces = false) (D : va_G) (sz : Nat) (h0 : Nat) : Met l yX6_init (Cond.code yX6_init cX6_init 1 none :: pv_W) ({ frames := 1, cells := 1, slots := 32, locals := 40 } : Room) (va_Pc [.ref h0] (pv_P D [] [(h0, .inr (3, [.null, .int 0]))] (va_A [(h0, .inr (3, [.null, .int 0]))] sz) sz)) (va_Qv (fun (_ : Unit) => True) (fun _ t => ∃ a : Nat, va_P D pv_cl [(h0, .inr (3, [.ref a, .int (-1)]))] t.heap ∧ va_K D pv_cl [] t ∧ va_D (va_A [(h0, .inr (3, [.null, .int 0]))] sz) [(h0, .inr (3, [.ref a, .int (-1)]))]) (va_A [(h0, .inr (3, [.null, .int 0]))] sz)) 1 32 (va_A [(h0, .inr (3, [.null, .int 0]))] sz) := by
  refine Met.ofW (cc := cX6_init) (maxL := 1) (ret := none) (by decide) rfl ?_
  intro p e s m args below meth c s₁ B hml hv
  obtain ⟨rfl, hsz, hE, hP, hK, hD0⟩ := hv
  have hx := B.exec
  have hb := B.bytes
  have hr := B.returns
  have hts := fun (w : Cond) (h : w ∈ pv_W) => atoms_spec (ws := Cond.code yX6_init cX6_init 1 none :: pv_W) B.pre w (List.mem_cons_of_mem _ h)
  have hg := fun {w : Cond} (h : w ∈ lw_tbl) (g : goodWord w = true) => hts w (pv_in h g)
  have hown : s.vm.findClass RX6 = some m.cls := findClass_of_methodNamed B.named
  have hlocks := B.notSynchronized
  have hin : meth.name = "<init>" := (name_of_methodNamed B.named B.method).1
  subst hsz
  have hD := hD0.self (sz := s.heap.size)
  generalize hAe : va_A [(h0, .inr (3, [.null, .int 0]))] s.heap.size = A at hD hE ⊢
  have hA : ∀ q : Nat, s.heap.size ≤ q → A q := fun q h => by rw [← hAe]; exact Or.inr h
  have hS : va_S A s.heap s.heap [] := va_S.rf
  have hP : va_P D pv_cl [(h0, .inr (3, [.null, .int 0]))] s.heap := hP
  have hl := lv_entry ([.ref h0]) (n := 1) (Nat.le_of_ble_eq_true rfl)
  rw [lg_entry_eq]
  generalize (lg_sl ([.ref h0]) ++ List.replicate (1 - (lg_sl ([.ref h0])).length) Slot.unset).toArray = ls at hl ⊢
  have hl : lv_has ls 1 [(0, .ref h0)] := hl
  refine lv_aload_n hx hb dX6_init_0 rfl (lv_at hl 0 rfl) ?_
  refine W.objInit (own := RX6) hx hb hown (hg w1_87 rfl) (hg w1_36 rfl) (hg w1_37 rfl) rfl (hl.1.trans hml.symm) (rest := []) rfl dX6_init_1 (Nat.le_of_ble_eq_true rfl) (Nat.le_of_ble_eq_true rfl) ?_
  refine lv_aload_n hx hb dX6_init_4 rfl (lv_at hl 0 rfl) ?_
  refine lv_bipush (v := 32) hx hb dX6_init_5 (by decide) ?_
  refine va_newa (atype := .int) hx hb (hg w1_74 rfl) (ty := .int) rfl hK hP hD hS hA (a0 := (32, .inl (fun _ => 0))) (fun _ => rfl) (by decide) (by decide +kernel) (Nat.le_of_ble_eq_true rfl) (Nat.le_of_ble_eq_true rfl) (Nat.le_of_ble_eq_true rfl) dX6_init_7 (fun q_1 cA_2 H hK hP hD hS => ?_)
  have hP : va_P D pv_cl [(h0, .inr (3, [.null, .int 0])), (q_1, .inl (cA_2, 32, .inl (fun _ => 0)))] _ := hP
  have hD : va_D A [(h0, .inr (3, [.null, .int 0])), (q_1, .inl (cA_2, 32, .inl (fun _ => 0)))] := hD
  have hK : va_K D pv_cl [(cA_2, .int)] s := hK
  refine W.widen (k := 1) (n := 32) (Nat.le_of_ble_eq_true rfl) (Nat.le_of_ble_eq_true rfl) ?_
  refine va_putF (own := RX6) (D := D) (ci := 3) (v := .ref q_1) (ty := .array .int) (C := RX6) (T := TX6) (N := 2) hx hb hts inF6 tyX6 tyX6_ok nmX6 hown hK hP hD hS 0 rfl rfl 0 (by decide) (hg w1_88 rfl) (fun _ h9 => h9) rfl hin rfl (by decide +kernel) rfl rfl (Nat.le_of_ble_eq_true rfl) dX6_init_9 (fun H locs hP hD hS => ?_)
  have hP : va_P D pv_cl [(h0, .inr (3, [.ref q_1, .int 0])), (q_1, .inl (cA_2, 32, .inl (fun _ => 0)))] _ := hP
  have hD : va_D A [(h0, .inr (3, [.ref q_1, .int 0])), (q_1, .inl (cA_2, 32, .inl (fun _ => 0)))] := hD
  refine lv_aload_n hx hb dX6_init_12 rfl (lv_at hl 0 rfl) ?_
  refine lv_iconst (v := (-1)) hx hb dX6_init_13 (by decide) ?_
  refine va_put (own := RX6) (D := D) (ci := 3) (v := .int (-1)) (ty := .int) (C := RX6) (T := TX6) (N := 2) hx hb hts inF6 tyX6 tyX6_ok nmX6 hown hK hP hD hS 0 rfl rfl 1 (by decide) (hg w1_89 rfl) (fun _ h9 => h9) rfl (by decide +kernel) rfl rfl (Nat.le_of_ble_eq_true rfl) dX6_init_14 (fun H locs hP hD hS => ?_)
  have hP : va_P D pv_cl [(h0, .inr (3, [.ref q_1, .int (-1)])), (q_1, .inl (cA_2, 32, .inl (fun _ => 0)))] _ := hP
  have hD : va_D A [(h0, .inr (3, [.ref q_1, .int (-1)])), (q_1, .inl (cA_2, 32, .inl (fun _ => 0)))] := hD
  refine W.widen (k := 1) (n := 32) (Nat.le_of_ble_eq_true rfl) (Nat.le_of_ble_eq_true rfl) ?_
  exact W.vret hx hb hr (fun t ht hW => ⟨⟨(), rfl, trivial, q_1, (by rw [ht]; exact hP.sub [0] rfl), va_K.moved hW.alike (hK.sub [] rfl), hD.sub [0] (by decide) rfl⟩, hS.F ht⟩) hS.2.2 dX6_init_17

theorem dX9_init_0 : decode cX9_init 0 = .ok (.aload_n 0, 1) := by decide +kernel
theorem dX9_init_1 : decode cX9_init 1 = .ok (.invokespecial 3, 3) := by decide +kernel
theorem w1_49 : (Jvm.Cond.methodLink "Polyforge$Slate" (3 : Nat) ({ cls := "java/lang/Object", name := "<init>", desc := "()V" } : Jvm.MethodName)) ∈ lw_tbl := pv_t1 (pv_mg 49 rfl)
theorem dX9_init_4 : decode cX9_init 4 = .ok (.aload_n 0, 1) := by decide +kernel
theorem dX9_init_5 : decode cX9_init 5 = .ok (.ldc 11, 2) := by decide +kernel
theorem w1_50 : (Jvm.Cond.constant "Polyforge$Slate" (11 : Nat) (32768 : Int32)) ∈ lw_tbl := pv_t1 (pv_mg 50 rfl)
theorem dX9_init_7 : decode cX9_init 7 = .ok (.newarray .long, 2) := by decide +kernel
theorem dX9_init_9 : decode cX9_init 9 = .ok (.putfield 12, 3) := by decide +kernel
theorem w1_51 : (Jvm.Cond.fieldLink "Polyforge$Slate" (12 : Nat) "Polyforge$Slate" "cells" "[J") ∈ lw_tbl := pv_t1 (pv_mg 51 rfl)
theorem dX9_init_12 : decode cX9_init 12 = .ok (.aload_n 0, 1) := by decide +kernel
theorem dX9_init_13 : decode cX9_init 13 = .ok (.iconst 3, 1) := by decide +kernel
theorem dX9_init_14 : decode cX9_init 14 = .ok (.newarray .int, 2) := by decide +kernel
theorem dX9_init_16 : decode cX9_init 16 = .ok (.putfield 18, 3) := by decide +kernel
theorem w1_52 : (Jvm.Cond.fieldLink "Polyforge$Slate" (18 : Nat) "Polyforge$Slate" "reach" "[I") ∈ lw_tbl := pv_t1 (pv_mg 52 rfl)
theorem dX9_init_19 : decode cX9_init 19 = .ok (.aload_n 0, 1) := by decide +kernel
theorem dX9_init_20 : decode cX9_init 20 = .ok (.bipush 64, 2) := by decide +kernel
theorem dX9_init_22 : decode cX9_init 22 = .ok (.newarray .long, 2) := by decide +kernel
theorem dX9_init_24 : decode cX9_init 24 = .ok (.putfield 22, 3) := by decide +kernel
theorem dX9_init_27 : decode cX9_init 27 = .ok (.aload_n 0, 1) := by decide +kernel
theorem dX9_init_28 : decode cX9_init 28 = .ok (.bipush 64, 2) := by decide +kernel
theorem dX9_init_30 : decode cX9_init 30 = .ok (.newarray .long, 2) := by decide +kernel
theorem dX9_init_32 : decode cX9_init 32 = .ok (.putfield 25, 3) := by decide +kernel
theorem w1_55 : (Jvm.Cond.fieldLink "Polyforge$Slate" (25 : Nat) "Polyforge$Slate" "spare" "[J") ∈ lw_tbl := pv_t1 (pv_mg 55 rfl)
theorem dX9_init_35 : decode cX9_init 35 = .ok (.aload_n 0, 1) := by decide +kernel
theorem dX9_init_36 : decode cX9_init 36 = .ok (.iconst 0, 1) := by decide +kernel
theorem dX9_init_37 : decode cX9_init 37 = .ok (.putfield 28, 3) := by decide +kernel
theorem dX9_init_40 : decode cX9_init 40 = .ok (.aload_n 0, 1) := by decide +kernel
theorem dX9_init_41 : decode cX9_init 41 = .ok (.iconst 0, 1) := by decide +kernel
theorem dX9_init_42 : decode cX9_init 42 = .ok (.putfield 32, 3) := by decide +kernel
theorem dX9_init_45 : decode cX9_init 45 = .ok (.return_, 1) := by decide +kernel
set_option maxHeartbeats 4000000 in
set_option maxRecDepth 100000 in
/-- a new Polyforge$Slate -/
theorem c_X9_init (l : Launch) (hfl : l.stackTraces = false) (D : va_G) (sz : Nat) (h0 : Nat) : Met l yX9_init (Cond.code yX9_init cX9_init 1 none :: pv_W) ({ frames := 1, cells := 4, slots := 32899, locals := 40 } : Room) (va_Pc [.ref h0] (pv_P D [] [(h0, .inr (2, [.null, .null, .null, .null, .int 0, .int 0]))] (va_A [(h0, .inr (2, [.null, .null, .null, .null, .int 0, .int 0]))] sz) sz)) (va_Qv (fun (_ : Unit) => True) (fun _ t => ∃ (w : Nat → Nat) (cJ : ClassId), va_P D pv_cl [(h0, .inr (2, [.ref (w 0), .ref (w 1), .ref (w 2), .ref (w 3), .int 0, .int 0])), ((w 2), .inl (cJ, 64, .inr (.inl (fun _ => 0))))] t.heap ∧ va_K D pv_cl [(cJ, .long)] t ∧ va_D (va_A [(h0, .inr (2, [.null, .null, .null, .null, .int 0, .int 0]))] sz) [(h0, .inr (2, [.ref (w 0), .ref (w 1), .ref (w 2), .ref (w 3), .int 0, .int 0])), ((w 2), .inl (cJ, 64, .inr (.inl (fun _ => 0))))]) (va_A [(h0, .inr (2, [.null, .null, .null, .null, .int 0, .int 0]))] sz)) 4 32899 (va_A [(h0, .inr (2, [.null, .null, .null, .null, .int 0, .int 0]))] sz) := by
  refine Met.ofW (cc := cX9_init) (maxL := 1) (ret := none) (by decide) rfl ?_
  intro p e s m args below meth c s₁ B hml hv
  obtain ⟨rfl, hsz, hE, hP, hK, hD0⟩ := hv
  have hx := B.exec
  have hb := B.bytes
  have hr := B.returns
  have hts := fun (w : Cond) (h : w ∈ pv_W) => atoms_spec (ws := Cond.code yX9_init cX9_init 1 none :: pv_W) B.pre w (List.mem_cons_of_mem _ h)
  have hg := fun {w : Cond} (h : w ∈ lw_tbl) (g : goodWord w = true) => hts w (pv_in h g)
  have hown : s.vm.findClass RX9 = some m.cls := findClass_of_methodNamed B.named
  have hlocks := B.notSynchronized
  have hin : meth.name = "<init>" := (name_of_methodNamed B.named B.method).1
  subst hsz
  have hD := hD0.self (sz := s.heap.size)
  generalize hAe : va_A [(h0, .inr (2, [.null, .null, .null, .null, .int 0, .int 0]))] s.heap.size = A at hD hE ⊢
  have hA : ∀ q : Nat, s.heap.size ≤ q → A q := fun q h => by rw [← hAe]; exact Or.inr h
  have hS : va_S A s.heap s.heap [] := va_S.rf
  have hP : va_P D pv_cl [(h0, .inr (2, [.null, .null, .null, .null, .int 0, .int 0]))] s.heap := hP
  have hl := lv_entry ([.ref h0]) (n := 1) (Nat.le_of_ble_eq_true rfl)
  rw [lg_entry_eq]
  generalize (lg_sl ([.ref h0]) ++ List.replicate (1 - (lg_sl ([.ref h0])).length) Slot.unset).toArray = ls at hl ⊢
  have hl : lv_has ls 1 [(0, .ref h0)] := hl
  refine lv_aload_n hx hb dX9_init_0 rfl (lv_at hl 0 rfl) ?_
  refine W.objInit (own := RX9) hx hb hown (hg w1_49 rfl) (hg w1_36 rfl) (hg w1_37 rfl) rfl (hl.1.trans hml.symm) (rest := []) rfl dX9_init_1 (Nat.le_of_ble_eq_true rfl) (Nat.le_of_ble_eq_true rfl) ?_
  refine lv_aload_n hx hb dX9_init_4 rfl (lv_at hl 0 rfl) ?_
  refine lv_ldc (own := RX9) (v := 32768) hx hb hown (hg w1_50 rfl) dX9_init_5 ?_
  refine va_newa (atype := .long) hx hb (hg w1_75 rfl) (ty := .long) rfl hK hP hD hS hA (a0 := (32768, .inr (.inl (fun _ => 0)))) (fun _ => rfl) (by decide) (by decide +kernel) (Nat.le_of_ble_eq_true rfl) (Nat.le_of_ble_eq_true rfl) (Nat.le_of_ble_eq_true rfl) dX9_init_7 (fun q_1 cA_2 H hK hP hD hS => ?_)
  have hP : va_P D pv_cl [(h0, .inr (2, [.null, .null, .null, .null, .int 0, .int 0])), (q_1, .inl (cA_2, 32768, .inr (.inl (fun _ => 0))))] _ := hP
  have hD : va_D A [(h0, .inr (2, [.null, .null, .null, .null, .int 0, .int 0])), (q_1, .inl (cA_2, 32768, .inr (.inl (fun _ => 0))))] := hD
  have hK : va_K D pv_cl [(cA_2, .long)] s := hK
  refine W.widen (k := 1) (n := 32768) (Nat.le_of_ble_eq_true rfl) (Nat.le_of_ble_eq_true rfl) ?_
  refine va_putF (own := RX9) (D := D) (ci := 2) (v := .ref q_1) (ty := .array .long) (C := RX9) (T := TX9) (N := 6) hx hb hts inF9 tyX9 tyX9_ok nmX9 hown hK hP hD hS 0 rfl rfl 0 (by decide) (hg w1_51 rfl) (fun _ h9 => h9) rfl hin rfl (by decide +kernel) rfl rfl (Nat.le_of_ble_eq_true rfl) dX9_init_9 (fun H locs hP hD hS => ?_)
  have hP : va_P D pv_cl [(h0, .inr (2, [.ref q_1, .null, .null, .null, .int 0, .int 0])), (q_1, .inl (cA_2, 32768, .inr (.inl (fun _ => 0))))] _ := hP
  have hD : va_D A [(h0, .inr (2, [.ref q_1, .null, .null, .null, .int 0, .int 0])), (q_1, .inl (cA_2, 32768, .inr (.inl (fun _ => 0))))] := hD
  have hP : va_P D pv_cl [(h0, .inr (2, [.ref q_1, .null, .null, .null, .int 0, .int 0]))] _ := hP.sub [0] rfl
  have hD : va_D A [(h0, .inr (2, [.ref q_1, .null, .null, .null, .int 0, .int 0]))] := hD.sub [0] (by decide) rfl
  have hK : va_K D pv_cl [] s := hK.sub [] rfl
  refine lv_aload_n hx hb dX9_init_12 rfl (lv_at hl 0 rfl) ?_
  refine lv_iconst (v := 3) hx hb dX9_init_13 (by decide) ?_
  refine va_newa (atype := .int) hx hb (hg w1_74 rfl) (ty := .int) rfl hK hP hD hS hA (a0 := (3, .inl (fun _ => 0))) (fun _ => rfl) (by decide) (by decide +kernel) (Nat.le_of_ble_eq_true rfl) (Nat.le_of_ble_eq_true rfl) (Nat.le_of_ble_eq_true rfl) dX9_init_14 (fun q_3 cA_4 H hK hP hD hS => ?_)
  have hP : va_P D pv_cl [(h0, .inr (2, [.ref q_1, .null, .null, .null, .int 0, .int 0])), (q_3, .inl (cA_4, 3, .inl (fun _ => 0)))] _ := hP
  have hD : va_D A [(h0, .inr (2, [.ref q_1, .null, .null, .null, .int 0, .int 0])), (q_3, .inl (cA_4, 3, .inl (fun _ => 0)))] := hD
  have hK : va_K D pv_cl [(cA_4, .int)] s := hK
  refine W.widen (k := 2) (n := 32771) (Nat.le_of_ble_eq_true rfl) (Nat.le_of_ble_eq_true rfl) ?_
  refine va_putF (own := RX9) (D := D) (ci := 2) (v := .ref q_3) (ty := .array .int) (C := RX9) (T := TX9) (N := 6) hx hb hts inF9 tyX9 tyX9_ok nmX9 hown hK hP hD hS 0 rfl rfl 1 (by decide) (hg w1_52 rfl) (fun _ h9 => h9) rfl hin rfl (by decide +kernel) rfl rfl (Nat.le_of_ble_eq_true rfl) dX9_init_16 (fun H locs hP hD hS => ?_)
  have hP : va_P D pv_cl [(h0, .inr (2, [.ref q_1, .ref q_3, .null, .null, .int 0, .int 0])), (q_3, .inl (cA_4, 3, .inl (fun _ => 0)))] _ := hP
  have hD : va_D A [(h0, .inr (2, [.ref q_1, .ref q_3, .null, .null, .int 0, .int 0])), (q_3, .inl (cA_4, 3, .inl (fun _ => 0)))] := hD
  have hP : va_P D pv_cl [(h0, .inr (2, [.ref q_1, .ref q_3, .null, .null, .int 0, .int 0]))] _ := hP.sub [0] rfl
  have hD : va_D A [(h0, .inr (2, [.ref q_1, .ref q_3, .null, .null, .int 0, .int 0]))] := hD.sub [0] (by decide) rfl
  have hK : va_K D pv_cl [] s := hK.sub [] rfl
  refine lv_aload_n hx hb dX9_init_19 rfl (lv_at hl 0 rfl) ?_
  refine pv_pc 20 rfl ?_
  refine lv_bipush (v := 64) hx hb dX9_init_20 (by decide) ?_
  refine va_newa (atype := .long) hx hb (hg w1_75 rfl) (ty := .long) rfl hK hP hD hS hA (a0 := (64, .inr (.inl (fun _ => 0)))) (fun _ => rfl) (by decide) (by decide +kernel) (Nat.le_of_ble_eq_true rfl) (Nat.le_of_ble_eq_true rfl) (Nat.le_of_ble_eq_true rfl) dX9_init_22 (fun q_5 cA_6 H hK hP hD hS => ?_)
  have hP : va_P D pv_cl [(h0, .inr (2, [.ref q_1, .ref q_3, .null, .null, .int 0, .int 0])), (q_5, .inl (cA_6, 64, .inr (.inl (fun _ => 0))))] _ := hP
  have hD : va_D A [(h0, .inr (2, [.ref q_1, .ref q_3, .null, .null, .int 0, .int 0])), (q_5, .inl (cA_6, 64, .inr (.inl (fun _ => 0))))] := hD
  have hK : va_K D pv_cl [(cA_6, .long)] s := hK
  refine W.widen (k := 3) (n := 32835) (Nat.le_of_ble_eq_true rfl) (Nat.le_of_ble_eq_true rfl) ?_
  refine va_put (own := RX9) (D := D) (ci := 2) (v := .ref q_5) (ty := .array .long) (C := RX9) (T := TX9) (N := 6) hx hb hts inF9 tyX9 tyX9_ok nmX9 hown hK hP hD hS 0 rfl rfl 2 (by decide) (hg w1_53 rfl) (fun _ h9 => h9) rfl (by decide +kernel) rfl rfl (Nat.le_of_ble_eq_true rfl) dX9_init_24 (fun H locs hP hD hS => ?_)
  have hP : va_P D pv_cl [(h0, .inr (2, [.ref q_1, .ref q_3, .ref q_5, .null, .int 0, .int 0])), (q_5, .inl (cA_6, 64, .inr (.inl (fun _ => 0))))] _ := hP
  have hD : va_D A [(h0, .inr (2, [.ref q_1, .ref q_3, .ref q_5, .null, .int 0, .int 0])), (q_5, .inl (cA_6, 64, .inr (.inl (fun _ => 0))))] := hD
  refine lv_aload_n hx hb dX9_init_27 rfl (lv_at hl 0 rfl) ?_
  refine lv_bipush (v := 64) hx hb dX9_init_28 (by decide) ?_
  refine va_newa (atype := .long) hx hb (hg w1_75 rfl) (ty := .long) rfl hK hP hD hS hA (a0 := (64, .inr (.inl (fun _ => 0)))) (fun _ => rfl) (by decide) (by decide +kernel) (Nat.le_of_ble_eq_true rfl) (Nat.le_of_ble_eq_true rfl) (Nat.le_of_ble_eq_true rfl) dX9_init_30 (fun q_7 cA_8 H hK hP hD hS => ?_)
  have hP : va_P D pv_cl [(h0, .inr (2, [.ref q_1, .ref q_3, .ref q_5, .null, .int 0, .int 0])), (q_5, .inl (cA_6, 64, .inr (.inl (fun _ => 0)))), (q_7, .inl (cA_8, 64, .inr (.inl (fun _ => 0))))] _ := hP
  have hD : va_D A [(h0, .inr (2, [.ref q_1, .ref q_3, .ref q_5, .null, .int 0, .int 0])), (q_5, .inl (cA_6, 64, .inr (.inl (fun _ => 0)))), (q_7, .inl (cA_8, 64, .inr (.inl (fun _ => 0))))] := hD
  have hK : va_K D pv_cl [(cA_6, .long), (cA_8, .long)] s := hK
  refine W.widen (k := 4) (n := 32899) (Nat.le_of_ble_eq_true rfl) (Nat.le_of_ble_eq_true rfl) ?_
  refine va_put (own := RX9) (D := D) (ci := 2) (v := .ref q_7) (ty := .array .long) (C := RX9) (T := TX9) (N := 6) hx hb hts inF9 tyX9 tyX9_ok nmX9 hown hK hP hD hS 0 rfl rfl 3 (by decide) (hg w1_55 rfl) (fun _ h9 => h9) rfl (by decide +kernel) rfl rfl (Nat.le_of_ble_eq_true rfl) dX9_init_32 (fun H locs hP hD hS => ?_)
  have hP : va_P D pv_cl [(h0, .inr (2, [.ref q_1, .ref q_3, .ref q_5, .ref q_7, .int 0, .int 0])), (q_5, .inl (cA_6, 64, .inr (.inl (fun _ => 0)))), (q_7, .inl (cA_8, 64, .inr (.inl (fun _ => 0))))] _ := hP
  have hD : va_D A [(h0, .inr (2, [.ref q_1, .ref q_3, .ref q_5, .ref q_7, .int 0, .int 0])), (q_5, .inl (cA_6, 64, .inr (.inl (fun _ => 0)))), (q_7, .inl (cA_8, 64, .inr (.inl (fun _ => 0))))] := hD
  have hP : va_P D pv_cl [(h0, .inr (2, [.ref q_1, .ref q_3, .ref q_5, .ref q_7, .int 0, .int 0])), (q_5, .inl (cA_6, 64, .inr (.inl (fun _ => 0))))] _ := hP.sub [0, 1] rfl
  have hD : va_D A [(h0, .inr (2, [.ref q_1, .ref q_3, .ref q_5, .ref q_7, .int 0, .int 0])), (q_5, .inl (cA_6, 64, .inr (.inl (fun _ => 0))))] := hD.sub [0, 1] (by decide) rfl
  have hK : va_K D pv_cl [(cA_6, .long)] s := hK.sub [0] rfl
  refine lv_aload_n hx hb dX9_init_35 rfl (lv_at hl 0 rfl) ?_
  refine lv_iconst (v := 0) hx hb dX9_init_36 (by decide) ?_
  refine va_put (own := RX9) (D := D) (ci := 2) (v := .int 0) (ty := .int) (C := RX9) (T := TX9) (N := 6) hx hb hts inF9 tyX9 tyX9_ok nmX9 hown hK hP hD hS 0 rfl rfl 4 (by decide) (hg w1_56 rfl) (fun _ h9 => h9) rfl (by decide +kernel) rfl rfl (Nat.le_of_ble_eq_true rfl) dX9_init_37 (fun H locs hP hD hS => ?_)
  have hP : va_P D pv_cl [(h0, .inr (2, [.ref q_1, .ref q_3, .ref q_5, .ref q_7, .int 0, .int 0])), (q_5, .inl (cA_6, 64, .inr (.inl (fun _ => 0))))] _ := hP
  have hD : va_D A [(h0, .inr (2, [.ref q_1, .ref q_3, .ref q_5, .ref q_7, .int 0, .int 0])), (q_5, .inl (cA_6, 64, .inr (.inl (fun _ => 0))))] := hD
  refine lv_aload_n hx hb dX9_init_40 rfl (lv_at hl 0 rfl) ?_
  refine lv_iconst (v := 0) hx hb dX9_init_41 (by decide) ?_
  refine pv_pc 42 rfl ?_
  refine va_put (own := RX9) (D := D) (ci := 2) (v := .int 0) (ty := .int) (C := RX9) (T := TX9) (N := 6) hx hb hts inF9 tyX9 tyX9_ok nmX9 hown hK hP hD hS 0 rfl rfl 5 (by decide) (hg w1_58 rfl) (fun _ h9 => h9) rfl (by decide +kernel) rfl rfl (Nat.le_of_ble_eq_true rfl) dX9_init_42 (fun H locs hP hD hS => ?_)
  have hP : va_P D pv_cl [(h0, .inr (2, [.ref q_1, .ref q_3, .ref q_5, .ref q_7, .int 0, .int 0])), (q_5, .inl (cA_6, 64, .inr (.inl (fun _ => 0))))] _ := hP
  have hD : va_D A [(h0, .inr (2, [.ref q_1, .ref q_3, .ref q_5, .ref q_7, .int 0, .int 0])), (q_5, .inl (cA_6, 64, .inr (.inl (fun _ => 0))))] := hD
  refine W.widen (k := 4) (n := 32899) (Nat.le_of_ble_eq_true rfl) (Nat.le_of_ble_eq_true rfl) ?_
  exact W.vret hx hb hr (fun t ht hW => ⟨⟨(), rfl, trivial, (fun k => ([q_1, q_3, q_5, q_7] : List Nat).getD k 0), cA_6, (by rw [ht]; exact hP.sub [0, 1] rfl), va_K.moved hW.alike (hK.sub [0] rfl), hD.sub [0, 1] (by decide) rfl⟩, hS.F ht⟩) hS.2.2 dX9_init_45

theorem dX0_init_0 : decode cX0_init 0 = .ok (.aload_n 0, 1) := by decide +kernel
theorem dX0_init_1 : decode cX0_init 1 = .ok (.invokespecial 5, 3) := by decide +kernel
theorem w1_81 : (Jvm.Cond.methodLink "Polyforge$Bench" (5 : Nat) ({ cls := "java/lang/Object", name := "<init>", desc := "()V" } : Jvm.MethodName)) ∈ lw_tbl := pv_t1 (pv_mg 81 rfl)
theorem dX0_init_4 : decode cX0_init 4 = .ok (.aload_n 0, 1) := by decide +kernel
theorem dX0_init_5 : decode cX0_init 5 = .ok (.iconst 2, 1) := by decide +kernel
theorem dX0_init_6 : decode cX0_init 6 = .ok (.putfield 11, 3) := by decide +kernel
theorem w1_98 : (Jvm.Cond.fieldLink "Polyforge$Bench" (11 : Nat) "Polyforge$Bench" "prime" "I") ∈ lw_tbl := pv_t1 (pv_mg 98 rfl)
theorem dX0_init_9 : decode cX0_init 9 = .ok (.aload_n 0, 1) := by decide +kernel
theorem dX0_init_10 : decode cX0_init 10 = .ok (.new 1, 3) := by decide +kernel
theorem w1_82 : (Jvm.Cond.classLink "Polyforge$Bench" (1 : Nat) "Polyforge$Line") ∈ lw_tbl := pv_t1 (pv_mg 82 rfl)
theorem w1_83 : (Jvm.Cond.instantiable "Polyforge$Line" (2 : Nat)) ∈ lw_tbl := pv_t1 (pv_mg 83 rfl)
theorem w1_4 : (Jvm.Cond.initialized "Polyforge$Line") ∈ lw_tbl := pv_t1 (pv_mg 4 rfl)
theorem dX0_init_13 : decode cX0_init 13 = .ok (.dup, 1) := by decide +kernel
theorem dX0_init_14 : decode cX0_init 14 = .ok (.invokespecial 17, 3) := by decide +kernel
theorem w1_84 : (Jvm.Cond.methodLinkNest "Polyforge$Bench" (17 : Nat) ({ cls := "Polyforge$Line", name := "<init>", desc := "()V" } : Jvm.MethodName) "Polyforge") ∈ lw_tbl := pv_t1 (pv_mg 84 rfl)
theorem w1_86 : (Jvm.Cond.code ({ cls := "Polyforge$Line", name := "<init>", desc := "()V" } : Jvm.MethodName) prog_8_method_1_code (1 : Nat) (Option.none : Option Jvm.ClassFile.FieldType)) ∈ lw_tbl := pv_t1 (pv_mg 86 rfl)
theorem w1_85 : (Jvm.Cond.instanceMethod ({ cls := "Polyforge$Line", name := "<init>", desc := "()V" } : Jvm.MethodName)) ∈ lw_tbl := pv_t1 (pv_mg 85 rfl)
theorem dX0_init_17 : decode cX0_init 17 = .ok (.putfield 18, 3) := by decide +kernel
theorem w1_99 : (Jvm.Cond.fieldLink "Polyforge$Bench" (18 : Nat) "Polyforge$Bench" "one" "LPolyforge$Line;") ∈ lw_tbl := pv_t1 (pv_mg 99 rfl)
theorem dX0_init_20 : decode cX0_init 20 = .ok (.aload_n 0, 1) := by decide +kernel
theorem dX0_init_21 : decode cX0_init 21 = .ok (.new 1, 3) := by decide +kernel
theorem dX0_init_24 : decode cX0_init 24 = .ok (.dup, 1) := by decide +kernel
theorem dX0_init_25 : decode cX0_init 25 = .ok (.invokespecial 17, 3) := by decide +kernel
theorem dX0_init_28 : decode cX0_init 28 = .ok (.putfield 22, 3) := by decide +kernel
theorem w1_100 : (Jvm.Cond.fieldLink "Polyforge$Bench" (22 : Nat) "Polyforge$Bench" "two" "LPolyforge$Line;") ∈ lw_tbl := pv_t1 (pv_mg 100 rfl)
theorem dX0_init_31 : decode cX0_init 31 = .ok (.aload_n 0, 1) := by decide +kernel
theorem dX0_init_32 : decode cX0_init 32 = .ok (.new 1, 3) := by decide +kernel
theorem dX0_init_35 : decode cX0_init 35 = .ok (.dup, 1) := by decide +kernel
theorem dX0_init_36 : decode cX0_init 36 = .ok (.invokespecial 17, 3) := by decide +kernel
theorem dX0_init_39 : decode cX0_init 39 = .ok (.putfield 25, 3) := by decide +kernel
theorem w1_101 : (Jvm.Cond.fieldLink "Polyforge$Bench" (25 : Nat) "Polyforge$Bench" "three" "LPolyforge$Line;") ∈ lw_tbl := pv_t1 (pv_mg 101 rfl)
theorem dX0_init_42 : decode cX0_init 42 = .ok (.aload_n 0, 1) := by decide +kernel
theorem dX0_init_43 : decode cX0_init 43 = .ok (.new 1, 3) := by decide +kernel
theorem dX0_init_46 : decode cX0_init 46 = .ok (.dup, 1) := by decide +kernel
theorem dX0_init_47 : decode cX0_init 47 = .ok (.invokespecial 17, 3) := by decide +kernel
theorem dX0_init_50 : decode cX0_init 50 = .ok (.putfield 28, 3) := by decide +kernel
theorem w1_102 : (Jvm.Cond.fieldLink "Polyforge$Bench" (28 : Nat) "Polyforge$Bench" "quotient" "LPolyforge$Line;") ∈ lw_tbl := pv_t1 (pv_mg 102 rfl)
theorem dX0_init_53 : decode cX0_init 53 = .ok (.aload_n 0, 1) := by decide +kernel
theorem dX0_init_54 : decode cX0_init 54 = .ok (.new 1, 3) := by decide +kernel
theorem dX0_init_57 : decode cX0_init 57 = .ok (.dup, 1) := by decide +kernel
theorem dX0_init_58 : decode cX0_init 58 = .ok (.invokespecial 17, 3) := by decide +kernel
theorem dX0_init_61 : decode cX0_init 61 = .ok (.putfield 31, 3) := by decide +kernel
theorem w1_103 : (Jvm.Cond.fieldLink "Polyforge$Bench" (31 : Nat) "Polyforge$Bench" "product" "LPolyforge$Line;") ∈ lw_tbl := pv_t1 (pv_mg 103 rfl)
theorem dX0_init_64 : decode cX0_init 64 = .ok (.aload_n 0, 1) := by decide +kernel
theorem dX0_init_65 : decode cX0_init 65 = .ok (.new 1, 3) := by decide +kernel
theorem dX0_init_68 : decode cX0_init 68 = .ok (.dup, 1) := by decide +kernel
theorem dX0_init_69 : decode cX0_init 69 = .ok (.invokespecial 17, 3) := by decide +kernel
theorem dX0_init_72 : decode cX0_init 72 = .ok (.putfield 34, 3) := by decide +kernel
theorem w1_104 : (Jvm.Cond.fieldLink "Polyforge$Bench" (34 : Nat) "Polyforge$Bench" "whole" "LPolyforge$Line;") ∈ lw_tbl := pv_t1 (pv_mg 104 rfl)
theorem dX0_init_75 : decode cX0_init 75 = .ok (.aload_n 0, 1) := by decide +kernel
theorem dX0_init_76 : decode cX0_init 76 = .ok (.new 1, 3) := by decide +kernel
theorem dX0_init_79 : decode cX0_init 79 = .ok (.dup, 1) := by decide +kernel
theorem dX0_init_80 : decode cX0_init 80 = .ok (.invokespecial 17, 3) := by decide +kernel
theorem dX0_init_83 : decode cX0_init 83 = .ok (.putfield 37, 3) := by decide +kernel
theorem w1_105 : (Jvm.Cond.fieldLink "Polyforge$Bench" (37 : Nat) "Polyforge$Bench" "left" "LPolyforge$Line;") ∈ lw_tbl := pv_t1 (pv_mg 105 rfl)
theorem dX0_init_86 : decode cX0_init 86 = .ok (.aload_n 0, 1) := by decide +kernel
theorem dX0_init_87 : decode cX0_init 87 = .ok (.new 1, 3) := by decide +kernel
theorem dX0_init_90 : decode cX0_init 90 = .ok (.dup, 1) := by decide +kernel
theorem dX0_init_91 : decode cX0_init 91 = .ok (.invokespecial 17, 3) := by decide +kernel
theorem dX0_init_94 : decode cX0_init 94 = .ok (.putfield 40, 3) := by decide +kernel
theorem w1_106 : (Jvm.Cond.fieldLink "Polyforge$Bench" (40 : Nat) "Polyforge$Bench" "trial" "LPolyforge$Line;") ∈ lw_tbl := pv_t1 (pv_mg 106 rfl)
theorem dX0_init_97 : decode cX0_init 97 = .ok (.aload_n 0, 1) := by decide +kernel
theorem dX0_init_98 : decode cX0_init 98 = .ok (.new 1, 3) := by decide +kernel
theorem dX0_init_101 : decode cX0_init 101 = .ok (.dup, 1) := by decide +kernel
theorem dX0_init_102 : decode cX0_init 102 = .ok (.invokespecial 17, 3) := by decide +kernel
theorem dX0_init_105 : decode cX0_init 105 = .ok (.putfield 43, 3) := by decide +kernel
theorem w1_107 : (Jvm.Cond.fieldLink "Polyforge$Bench" (43 : Nat) "Polyforge$Bench" "candidate" "LPolyforge$Line;") ∈ lw_tbl := pv_t1 (pv_mg 107 rfl)
theorem dX0_init_108 : decode cX0_init 108 = .ok (.aload_n 0, 1) := by decide +kernel
theorem dX0_init_109 : decode cX0_init 109 = .ok (.new 1, 3) := by decide +kernel
theorem dX0_init_112 : decode cX0_init 112 = .ok (.dup, 1) := by decide +kernel
theorem dX0_init_113 : decode cX0_init 113 = .ok (.invokespecial 17, 3) := by decide +kernel
theorem dX0_init_116 : decode cX0_init 116 = .ok (.putfield 46, 3) := by decide +kernel
theorem w1_108 : (Jvm.Cond.fieldLink "Polyforge$Bench" (46 : Nat) "Polyforge$Bench" "below" "LPolyforge$Line;") ∈ lw_tbl := pv_t1 (pv_mg 108 rfl)
theorem dX0_init_119 : decode cX0_init 119 = .ok (.aload_n 0, 1) := by decide +kernel
theorem dX0_init_120 : decode cX0_init 120 = .ok (.new 1, 3) := by decide +kernel
theorem dX0_init_123 : decode cX0_init 123 = .ok (.dup, 1) := by decide +kernel
theorem dX0_init_124 : decode cX0_init 124 = .ok (.invokespecial 17, 3) := by decide +kernel
theorem dX0_init_127 : decode cX0_init 127 = .ok (.putfield 49, 3) := by decide +kernel
theorem w1_109 : (Jvm.Cond.fieldLink "Polyforge$Bench" (49 : Nat) "Polyforge$Bench" "factor" "LPolyforge$Line;") ∈ lw_tbl := pv_t1 (pv_mg 109 rfl)
theorem dX0_init_130 : decode cX0_init 130 = .ok (.aload_n 0, 1) := by decide +kernel
theorem dX0_init_131 : decode cX0_init 131 = .ok (.new 1, 3) := by decide +kernel
theorem dX0_init_134 : decode cX0_init 134 = .ok (.dup, 1) := by decide +kernel
theorem dX0_init_135 : decode cX0_init 135 = .ok (.invokespecial 17, 3) := by decide +kernel
theorem dX0_init_138 : decode cX0_init 138 = .ok (.putfield 52, 3) := by decide +kernel
theorem w1_110 : (Jvm.Cond.fieldLink "Polyforge$Bench" (52 : Nat) "Polyforge$Bench" "lastFactor" "LPolyforge$Line;") ∈ lw_tbl := pv_t1 (pv_mg 110 rfl)
theorem dX0_init_141 : decode cX0_init 141 = .ok (.aload_n 0, 1) := by decide +kernel
theorem dX0_init_142 : decode cX0_init 142 = .ok (.bipush 6, 2) := by decide +kernel
theorem dX0_init_144 : decode cX0_init 144 = .ok (.anewarray 1, 3) := by decide +kernel
theorem dX0_init_147 : decode cX0_init 147 = .ok (.putfield 55, 3) := by decide +kernel
theorem w1_111 : (Jvm.Cond.fieldLink "Polyforge$Bench" (55 : Nat) "Polyforge$Bench" "parts" "[LPolyforge$Line;") ∈ lw_tbl := pv_t1 (pv_mg 111 rfl)
theorem dX0_init_150 : decode cX0_init 150 = .ok (.aload_n 0, 1) := by decide +kernel
theorem dX0_init_151 : decode cX0_init 151 = .ok (.bipush 6, 2) := by decide +kernel
theorem dX0_init_153 : decode cX0_init 153 = .ok (.newarray .int, 2) := by decide +kernel
theorem dX0_init_155 : decode cX0_init 155 = .ok (.putfield 59, 3) := by decide +kernel
theorem w1_112 : (Jvm.Cond.fieldLink "Polyforge$Bench" (59 : Nat) "Polyforge$Bench" "times" "[I") ∈ lw_tbl := pv_t1 (pv_mg 112 rfl)
theorem dX0_init_158 : decode cX0_init 158 = .ok (.aload_n 0, 1) := by decide +kernel
theorem dX0_init_159 : decode cX0_init 159 = .ok (.iconst 0, 1) := by decide +kernel
theorem dX0_init_160 : decode cX0_init 160 = .ok (.putfield 63, 3) := by decide +kernel
theorem w1_113 : (Jvm.Cond.fieldLink "Polyforge$Bench" (63 : Nat) "Polyforge$Bench" "partCount" "I") ∈ lw_tbl := pv_t1 (pv_mg 113 rfl)
theorem dX0_init_163 : decode cX0_init 163 = .ok (.aload_n 0, 1) := by decide +kernel
theorem dX0_init_164 : decode cX0_init 164 = .ok (.sipush 3600, 3) := by decide +kernel
theorem dX0_init_167 : decode cX0_init 167 = .ok (.newarray .int, 2) := by decide +kernel
theorem dX0_init_169 : decode cX0_init 169 = .ok (.putfield 66, 3) := by decide +kernel
theorem w1_115 : (Jvm.Cond.fieldLink "Polyforge$Bench" (66 : Nat) "Polyforge$Bench" "matrix" "[I") ∈ lw_tbl := pv_t1 (pv_mg 115 rfl)
theorem dX0_init_172 : decode cX0_init 172 = .ok (.aload_n 0, 1) := by decide +kernel
theorem dX0_init_173 : decode cX0_init 173 = .ok (.bipush 31, 2) := by decide +kernel
theorem dX0_init_175 : decode cX0_init 175 = .ok (.newarray .int, 2) := by decide +kernel
theorem dX0_init_177 : decode cX0_init 177 = .ok (.putfield 69, 3) := by decide +kernel
theorem w1_116 : (Jvm.Cond.fieldLink "Polyforge$Bench" (69 : Nat) "Polyforge$Bench" "numbers" "[I") ∈ lw_tbl := pv_t1 (pv_mg 116 rfl)
theorem dX0_init_180 : decode cX0_init 180 = .ok (.iconst 0, 1) := by decide +kernel
theorem dX0_init_181 : decode cX0_init 181 = .ok (.istore_n 1, 1) := by decide +kernel
theorem dX0_init_182 : decode cX0_init 182 = .ok (.iload_n 1, 1) := by decide +kernel
theorem dX0_init_183 : decode cX0_init 183 = .ok (.bipush 6, 2) := by decide +kernel
theorem dX0_init_185 : decode cX0_init 185 = .ok (.if_icmp .ge 22, 3) := by decide +kernel
theorem dX0_init_188 : decode cX0_init 188 = .ok (.aload_n 0, 1) := by decide +kernel
theorem dX0_init_189 : decode cX0_init 189 = .ok (.getfield 55, 3) := by decide +kernel
theorem dX0_init_192 : decode cX0_init 192 = .ok (.iload_n 1, 1) := by decide +kernel
theorem dX0_init_193 : decode cX0_init 193 = .ok (.new 1, 3) := by decide +kernel
theorem dX0_init_196 : decode cX0_init 196 = .ok (.dup, 1) := by decide +kernel
theorem dX0_init_197 : decode cX0_init 197 = .ok (.invokespecial 17, 3) := by decide +kernel
theorem dX0_init_200 : decode cX0_init 200 = .ok (.aastore, 1) := by decide +kernel
theorem dX0_init_201 : decode cX0_init 201 = .ok (.iinc 1 1, 3) := by decide +kernel
theorem dX0_init_204 : decode cX0_init 204 = .ok (.goto (-22), 3) := by decide +kernel
theorem dX0_init_207 : decode cX0_init 207 = .ok (.return_, 1) := by decide +kernel
set_option maxHeartbeats 4000000 in
set_option maxRecDepth 100000 in
/-- a new Polyforge$Bench -/
theorem c_X0_init (l : Launch) (hfl : l.stackTraces = false) (D : va_G) (sz : Nat) (h0 : Nat) : Met l yX0_init (Cond.code yX0_init cX0_init 2 none :: pv_W) ({ frames := 2, cells := 40, slots := 4255, locals := 60 } : Room) (va_Pc [.ref h0] (pv_P D [] [(h0, .inr (4, [.int 0, .null, .null, .null, .null, .null, .null, .null, .null, .null, .null, .null, .null, .null, .null, .int 0, .null, .null]))] (va_A [(h0, .inr (4, [.int 0, .null, .null, .null, .null, .null, .null, .null, .null, .null, .null, .null, .null, .null, .null, .int 0, .null, .null]))] sz) sz)) (va_Qv (fun (_ : Unit) => True) (fun _ _ => True) (va_A [(h0, .inr (4, [.int 0, .null, .null, .null, .null, .null, .null, .null, .null, .null, .null, .null, .null, .null, .null, .int 0, .null, .null]))] sz)) 40 4255 (va_A [(h0, .inr (4, [.int 0, .null, .null, .null, .null, .null, .null, .null, .null, .null, .null, .null, .null, .null, .null, .int 0, .null, .null]))] sz) := by
  refine Met.ofW (cc := cX0_init) (maxL := 2) (ret := none) (by decide) rfl ?_
  intro p e s m args below meth c s₁ B hml hv
  obtain ⟨rfl, hsz, hE, hP, hK, hD0⟩ := hv
  have hx := B.exec
  have hb := B.bytes
  have hr := B.returns
  have hts := fun (w : Cond) (h : w ∈ pv_W) => atoms_spec (ws := Cond.code yX0_init cX0_init 2 none :: pv_W) B.pre w (List.mem_cons_of_mem _ h)
  have hg := fun {w : Cond} (h : w ∈ lw_tbl) (g : goodWord w = true) => hts w (pv_in h g)
  have hown : s.vm.findClass RX0 = some m.cls := findClass_of_methodNamed B.named
  have hlocks := B.notSynchronized
  have hin : meth.name = "<init>" := (name_of_methodNamed B.named B.method).1
  subst hsz
  have hD := hD0.self (sz := s.heap.size)
  generalize hAe : va_A [(h0, .inr (4, [.int 0, .null, .null, .null, .null, .null, .null, .null, .null, .null, .null, .null, .null, .null, .null, .int 0, .null, .null]))] s.heap.size = A at hD hE ⊢
  have hA : ∀ q : Nat, s.heap.size ≤ q → A q := fun q h => by rw [← hAe]; exact Or.inr h
  have hS : va_S A s.heap s.heap [] := va_S.rf
  have hP : va_P D pv_cl [(h0, .inr (4, [.int 0, .null, .null, .null, .null, .null, .null, .null, .null, .null, .null, .null, .null, .null, .null, .int 0, .null, .null]))] s.heap := hP
  have hl := lv_entry ([.ref h0]) (n := 2) (Nat.le_of_ble_eq_true rfl)
  rw [lg_entry_eq]
  generalize (lg_sl ([.ref h0]) ++ List.replicate (2 - (lg_sl ([.ref h0])).length) Slot.unset).toArray = ls at hl ⊢
  have hl : lv_has ls 2 [(0, .ref h0)] := hl
  refine lv_aload_n hx hb dX0_init_0 rfl (lv_at hl 0 rfl) ?_
  refine W.objInit (own := RX0) hx hb hown (hg w1_81 rfl) (hg w1_36 rfl) (hg w1_37 rfl) rfl (hl.1.trans hml.symm) (rest := []) rfl dX0_init_1 (Nat.le_of_ble_eq_true rfl) (Nat.le_of_ble_eq_true rfl) ?_
  refine lv_aload_n hx hb dX0_init_4 rfl (lv_at hl 0 rfl) ?_
  refine lv_iconst (v := 2) hx hb dX0_init_5 (by decide) ?_
  refine va_put (own := RX0) (D := D) (ci := 4) (v := .int 2) (ty := .int) (C := RX0) (T := TX0) (N := 18) hx hb hts inF0 tyX0 tyX0_ok nmX0 hown hK hP hD hS 0 rfl rfl 0 (by decide) (hg w1_98 rfl) (fun _ h9 => h9) rfl (by decide +kernel) rfl rfl (Nat.le_of_ble_eq_true rfl) dX0_init_6 (fun H locs hP hD hS => ?_)
  have hP : va_P D pv_cl [(h0, .inr (4, [.int 2, .null, .null, .null, .null, .null, .null, .null, .null, .null, .null, .null, .null, .null, .null, .int 0, .null, .null]))] _ := hP
  have hD : va_D A [(h0, .inr (4, [.int 2, .null, .null, .null, .null, .null, .null, .null, .null, .null, .null, .null, .null, .null, .null, .int 0, .null, .null]))] := hD
  refine lv_aload_n hx hb dX0_init_9 rfl (lv_at hl 0 rfl) ?_
  refine va_new (own := RX0) (ci := 3) (fs := [.null, .int 0]) (C := RX6) (T := TX6) (N := 2) hx hb hts inF6 tyX6 tyX6_ok hown (hg w1_82 rfl) (hg w1_83 rfl) (hg w1_4 rfl) hK hP hD hS hA rfl (by decide +kernel) (Nat.le_of_ble_eq_true rfl) (Nat.le_of_ble_eq_true rfl) dX0_init_10 (fun q_1 H hP hD hS => ?_)
  have hP : va_P D pv_cl [(h0, .inr (4, [.int 2, .null, .null, .null, .null, .null, .null, .null, .null, .null, .null, .null, .null, .null, .null, .int 0, .null, .null])), (q_1, .inr (3, [.null, .int 0]))] _ := hP
  have hD : va_D A [(h0, .inr (4, [.int 2, .null, .null, .null, .null, .null, .null, .null, .null, .null, .null, .null, .null, .null, .null, .int 0, .null, .null])), (q_1, .inr (3, [.null, .int 0]))] := hD
  refine W.widen (k := 1) (n := 2) (Nat.le_of_ble_eq_true rfl) (Nat.le_of_ble_eq_true rfl) ?_
  refine lv_dup hx hb dX0_init_13 rfl ?_
  have hF := va_free (wc := [(q_1, .inr (3, [.null, .int 0]))]) hD hS hA [1] rfl
  refine va_callv (va_runIN (As := []) (rest := [.ref q_1, .ref h0]) ⟨hx, hb, hml, hown, hts⟩ (c_X6_init l hfl D _ q_1) ⟨(va_cnB 0 hts (pv_gC w1_86) rfl rfl rfl (hE.2.2.1 _ (pv_ib w1_84 rfl)) (hg w1_4 rfl) (by decide +kernel) ⟨Nat.le_of_ble_eq_true rfl, Nat.le_of_ble_eq_true rfl⟩), rfl, hg w1_85 rfl⟩ (pv_ps hE hS hF (hP.sub [1] rfl) (hK.sub [] rfl) (hD.sub [1] (by decide) rfl)) rfl rfl hl.1 rfl (lv_room (Nat.le_of_ble_eq_true rfl)) dX0_init_14 ⟨Nat.le_of_ble_eq_true rfl, Nat.le_of_ble_eq_true rfl⟩) hS (fun q _ h => hF q h) hF (fun u t H1 locs1 ht hvm hw hB hz1 hk1 hS => ?_)
  refine W.widen (k := 2) (n := 34) (Nat.le_of_ble_eq_true rfl) (Nat.le_of_ble_eq_true rfl) ?_
  obtain ⟨b_3, hP1, hK1, hD1⟩ := hB
  rw [ht] at hP1
  have hK1 := va_K.moved hvm.symm hK1
  obtain ⟨hP, hD⟩ := va_join (wr := [(h0, .inr (4, [.int 2, .null, .null, .null, .null, .null, .null, .null, .null, .null, .null, .null, .null, .null, .null, .int 0, .null, .null]))]) (w1 := [(q_1, .inr (3, [.ref b_3, .int (-1)]))]) hP hD [1] [0] rfl rfl (by decide) (by decide) hk1 hF hP1 hD1
  have hP : va_P D pv_cl [(h0, .inr (4, [.int 2, .null, .null, .null, .null, .null, .null, .null, .null, .null, .null, .null, .null, .null, .null, .int 0, .null, .null])), (q_1, .inr (3, [.ref b_3, .int (-1)]))] _ := hP
  have hD : va_D A [(h0, .inr (4, [.int 2, .null, .null, .null, .null, .null, .null, .null, .null, .null, .null, .null, .null, .null, .null, .int 0, .null, .null])), (q_1, .inr (3, [.ref b_3, .int (-1)]))] := hD
  refine va_putF (own := RX0) (D := D) (ci := 4) (v := .ref q_1) (ty := .object "Polyforge$Line") (C := RX0) (T := TX0) (N := 18) hx hb hts inF0 tyX0 tyX0_ok nmX0 hown hK hP hD hS 0 rfl rfl 1 (by decide) (hg w1_99 rfl) (fun _ h9 => h9) rfl hin rfl (by decide +kernel) rfl rfl (Nat.le_of_ble_eq_true rfl) dX0_init_17 (fun H locs hP hD hS => ?_)
  have hP : va_P D pv_cl [(h0, .inr (4, [.int 2, .ref q_1, .null, .null, .null, .null, .null, .null, .null, .null, .null, .null, .null, .null, .null, .int 0, .null, .null])), (q_1, .inr (3, [.ref b_3, .int (-1)]))] _ := hP
  have hD : va_D A [(h0, .inr (4, [.int 2, .ref q_1, .null, .null, .null, .null, .null, .null, .null, .null, .null, .null, .null, .null, .null, .int 0, .null, .null])), (q_1, .inr (3, [.ref b_3, .int (-1)]))] := hD
  have hP : va_P D pv_cl [(h0, .inr (4, [.int 2, .ref q_1, .null, .null, .null, .null, .null, .null, .null, .null, .null, .null, .null, .null, .null, .int 0, .null, .null]))] _ := hP.sub [0] rfl
  have hD : va_D A [(h0, .inr (4, [.int 2, .ref q_1, .null, .null, .null, .null, .null, .null, .null, .null, .null, .null, .null, .null, .null, .int 0, .null, .null]))] := hD.sub [0] (by decide) rfl
  refine lv_aload_n hx hb dX0_init_20 rfl (lv_at hl 0 rfl) ?_
  refine pv_pc 21 rfl ?_
  refine va_new (own := RX0) (ci := 3) (fs := [.null, .int 0]) (C := RX6) (T := TX6) (N := 2) hx hb hts inF6 tyX6 tyX6_ok hown (hg w1_82 rfl) (hg w1_83 rfl) (hg w1_4 rfl) hK hP hD hS hA rfl (by decide +kernel) (Nat.le_of_ble_eq_true rfl) (Nat.le_of_ble_eq_true rfl) dX0_init_21 (fun q_4 H hP hD hS => ?_)
  have hP : va_P D pv_cl [(h0, .inr (4, [.int 2, .ref q_1, .null, .null, .null, .null, .null, .null, .null, .null, .null, .null, .null, .null, .null, .int 0, .null, .null])), (q_4, .inr (3, [.null, .int 0]))] _ := hP
  have hD : va_D A [(h0, .inr (4, [.int 2, .ref q_1, .null, .null, .null, .null, .null, .null, .null, .null, .null, .null, .null, .null, .null, .int 0, .null, .null])), (q_4, .inr (3, [.null, .int 0]))] := hD
  refine W.widen (k := 3) (n := 36) (Nat.le_of_ble_eq_true rfl) (Nat.le_of_ble_eq_true rfl) ?_
  refine lv_dup hx hb dX0_init_24 rfl ?_
  have hF := va_free (wc := [(q_4, .inr (3, [.null, .int 0]))]) hD hS hA [1] rfl
  refine va_callv (va_runIN (As := []) (rest := [.ref q_4, .ref h0]) ⟨hx, hb, hml, hown, hts⟩ (c_X6_init l hfl D _ q_4) ⟨(va_cnB 0 hts (pv_gC w1_86) rfl rfl rfl (hE.2.2.1 _ (pv_ib w1_84 rfl)) (hg w1_4 rfl) (by decide +kernel) ⟨Nat.le_of_ble_eq_true rfl, Nat.le_of_ble_eq_true rfl⟩), rfl, hg w1_85 rfl⟩ (pv_ps hE hS hF (hP.sub [1] rfl) (hK.sub [] rfl) (hD.sub [1] (by decide) rfl)) rfl rfl hl.1 rfl (lv_room (Nat.le_of_ble_eq_true rfl)) dX0_init_25 ⟨Nat.le_of_ble_eq_true rfl, Nat.le_of_ble_eq_true rfl⟩) hS (fun q _ h => hF q h) hF (fun u t H1 locs1 ht hvm hw hB hz1 hk1 hS => ?_)
  refine W.widen (k := 4) (n := 68) (Nat.le_of_ble_eq_true rfl) (Nat.le_of_ble_eq_true rfl) ?_
  obtain ⟨b_6, hP1, hK1, hD1⟩ := hB
  rw [ht] at hP1
  have hK1 := va_K.moved hvm.symm hK1
  obtain ⟨hP, hD⟩ := va_join (wr := [(h0, .inr (4, [.int 2, .ref q_1, .null, .null, .null, .null, .null, .null, .null, .null, .null, .null, .null, .null, .null, .int 0, .null, .null]))]) (w1 := [(q_4, .inr (3, [.ref b_6, .int (-1)]))]) hP hD [1] [0] rfl rfl (by decide) (by decide) hk1 hF hP1 hD1
  have hP : va_P D pv_cl [(h0, .inr (4, [.int 2, .ref q_1, .null, .null, .null, .null, .null, .null, .null, .null, .null, .null, .null, .null, .null, .int 0, .null, .null])), (q_4, .inr (3, [.ref b_6, .int (-1)]))] _ := hP
  have hD : va_D A [(h0, .inr (4, [.int 2, .ref q_1, .null, .null, .null, .null, .null, .null, .null, .null, .null, .null, .null, .null, .null, .int 0, .null, .null])), (q_4, .inr (3, [.ref b_6, .int (-1)]))] := hD
  refine va_putF (own := RX0) (D := D) (ci := 4) (v := .ref q_4) (ty := .object "Polyforge$Line") (C := RX0) (T := TX0) (N := 18) hx hb hts inF0 tyX0 tyX0_ok nmX0 hown hK hP hD hS 0 rfl rfl 2 (by decide) (hg w1_100 rfl) (fun _ h9 => h9) rfl hin rfl (by decide +kernel) rfl rfl (Nat.le_of_ble_eq_true rfl) dX0_init_28 (fun H locs hP hD hS => ?_)
  have hP : va_P D pv_cl [(h0, .inr (4, [.int 2, .ref q_1, .ref q_4, .null, .null, .null, .null, .null, .null, .null, .null, .null, .null, .null, .null, .int 0, .null, .null])), (q_4, .inr (3, [.ref b_6, .int (-1)]))] _ := hP
  have hD : va_D A [(h0, .inr (4, [.int 2, .ref q_1, .ref q_4, .null, .null, .null, .null, .null, .null, .null, .null, .null, .null, .null, .null, .int 0, .null, .null])), (q_4, .inr (3, [.ref b_6, .int (-1)]))] := hD
  have hP : va_P D pv_cl [(h0, .inr (4, [.int 2, .ref q_1, .ref q_4, .null, .null, .null, .null, .null, .null, .null, .null, .null, .null, .null, .null, .int 0, .null, .null]))] _ := hP.sub [0] rfl
  have hD : va_D A [(h0, .inr (4, [.int 2, .ref q_1, .ref q_4, .null, .null, .null, .null, .null, .null, .null, .null, .null, .null, .null, .null, .int 0, .null, .null]))] := hD.sub [0] (by decide) rfl
  refine lv_aload_n hx hb dX0_init_31 rfl (lv_at hl 0 rfl) ?_
  refine va_new (own := RX0) (ci := 3) (fs := [.null, .int 0]) (C := RX6) (T := TX6) (N := 2) hx hb hts inF6 tyX6 tyX6_ok hown (hg w1_82 rfl) (hg w1_83 rfl) (hg w1_4 rfl) hK hP hD hS hA rfl (by decide +kernel) (Nat.le_of_ble_eq_true rfl) (Nat.le_of_ble_eq_true rfl) dX0_init_32 (fun q_7 H hP hD hS => ?_)
  have hP : va_P D pv_cl [(h0, .inr (4, [.int 2, .ref q_1, .ref q_4, .null, .null, .null, .null, .null, .null, .null, .null, .null, .null, .null, .null, .int 0, .null, .null])), (q_7, .inr (3, [.null, .int 0]))] _ := hP
  have hD : va_D A [(h0, .inr (4, [.int 2, .ref q_1, .ref q_4, .null, .null, .null, .null, .null, .null, .null, .null, .null, .null, .null, .null, .int 0, .null, .null])), (q_7, .inr (3, [.null, .int 0]))] := hD
  refine W.widen (k := 5) (n := 70) (Nat.le_of_ble_eq_true rfl) (Nat.le_of_ble_eq_true rfl) ?_
  refine lv_dup hx hb dX0_init_35 rfl ?_
  have hF := va_free (wc := [(q_7, .inr (3, [.null, .int 0]))]) hD hS hA [1] rfl
  refine va_callv (va_runIN (As := []) (rest := [.ref q_7, .ref h0]) ⟨hx, hb, hml, hown, hts⟩ (c_X6_init l hfl D _ q_7) ⟨(va_cnB 0 hts (pv_gC w1_86) rfl rfl rfl (hE.2.2.1 _ (pv_ib w1_84 rfl)) (hg w1_4 rfl) (by decide +kernel) ⟨Nat.le_of_ble_eq_true rfl, Nat.le_of_ble_eq_true rfl⟩), rfl, hg w1_85 rfl⟩ (pv_ps hE hS hF (hP.sub [1] rfl) (hK.sub [] rfl) (hD.sub [1] (by decide) rfl)) rfl rfl hl.1 rfl (lv_room (Nat.le_of_ble_eq_true rfl)) dX0_init_36 ⟨Nat.le_of_ble_eq_true rfl, Nat.le_of_ble_eq_true rfl⟩) hS (fun q _ h => hF q h) hF (fun u t H1 locs1 ht hvm hw hB hz1 hk1 hS => ?_)
  refine W.widen (k := 6) (n := 102) (Nat.le_of_ble_eq_true rfl) (Nat.le_of_ble_eq_true rfl) ?_
  obtain ⟨b_9, hP1, hK1, hD1⟩ := hB
  rw [ht] at hP1
  have hK1 := va_K.moved hvm.symm hK1
  obtain ⟨hP, hD⟩ := va_join (wr := [(h0, .inr (4, [.int 2, .ref q_1, .ref q_4, .null, .null, .null, .null, .null, .null, .null, .null, .null, .null, .null, .null, .int 0, .null, .null]))]) (w1 := [(q_7, .inr (3, [.ref b_9, .int (-1)]))]) hP hD [1] [0] rfl rfl (by decide) (by decide) hk1 hF hP1 hD1
  have hP : va_P D pv_cl [(h0, .inr (4, [.int 2, .ref q_1, .ref q_4, .null, .null, .null, .null, .null, .null, .null, .null, .null, .null, .null, .null, .int 0, .null, .null])), (q_7, .inr (3, [.ref b_9, .int (-1)]))] _ := hP
  have hD : va_D A [(h0, .inr (4, [.int 2, .ref q_1, .ref q_4, .null, .null, .null, .null, .null, .null, .null, .null, .null, .null, .null, .null, .int 0, .null, .null])), (q_7, .inr (3, [.ref b_9, .int (-1)]))] := hD
  refine va_putF (own := RX0) (D := D) (ci := 4) (v := .ref q_7) (ty := .object "Polyforge$Line") (C := RX0) (T := TX0) (N := 18) hx hb hts inF0 tyX0 tyX0_ok nmX0 hown hK hP hD hS 0 rfl rfl 3 (by decide) (hg w1_101 rfl) (fun _ h9 => h9) rfl hin rfl (by decide +kernel) rfl rfl (Nat.le_of_ble_eq_true rfl) dX0_init_39 (fun H locs hP hD hS => ?_)
  have hP : va_P D pv_cl [(h0, .inr (4, [.int 2, .ref q_1, .ref q_4, .ref q_7, .null, .null, .null, .null, .null, .null, .null, .null, .null, .null, .null, .int 0, .null, .null])), (q_7, .inr (3, [.ref b_9, .int (-1)]))] _ := hP
  have hD : va_D A [(h0, .inr (4, [.int 2, .ref q_1, .ref q_4, .ref q_7, .null, .null, .null, .null, .null, .null, .null, .null, .null, .null, .null, .int 0, .null, .null])), (q_7, .inr (3, [.ref b_9, .int (-1)]))] := hD
  have hP : va_P D pv_cl [(h0, .inr (4, [.int 2, .ref q_1, .ref q_4, .ref q_7, .null, .null, .null, .null, .null, .null, .null, .null, .null, .null, .null, .int 0, .null, .null]))] _ := hP.sub [0] rfl
  have hD : va_D A [(h0, .inr (4, [.int 2, .ref q_1, .ref q_4, .ref q_7, .null, .null, .null, .null, .null, .null, .null, .null, .null, .null, .null, .int 0, .null, .null]))] := hD.sub [0] (by decide) rfl
  refine lv_aload_n hx hb dX0_init_42 rfl (lv_at hl 0 rfl) ?_
  refine va_new (own := RX0) (ci := 3) (fs := [.null, .int 0]) (C := RX6) (T := TX6) (N := 2) hx hb hts inF6 tyX6 tyX6_ok hown (hg w1_82 rfl) (hg w1_83 rfl) (hg w1_4 rfl) hK hP hD hS hA rfl (by decide +kernel) (Nat.le_of_ble_eq_true rfl) (Nat.le_of_ble_eq_true rfl) dX0_init_43 (fun q_10 H hP hD hS => ?_)
  have hP : va_P D pv_cl [(h0, .inr (4, [.int 2, .ref q_1, .ref q_4, .ref q_7, .null, .null, .null, .null, .null, .null, .null, .null, .null, .null, .null, .int 0, .null, .null])), (q_10, .inr (3, [.null, .int 0]))] _ := hP
  have hD : va_D A [(h0, .inr (4, [.int 2, .ref q_1, .ref q_4, .ref q_7, .null, .null, .null, .null, .null, .null, .null, .null, .null, .null, .null, .int 0, .null, .null])), (q_10, .inr (3, [.null, .int 0]))] := hD
  refine W.widen (k := 7) (n := 104) (Nat.le_of_ble_eq_true rfl) (Nat.le_of_ble_eq_true rfl) ?_
  refine lv_dup hx hb dX0_init_46 rfl ?_
  refine pv_pc 47 rfl ?_
  have hF := va_free (wc := [(q_10, .inr (3, [.null, .int 0]))]) hD hS hA [1] rfl
  refine va_callv (va_runIN (As := []) (rest := [.ref q_10, .ref h0]) ⟨hx, hb, hml, hown, hts⟩ (c_X6_init l hfl D _ q_10) ⟨(va_cnB 0 hts (pv_gC w1_86) rfl rfl rfl (hE.2.2.1 _ (pv_ib w1_84 rfl)) (hg w1_4 rfl) (by decide +kernel) ⟨Nat.le_of_ble_eq_true rfl, Nat.le_of_ble_eq_true rfl⟩), rfl, hg w1_85 rfl⟩ (pv_ps hE hS hF (hP.sub [1] rfl) (hK.sub [] rfl) (hD.sub [1] (by decide) rfl)) rfl rfl hl.1 rfl (lv_room (Nat.le_of_ble_eq_true rfl)) dX0_init_47 ⟨Nat.le_of_ble_eq_true rfl, Nat.le_of_ble_eq_true rfl⟩) hS (fun q _ h => hF q h) hF (fun u t H1 locs1 ht hvm hw hB hz1 hk1 hS => ?_)
  refine W.widen (k := 8) (n := 136) (Nat.le_of_ble_eq_true rfl) (Nat.le_of_ble_eq_true rfl) ?_
  obtain ⟨b_12, hP1, hK1, hD1⟩ := hB
  rw [ht] at hP1
  have hK1 := va_K.moved hvm.symm hK1
  obtain ⟨hP, hD⟩ := va_join (wr := [(h0, .inr (4, [.int 2, .ref q_1, .ref q_4, .ref q_7, .null, .null, .null, .null, .null, .null, .null, .null, .null, .null, .null, .int 0, .null, .null]))]) (w1 := [(q_10, .inr (3, [.ref b_12, .int (-1)]))]) hP hD [1] [0] rfl rfl (by decide) (by decide) hk1 hF hP1 hD1
  have hP : va_P D pv_cl [(h0, .inr (4, [.int 2, .ref q_1, .ref q_4, .ref q_7, .null, .null, .null, .null, .null, .null, .null, .null, .null, .null, .null, .int 0, .null, .null])), (q_10, .inr (3, [.ref b_12, .int (-1)]))] _ := hP
  have hD : va_D A [(h0, .inr (4, [.int 2, .ref q_1, .ref q_4, .ref q_7, .null, .null, .null, .null, .null, .null, .null, .null, .null, .null, .null, .int 0, .null, .null])), (q_10, .inr (3, [.ref b_12, .int (-1)]))] := hD
  refine va_putF (own := RX0) (D := D) (ci := 4) (v := .ref q_10) (ty := .object "Polyforge$Line") (C := RX0) (T := TX0) (N := 18) hx hb hts inF0 tyX0 tyX0_ok nmX0 hown hK hP hD hS 0 rfl rfl 4 (by decide) (hg w1_102 rfl) (fun _ h9 => h9) rfl hin rfl (by decide +kernel) rfl rfl (Nat.le_of_ble_eq_true rfl) dX0_init_50 (fun H locs hP hD hS => ?_)
  have hP : va_P D pv_cl [(h0, .inr (4, [.int 2, .ref q_1, .ref q_4, .ref q_7, .ref q_10, .null, .null, .null, .null, .null, .null, .null, .null, .null, .null, .int 0, .null, .null])), (q_10, .inr (3, [.ref b_12, .int (-1)]))] _ := hP
  have hD : va_D A [(h0, .inr (4, [.int 2, .ref q_1, .ref q_4, .ref q_7, .ref q_10, .null, .null, .null, .null, .null, .null, .null, .null, .null, .null, .int 0, .null, .null])), (q_10, .inr (3, [.ref b_12, .int (-1)]))] := hD
  have hP : va_P D pv_cl [(h0, .inr (4, [.int 2, .ref q_1, .ref q_4, .ref q_7, .ref q_10, .null, .null, .null, .null, .null, .null, .null, .null, .null, .null, .int 0, .null, .null]))] _ := hP.sub [0] rfl
  have hD : va_D A [(h0, .inr (4, [.int 2, .ref q_1, .ref q_4, .ref q_7, .ref q_10, .null, .null, .null, .null, .null, .null, .null, .null, .null, .null, .int 0, .null, .null]))] := hD.sub [0] (by decide) rfl
  refine lv_aload_n hx hb dX0_init_53 rfl (lv_at hl 0 rfl) ?_
  refine va_new (own := RX0) (ci := 3) (fs := [.null, .int 0]) (C := RX6) (T := TX6) (N := 2) hx hb hts inF6 tyX6 tyX6_ok hown (hg w1_82 rfl) (hg w1_83 rfl) (hg w1_4 rfl) hK hP hD hS hA rfl (by decide +kernel) (Nat.le_of_ble_eq_true rfl) (Nat.le_of_ble_eq_true rfl) dX0_init_54 (fun q_13 H hP hD hS => ?_)
  have hP : va_P D pv_cl [(h0, .inr (4, [.int 2, .ref q_1, .ref q_4, .ref q_7, .ref q_10, .null, .null, .null, .null, .null, .null, .null, .null, .null, .null, .int 0, .null, .null])), (q_13, .inr (3, [.null, .int 0]))] _ := hP
  have hD : va_D A [(h0, .inr (4, [.int 2, .ref q_1, .ref q_4, .ref q_7, .ref q_10, .null, .null, .null, .null, .null, .null, .null, .null, .null, .null, .int 0, .null, .null])), (q_13, .inr (3, [.null, .int 0]))] := hD
  refine W.widen (k := 9) (n := 138) (Nat.le_of_ble_eq_true rfl) (Nat.le_of_ble_eq_true rfl) ?_
  refine lv_dup hx hb dX0_init_57 rfl ?_
  have hF := va_free (wc := [(q_13, .inr (3, [.null, .int 0]))]) hD hS hA [1] rfl
  refine va_callv (va_runIN (As := []) (rest := [.ref q_13, .ref h0]) ⟨hx, hb, hml, hown, hts⟩ (c_X6_init l hfl D _ q_13) ⟨(va_cnB 0 hts (pv_gC w1_86) rfl rfl rfl (hE.2.2.1 _ (pv_ib w1_84 rfl)) (hg w1_4 rfl) (by decide +kernel) ⟨Nat.le_of_ble_eq_true rfl, Nat.le_of_ble_eq_true rfl⟩), rfl, hg w1_85 rfl⟩ (pv_ps hE hS hF (hP.sub [1] rfl) (hK.sub [] rfl) (hD.sub [1] (by decide) rfl)) rfl rfl hl.1 rfl (lv_room (Nat.le_of_ble_eq_true rfl)) dX0_init_58 ⟨Nat.le_of_ble_eq_true rfl, Nat.le_of_ble_eq_true rfl⟩) hS (fun q _ h => hF q h) hF (fun u t H1 locs1 ht hvm hw hB hz1 hk1 hS => ?_)
  refine W.widen (k := 10) (n := 170) (Nat.le_of_ble_eq_true rfl) (Nat.le_of_ble_eq_true rfl) ?_
  obtain ⟨b_15, hP1, hK1, hD1⟩ := hB
  rw [ht] at hP1
  have hK1 := va_K.moved hvm.symm hK1
  obtain ⟨hP, hD⟩ := va_join (wr := [(h0, .inr (4, [.int 2, .ref q_1, .ref q_4, .ref q_7, .ref q_10, .null, .null, .null, .null, .null, .null, .null, .null, .null, .null, .int 0, .null, .null]))]) (w1 := [(q_13, .inr (3, [.ref b_15, .int (-1)]))]) hP hD [1] [0] rfl rfl (by decide) (by decide) hk1 hF hP1 hD1
  have hP : va_P D pv_cl [(h0, .inr (4, [.int 2, .ref q_1, .ref q_4, .ref q_7, .ref q_10, .null, .null, .null, .null, .null, .null, .null, .null, .null, .null, .int 0, .null, .null])), (q_13, .inr (3, [.ref b_15, .int (-1)]))] _ := hP
  have hD : va_D A [(h0, .inr (4, [.int 2, .ref q_1, .ref q_4, .ref q_7, .ref q_10, .null, .null, .null, .null, .null, .null, .null, .null, .null, .null, .int 0, .null, .null])), (q_13, .inr (3, [.ref b_15, .int (-1)]))] := hD
  refine va_putF (own := RX0) (D := D) (ci := 4) (v := .ref q_13) (ty := .object "Polyforge$Line") (C := RX0) (T := TX0) (N := 18) hx hb hts inF0 tyX0 tyX0_ok nmX0 hown hK hP hD hS 0 rfl rfl 5 (by decide) (hg w1_103 rfl) (fun _ h9 => h9) rfl hin rfl (by decide +kernel) rfl rfl (Nat.le_of_ble_eq_true rfl) dX0_init_61 (fun H locs hP hD hS => ?_)
  have hP : va_P D pv_cl [(h0, .inr (4, [.int 2, .ref q_1, .ref q_4, .ref q_7, .ref q_10, .ref q_13, .null, .null, .null, .null, .null, .null, .null, .null, .null, .int 0, .null, .null])), (q_13, .inr (3, [.ref b_15, .int (-1)]))] _ := hP
  have hD : va_D A [(h0, .inr (4, [.int 2, .ref q_1, .ref q_4, .ref q_7, .ref q_10, .ref q_13, .null, .null, .null, .null, .null, .null, .null, .null, .null, .int 0, .null, .null])), (q_13, .inr (3, [.ref b_15, .int (-1)]))] := hD
  have hP : va_P D pv_cl [(h0, .inr (4, [.int 2, .ref q_1, .ref q_4, .ref q_7, .ref q_10, .ref q_13, .null, .null, .null, .null, .null, .null, .null, .null, .null, .int 0, .null, .null]))] _ := hP.sub [0] rfl
  have hD : va_D A [(h0, .inr (4, [.int 2, .ref q_1, .ref q_4, .ref q_7, .ref q_10, .ref q_13, .null, .null, .null, .null, .null, .null, .null, .null, .null, .int 0, .null, .null]))] := hD.sub [0] (by decide) rfl
  refine lv_aload_n hx hb dX0_init_64 rfl (lv_at hl 0 rfl) ?_
  refine va_new (own := RX0) (ci := 3) (fs := [.null, .int 0]) (C := RX6) (T := TX6) (N := 2) hx hb hts inF6 tyX6 tyX6_ok hown (hg w1_82 rfl) (hg w1_83 rfl) (hg w1_4 rfl) hK hP hD hS hA rfl (by decide +kernel) (Nat.le_of_ble_eq_true rfl) (Nat.le_of_ble_eq_true rfl) dX0_init_65 (fun q_16 H hP hD hS => ?_)
  have hP : va_P D pv_cl [(h0, .inr (4, [.int 2, .ref q_1, .ref q_4, .ref q_7, .ref q_10, .ref q_13, .null, .null, .null, .null, .null, .null, .null, .null, .null, .int 0, .null, .null])), (q_16, .inr (3, [.null, .int 0]))] _ := hP
  have hD : va_D A [(h0, .inr (4, [.int 2, .ref q_1, .ref q_4, .ref q_7, .ref q_10, .ref q_13, .null, .null, .null, .null, .null, .null, .null, .null, .null, .int 0, .null, .null])), (q_16, .inr (3, [.null, .int 0]))] := hD
  refine W.widen (k := 11) (n := 172) (Nat.le_of_ble_eq_true rfl) (Nat.le_of_ble_eq_true rfl) ?_
  refine lv_dup hx hb dX0_init_68 rfl ?_
  have hF := va_free (wc := [(q_16, .inr (3, [.null, .int 0]))]) hD hS hA [1] rfl
  refine va_callv (va_runIN (As := []) (rest := [.ref q_16, .ref h0]) ⟨hx, hb, hml, hown, hts⟩ (c_X6_init l hfl D _ q_16) ⟨(va_cnB 0 hts (pv_gC w1_86) rfl rfl rfl (hE.2.2.1 _ (pv_ib w1_84 rfl)) (hg w1_4 rfl) (by decide +kernel) ⟨Nat.le_of_ble_eq_true rfl, Nat.le_of_ble_eq_true rfl⟩), rfl, hg w1_85 rfl⟩ (pv_ps hE hS hF (hP.sub [1] rfl) (hK.sub [] rfl) (hD.sub [1] (by decide) rfl)) rfl rfl hl.1 rfl (lv_room (Nat.le_of_ble_eq_true rfl)) dX0_init_69 ⟨Nat.le_of_ble_eq_true rfl, Nat.le_of_ble_eq_true rfl⟩) hS (fun q _ h => hF q h) hF (fun u t H1 locs1 ht hvm hw hB hz1 hk1 hS => ?_)
  refine W.widen (k := 12) (n := 204) (Nat.le_of_ble_eq_true rfl) (Nat.le_of_ble_eq_true rfl) ?_
  obtain ⟨b_18, hP1, hK1, hD1⟩ := hB
  rw [ht] at hP1
  have hK1 := va_K.moved hvm.symm hK1
  obtain ⟨hP, hD⟩ := va_join (wr := [(h0, .inr (4, [.int 2, .ref q_1, .ref q_4, .ref q_7, .ref q_10, .ref q_13, .null, .null, .null, .null, .null, .null, .null, .null, .null, .int 0, .null, .null]))]) (w1 := [(q_16, .inr (3, [.ref b_18, .int (-1)]))]) hP hD [1] [0] rfl rfl (by decide) (by decide) hk1 hF hP1 hD1
  have hP : va_P D pv_cl [(h0, .inr (4, [.int 2, .ref q_1, .ref q_4, .ref q_7, .ref q_10, .ref q_13, .null, .null, .null, .null, .null, .null, .null, .null, .null, .int 0, .null, .null])), (q_16, .inr (3, [.ref b_18, .int (-1)]))] _ := hP
  have hD : va_D A [(h0, .inr (4, [.int 2, .ref q_1, .ref q_4, .ref q_7, .ref q_10, .ref q_13, .null, .null, .null, .null, .null, .null, .null, .null, .null, .int 0, .null, .null])), (q_16, .inr (3, [.ref b_18, .int (-1)]))] := hD
  refine va_putF (own := RX0) (D := D) (ci := 4) (v := .ref q_16) (ty := .object "Polyforge$Line") (C := RX0) (T := TX0) (N := 18) hx hb hts inF0 tyX0 tyX0_ok nmX0 hown hK hP hD hS 0 rfl rfl 6 (by decide) (hg w1_104 rfl) (fun _ h9 => h9) rfl hin rfl (by decide +kernel) rfl rfl (Nat.le_of_ble_eq_true rfl) dX0_init_72 (fun H locs hP hD hS => ?_)
  have hP : va_P D pv_cl [(h0, .inr (4, [.int 2, .ref q_1, .ref q_4, .ref q_7, .ref q_10, .ref q_13, .ref q_16, .null, .null, .null, .null, .null, .null, .null, .null, .int 0, .null, .null])), (q_16, .inr (3, [.ref b_18, .int (-1)]))] _ := hP
  have hD : va_D A [(h0, .inr (4, [.int 2, .ref q_1, .ref q_4, .ref q_7, .ref q_10, .ref q_13, .ref q_16, .null, .null, .null, .null, .null, .null, .null, .null, .int 0, .null, .null])), (q_16, .inr (3, [.ref b_18, .int (-1)]))] := hD
  have hP : va_P D pv_cl [(h0, .inr (4, [.int 2, .ref q_1, .ref q_4, .ref q_7, .ref q_10, .ref q_13, .ref q_16, .null, .null, .null, .null, .null, .null, .null, .null, .int 0, .null, .null]))] _ := hP.sub [0] rfl
  have hD : va_D A [(h0, .inr (4, [.int 2, .ref q_1, .ref q_4, .ref q_7, .ref q_10, .ref q_13, .ref q_16, .null, .null, .null, .null, .null, .null, .null, .null, .int 0, .null, .null]))] := hD.sub [0] (by decide) rfl
  refine pv_pc 75 rfl ?_
  refine lv_aload_n hx hb dX0_init_75 rfl (lv_at hl 0 rfl) ?_
  refine va_new (own := RX0) (ci := 3) (fs := [.null, .int 0]) (C := RX6) (T := TX6) (N := 2) hx hb hts inF6 tyX6 tyX6_ok hown (hg w1_82 rfl) (hg w1_83 rfl) (hg w1_4 rfl) hK hP hD hS hA rfl (by decide +kernel) (Nat.le_of_ble_eq_true rfl) (Nat.le_of_ble_eq_true rfl) dX0_init_76 (fun q_19 H hP hD hS => ?_)
  have hP : va_P D pv_cl [(h0, .inr (4, [.int 2, .ref q_1, .ref q_4, .ref q_7, .ref q_10, .ref q_13, .ref q_16, .null, .null, .null, .null, .null, .null, .null, .null, .int 0, .null, .null])), (q_19, .inr (3, [.null, .int 0]))] _ := hP
  have hD : va_D A [(h0, .inr (4, [.int 2, .ref q_1, .ref q_4, .ref q_7, .ref q_10, .ref q_13, .ref q_16, .null, .null, .null, .null, .null, .null, .null, .null, .int 0, .null, .null])), (q_19, .inr (3, [.null, .int 0]))] := hD
  refine W.widen (k := 13) (n := 206) (Nat.le_of_ble_eq_true rfl) (Nat.le_of_ble_eq_true rfl) ?_
  refine lv_dup hx hb dX0_init_79 rfl ?_
  have hF := va_free (wc := [(q_19, .inr (3, [.null, .int 0]))]) hD hS hA [1] rfl
  refine va_callv (va_runIN (As := []) (rest := [.ref q_19, .ref h0]) ⟨hx, hb, hml, hown, hts⟩ (c_X6_init l hfl D _ q_19) ⟨(va_cnB 0 hts (pv_gC w1_86) rfl rfl rfl (hE.2.2.1 _ (pv_ib w1_84 rfl)) (hg w1_4 rfl) (by decide +kernel) ⟨Nat.le_of_ble_eq_true rfl, Nat.le_of_ble_eq_true rfl⟩), rfl, hg w1_85 rfl⟩ (pv_ps hE hS hF (hP.sub [1] rfl) (hK.sub [] rfl) (hD.sub [1] (by decide) rfl)) rfl rfl hl.1 rfl (lv_room (Nat.le_of_ble_eq_true rfl)) dX0_init_80 ⟨Nat.le_of_ble_eq_true rfl, Nat.le_of_ble_eq_true rfl⟩) hS (fun q _ h => hF q h) hF (fun u t H1 locs1 ht hvm hw hB hz1 hk1 hS => ?_)
  refine W.widen (k := 14) (n := 238) (Nat.le_of_ble_eq_true rfl) (Nat.le_of_ble_eq_true rfl) ?_
  obtain ⟨b_21, hP1, hK1, hD1⟩ := hB
  rw [ht] at hP1
  have hK1 := va_K.moved hvm.symm hK1
  obtain ⟨hP, hD⟩ := va_join (wr := [(h0, .inr (4, [.int 2, .ref q_1, .ref q_4, .ref q_7, .ref q_10, .ref q_13, .ref q_16, .null, .null, .null, .null, .null, .null, .null, .null, .int 0, .null, .null]))]) (w1 := [(q_19, .inr (3, [.ref b_21, .int (-1)]))]) hP hD [1] [0] rfl rfl (by decide) (by decide) hk1 hF hP1 hD1
  have hP : va_P D pv_cl [(h0, .inr (4, [.int 2, .ref q_1, .ref q_4, .ref q_7, .ref q_10, .ref q_13, .ref q_16, .null, .null, .null, .null, .null, .null, .null, .null, .int 0, .null, .null])), (q_19, .inr (3, [.ref b_21, .int (-1)]))] _ := hP
  have hD : va_D A [(h0, .inr (4, [.int 2, .ref q_1, .ref q_4, .ref q_7, .ref q_10, .ref q_13, .ref q_16, .null, .null, .null, .null, .null, .null, .null, .null, .int 0, .null, .null])), (q_19, .inr (3, [.ref b_21, .int (-1)]))] := hD
  refine va_putF (own := RX0) (D := D) (ci := 4) (v := .ref q_19) (ty := .object "Polyforge$Line") (C := RX0) (T := TX0) (N := 18) hx hb hts inF0 tyX0 tyX0_ok nmX0 hown hK hP hD hS 0 rfl rfl 7 (by decide) (hg w1_105 rfl) (fun _ h9 => h9) rfl hin rfl (by decide +kernel) rfl rfl (Nat.le_of_ble_eq_true rfl) dX0_init_83 (fun H locs hP hD hS => ?_)
  have hP : va_P D pv_cl [(h0, .inr (4, [.int 2, .ref q_1, .ref q_4, .ref q_7, .ref q_10, .ref q_13, .ref q_16, .ref q_19, .null, .null, .null, .null, .null, .null, .null, .int 0, .null, .null])), (q_19, .inr (3, [.ref b_21, .int (-1)]))] _ := hP
  have hD : va_D A [(h0, .inr (4, [.int 2, .ref q_1, .ref q_4, .ref q_7, .ref q_10, .ref q_13, .ref q_16, .ref q_19, .null, .null, .null, .null, .null, .null, .null, .int 0, .null, .null])), (q_19, .inr (3, [.ref b_21, .int (-1)]))] := hD
  have hP : va_P D pv_cl [(h0, .inr (4, [.int 2, .ref q_1, .ref q_4, .ref q_7, .ref q_10, .ref q_13, .ref q_16, .ref q_19, .null, .null, .null, .null, .null, .null, .null, .int 0, .null, .null]))] _ := hP.sub [0] rfl
  have hD : va_D A [(h0, .inr (4, [.int 2, .ref q_1, .ref q_4, .ref q_7, .ref q_10, .ref q_13, .ref q_16, .ref q_19, .null, .null, .null, .null, .null, .null, .null, .int 0, .null, .null]))] := hD.sub [0] (by decide) rfl
  refine lv_aload_n hx hb dX0_init_86 rfl (lv_at hl 0 rfl) ?_
  refine va_new (own := RX0) (ci := 3) (fs := [.null, .int 0]) (C := RX6) (T := TX6) (N := 2) hx hb hts inF6 tyX6 tyX6_ok hown (hg w1_82 rfl) (hg w1_83 rfl) (hg w1_4 rfl) hK hP hD hS hA rfl (by decide +kernel) (Nat.le_of_ble_eq_true rfl) (Nat.le_of_ble_eq_true rfl) dX0_init_87 (fun q_22 H hP hD hS => ?_)
  have hP : va_P D pv_cl [(h0, .inr (4, [.int 2, .ref q_1, .ref q_4, .ref q_7, .ref q_10, .ref q_13, .ref q_16, .ref q_19, .null, .null, .null, .null, .null, .null, .null, .int 0, .null, .null])), (q_22, .inr (3, [.null, .int 0]))] _ := hP
  have hD : va_D A [(h0, .inr (4, [.int 2, .ref q_1, .ref q_4, .ref q_7, .ref q_10, .ref q_13, .ref q_16, .ref q_19, .null, .null, .null, .null, .null, .null, .null, .int 0, .null, .null])), (q_22, .inr (3, [.null, .int 0]))] := hD
  refine W.widen (k := 15) (n := 240) (Nat.le_of_ble_eq_true rfl) (Nat.le_of_ble_eq_true rfl) ?_
  refine lv_dup hx hb dX0_init_90 rfl ?_
  have hF := va_free (wc := [(q_22, .inr (3, [.null, .int 0]))]) hD hS hA [1] rfl
  refine va_callv (va_runIN (As := []) (rest := [.ref q_22, .ref h0]) ⟨hx, hb, hml, hown, hts⟩ (c_X6_init l hfl D _ q_22) ⟨(va_cnB 0 hts (pv_gC w1_86) rfl rfl rfl (hE.2.2.1 _ (pv_ib w1_84 rfl)) (hg w1_4 rfl) (by decide +kernel) ⟨Nat.le_of_ble_eq_true rfl, Nat.le_of_ble_eq_true rfl⟩), rfl, hg w1_85 rfl⟩ (pv_ps hE hS hF (hP.sub [1] rfl) (hK.sub [] rfl) (hD.sub [1] (by decide) rfl)) rfl rfl hl.1 rfl (lv_room (Nat.le_of_ble_eq_true rfl)) dX0_init_91 ⟨Nat.le_of_ble_eq_true rfl, Nat.le_of_ble_eq_true rfl⟩) hS (fun q _ h => hF q h) hF (fun u t H1 locs1 ht hvm hw hB hz1 hk1 hS => ?_)
  refine W.widen (k := 16) (n := 272) (Nat.le_of_ble_eq_true rfl) (Nat.le_of_ble_eq_true rfl) ?_
  obtain ⟨b_24, hP1, hK1, hD1⟩ := hB
  rw [ht] at hP1
  have hK1 := va_K.moved hvm.symm hK1
  obtain ⟨hP, hD⟩ := va_join (wr := [(h0, .inr (4, [.int 2, .ref q_1, .ref q_4, .ref q_7, .ref q_10, .ref q_13, .ref q_16, .ref q_19, .null, .null, .null, .null, .null, .null, .null, .int 0, .null, .null]))]) (w1 := [(q_22, .inr (3, [.ref b_24, .int (-1)]))]) hP hD [1] [0] rfl rfl (by decide) (by decide) hk1 hF hP1 hD1
  have hP : va_P D pv_cl [(h0, .inr (4, [.int 2, .ref q_1, .ref q_4, .ref q_7, .ref q_10, .ref q_13, .ref q_16, .ref q_19, .null, .null, .null, .null, .null, .null, .null, .int 0, .null, .null])), (q_22, .inr (3, [.ref b_24, .int (-1)]))] _ := hP
  have hD : va_D A [(h0, .inr (4, [.int 2, .ref q_1, .ref q_4, .ref q_7, .ref q_10, .ref q_13, .ref q_16, .ref q_19, .null, .null, .null, .null, .null, .null, .null, .int 0, .null, .null])), (q_22, .inr (3, [.ref b_24, .int (-1)]))] := hD
  refine va_putF (own := RX0) (D := D) (ci := 4) (v := .ref q_22) (ty := .object "Polyforge$Line") (C := RX0) (T := TX0) (N := 18) hx hb hts inF0 tyX0 tyX0_ok nmX0 hown hK hP hD hS 0 rfl rfl 8 (by decide) (hg w1_106 rfl) (fun _ h9 => h9) rfl hin rfl (by decide +kernel) rfl rfl (Nat.le_of_ble_eq_true rfl) dX0_init_94 (fun H locs hP hD hS => ?_)
  have hP : va_P D pv_cl [(h0, .inr (4, [.int 2, .ref q_1, .ref q_4, .ref q_7, .ref q_10, .ref q_13, .ref q_16, .ref q_19, .ref q_22, .null, .null, .null, .null, .null, .null, .int 0, .null, .null])), (q_22, .inr (3, [.ref b_24, .int (-1)]))] _ := hP
  have hD : va_D A [(h0, .inr (4, [.int 2, .ref q_1, .ref q_4, .ref q_7, .ref q_10, .ref q_13, .ref q_16, .ref q_19, .ref q_22, .null, .null, .null, .null, .null, .null, .int 0, .null, .null])), (q_22, .inr (3, [.ref b_24, .int (-1)]))] := hD
  have hP : va_P D pv_cl [(h0, .inr (4, [.int 2, .ref q_1, .ref q_4, .ref q_7, .ref q_10, .ref q_13, .ref q_16, .ref q_19, .ref q_22, .null, .null, .null, .null, .null, .null, .int 0, .null, .null]))] _ := hP.sub [0] rfl
  have hD : va_D A [(h0, .inr (4, [.int 2, .ref q_1, .ref q_4, .ref q_7, .ref q_10, .ref q_13, .ref q_16, .ref q_19, .ref q_22, .null, .null, .null, .null, .null, .null, .int 0, .null, .null]))] := hD.sub [0] (by decide) rfl
  refine lv_aload_n hx hb dX0_init_97 rfl (lv_at hl 0 rfl) ?_
  refine va_new (own := RX0) (ci := 3) (fs := [.null, .int 0]) (C := RX6) (T := TX6) (N := 2) hx hb hts inF6 tyX6 tyX6_ok hown (hg w1_82 rfl) (hg w1_83 rfl) (hg w1_4 rfl) hK hP hD hS hA rfl (by decide +kernel) (Nat.le_of_ble_eq_true rfl) (Nat.le_of_ble_eq_true rfl) dX0_init_98 (fun q_25 H hP hD hS => ?_)
  have hP : va_P D pv_cl [(h0, .inr (4, [.int 2, .ref q_1, .ref q_4, .ref q_7, .ref q_10, .ref q_13, .ref q_16, .ref q_19, .ref q_22, .null, .null, .null, .null, .null, .null, .int 0, .null, .null])), (q_25, .inr (3, [.null, .int 0]))] _ := hP
  have hD : va_D A [(h0, .inr (4, [.int 2, .ref q_1, .ref q_4, .ref q_7, .ref q_10, .ref q_13, .ref q_16, .ref q_19, .ref q_22, .null, .null, .null, .null, .null, .null, .int 0, .null, .null])), (q_25, .inr (3, [.null, .int 0]))] := hD
  refine W.widen (k := 17) (n := 274) (Nat.le_of_ble_eq_true rfl) (Nat.le_of_ble_eq_true rfl) ?_
  refine pv_pc 101 rfl ?_
  refine lv_dup hx hb dX0_init_101 rfl ?_
  have hF := va_free (wc := [(q_25, .inr (3, [.null, .int 0]))]) hD hS hA [1] rfl
  refine va_callv (va_runIN (As := []) (rest := [.ref q_25, .ref h0]) ⟨hx, hb, hml, hown, hts⟩ (c_X6_init l hfl D _ q_25) ⟨(va_cnB 0 hts (pv_gC w1_86) rfl rfl rfl (hE.2.2.1 _ (pv_ib w1_84 rfl)) (hg w1_4 rfl) (by decide +kernel) ⟨Nat.le_of_ble_eq_true rfl, Nat.le_of_ble_eq_true rfl⟩), rfl, hg w1_85 rfl⟩ (pv_ps hE hS hF (hP.sub [1] rfl) (hK.sub [] rfl) (hD.sub [1] (by decide) rfl)) rfl rfl hl.1 rfl (lv_room (Nat.le_of_ble_eq_true rfl)) dX0_init_102 ⟨Nat.le_of_ble_eq_true rfl, Nat.le_of_ble_eq_true rfl⟩) hS (fun q _ h => hF q h) hF (fun u t H1 locs1 ht hvm hw hB hz1 hk1 hS => ?_)
  refine W.widen (k := 18) (n := 306) (Nat.le_of_ble_eq_true rfl) (Nat.le_of_ble_eq_true rfl) ?_
  obtain ⟨b_27, hP1, hK1, hD1⟩ := hB
  rw [ht] at hP1
  have hK1 := va_K.moved hvm.symm hK1
  obtain ⟨hP, hD⟩ := va_join (wr := [(h0, .inr (4, [.int 2, .ref q_1, .ref q_4, .ref q_7, .ref q_10, .ref q_13, .ref q_16, .ref q_19, .ref q_22, .null, .null, .null, .null, .null, .null, .int 0, .null, .null]))]) (w1 := [(q_25, .inr (3, [.ref b_27, .int (-1)]))]) hP hD [1] [0] rfl rfl (by decide) (by decide) hk1 hF hP1 hD1
  have hP : va_P D pv_cl [(h0, .inr (4, [.int 2, .ref q_1, .ref q_4, .ref q_7, .ref q_10, .ref q_13, .ref q_16, .ref q_19, .ref q_22, .null, .null, .null, .null, .null, .null, .int 0, .null, .null])), (q_25, .inr (3, [.ref b_27, .int (-1)]))] _ := hP
  have hD : va_D A [(h0, .inr (4, [.int 2, .ref q_1, .ref q_4, .ref q_7, .ref q_10, .ref q_13, .ref q_16, .ref q_19, .ref q_22, .null, .null, .null, .null, .null, .null, .int 0, .null, .null])), (q_25, .inr (3, [.ref b_27, .int (-1)]))] := hD
  refine va_putF (own := RX0) (D := D) (ci := 4) (v := .ref q_25) (ty := .object "Polyforge$Line") (C := RX0) (T := TX0) (N := 18) hx hb hts inF0 tyX0 tyX0_ok nmX0 hown hK hP hD hS 0 rfl rfl 9 (by decide) (hg w1_107 rfl) (fun _ h9 => h9) rfl hin rfl (by decide +kernel) rfl rfl (Nat.le_of_ble_eq_true rfl) dX0_init_105 (fun H locs hP hD hS => ?_)
  have hP : va_P D pv_cl [(h0, .inr (4, [.int 2, .ref q_1, .ref q_4, .ref q_7, .ref q_10, .ref q_13, .ref q_16, .ref q_19, .ref q_22, .ref q_25, .null, .null, .null, .null, .null, .int 0, .null, .null])), (q_25, .inr (3, [.ref b_27, .int (-1)]))] _ := hP
  have hD : va_D A [(h0, .inr (4, [.int 2, .ref q_1, .ref q_4, .ref q_7, .ref q_10, .ref q_13, .ref q_16, .ref q_19, .ref q_22, .ref q_25, .null, .null, .null, .null, .null, .int 0, .null, .null])), (q_25, .inr (3, [.ref b_27, .int (-1)]))] := hD
  have hP : va_P D pv_cl [(h0, .inr (4, [.int 2, .ref q_1, .ref q_4, .ref q_7, .ref q_10, .ref q_13, .ref q_16, .ref q_19, .ref q_22, .ref q_25, .null, .null, .null, .null, .null, .int 0, .null, .null]))] _ := hP.sub [0] rfl
  have hD : va_D A [(h0, .inr (4, [.int 2, .ref q_1, .ref q_4, .ref q_7, .ref q_10, .ref q_13, .ref q_16, .ref q_19, .ref q_22, .ref q_25, .null, .null, .null, .null, .null, .int 0, .null, .null]))] := hD.sub [0] (by decide) rfl
  refine lv_aload_n hx hb dX0_init_108 rfl (lv_at hl 0 rfl) ?_
  refine va_new (own := RX0) (ci := 3) (fs := [.null, .int 0]) (C := RX6) (T := TX6) (N := 2) hx hb hts inF6 tyX6 tyX6_ok hown (hg w1_82 rfl) (hg w1_83 rfl) (hg w1_4 rfl) hK hP hD hS hA rfl (by decide +kernel) (Nat.le_of_ble_eq_true rfl) (Nat.le_of_ble_eq_true rfl) dX0_init_109 (fun q_28 H hP hD hS => ?_)
  have hP : va_P D pv_cl [(h0, .inr (4, [.int 2, .ref q_1, .ref q_4, .ref q_7, .ref q_10, .ref q_13, .ref q_16, .ref q_19, .ref q_22, .ref q_25, .null, .null, .null, .null, .null, .int 0, .null, .null])), (q_28, .inr (3, [.null, .int 0]))] _ := hP
  have hD : va_D A [(h0, .inr (4, [.int 2, .ref q_1, .ref q_4, .ref q_7, .ref q_10, .ref q_13, .ref q_16, .ref q_19, .ref q_22, .ref q_25, .null, .null, .null, .null, .null, .int 0, .null, .null])), (q_28, .inr (3, [.null, .int 0]))] := hD
  refine W.widen (k := 19) (n := 308) (Nat.le_of_ble_eq_true rfl) (Nat.le_of_ble_eq_true rfl) ?_
  refine lv_dup hx hb dX0_init_112 rfl ?_
  have hF := va_free (wc := [(q_28, .inr (3, [.null, .int 0]))]) hD hS hA [1] rfl
  refine va_callv (va_runIN (As := []) (rest := [.ref q_28, .ref h0]) ⟨hx, hb, hml, hown, hts⟩ (c_X6_init l hfl D _ q_28) ⟨(va_cnB 0 hts (pv_gC w1_86) rfl rfl rfl (hE.2.2.1 _ (pv_ib w1_84 rfl)) (hg w1_4 rfl) (by decide +kernel) ⟨Nat.le_of_ble_eq_true rfl, Nat.le_of_ble_eq_true rfl⟩), rfl, hg w1_85 rfl⟩ (pv_ps hE hS hF (hP.sub [1] rfl) (hK.sub [] rfl) (hD.sub [1] (by decide) rfl)) rfl rfl hl.1 rfl (lv_room (Nat.le_of_ble_eq_true rfl)) dX0_init_113 ⟨Nat.le_of_ble_eq_true rfl, Nat.le_of_ble_eq_true rfl⟩) hS (fun q _ h => hF q h) hF (fun u t H1 locs1 ht hvm hw hB hz1 hk1 hS => ?_)
  refine W.widen (k := 20) (n := 340) (Nat.le_of_ble_eq_true rfl) (Nat.le_of_ble_eq_true rfl) ?_
  obtain ⟨b_30, hP1, hK1, hD1⟩ := hB
  rw [ht] at hP1
  have hK1 := va_K.moved hvm.symm hK1
  obtain ⟨hP, hD⟩ := va_join (wr := [(h0, .inr (4, [.int 2, .ref q_1, .ref q_4, .ref q_7, .ref q_10, .ref q_13, .ref q_16, .ref q_19, .ref q_22, .ref q_25, .null, .null, .null, .null, .null, .int 0, .null, .null]))]) (w1 := [(q_28, .inr (3, [.ref b_30, .int (-1)]))]) hP hD [1] [0] rfl rfl (by decide) (by decide) hk1 hF hP1 hD1
  have hP : va_P D pv_cl [(h0, .inr (4, [.int 2, .ref q_1, .ref q_4, .ref q_7, .ref q_10, .ref q_13, .ref q_16, .ref q_19, .ref q_22, .ref q_25, .null, .null, .null, .null, .null, .int 0, .null, .null])), (q_28, .inr (3, [.ref b_30, .int (-1)]))] _ := hP
  have hD : va_D A [(h0, .inr (4, [.int 2, .ref q_1, .ref q_4, .ref q_7, .ref q_10, .ref q_13, .ref q_16, .ref q_19, .ref q_22, .ref q_25, .null, .null, .null, .null, .null, .int 0, .null, .null])), (q_28, .inr (3, [.ref b_30, .int (-1)]))] := hD
  refine va_putF (own := RX0) (D := D) (ci := 4) (v := .ref q_28) (ty := .object "Polyforge$Line") (C := RX0) (T := TX0) (N := 18) hx hb hts inF0 tyX0 tyX0_ok nmX0 hown hK hP hD hS 0 rfl rfl 10 (by decide) (hg w1_108 rfl) (fun _ h9 => h9) rfl hin rfl (by decide +kernel) rfl rfl (Nat.le_of_ble_eq_true rfl) dX0_init_116 (fun H locs hP hD hS => ?_)
  have hP : va_P D pv_cl [(h0, .inr (4, [.int 2, .ref q_1, .ref q_4, .ref q_7, .ref q_10, .ref q_13, .ref q_16, .ref q_19, .ref q_22, .ref q_25, .ref q_28, .null, .null, .null, .null, .int 0, .null, .null])), (q_28, .inr (3, [.ref b_30, .int (-1)]))] _ := hP
  have hD : va_D A [(h0, .inr (4, [.int 2, .ref q_1, .ref q_4, .ref q_7, .ref q_10, .ref q_13, .ref q_16, .ref q_19, .ref q_22, .ref q_25, .ref q_28, .null, .null, .null, .null, .int 0, .null, .null])), (q_28, .inr (3, [.ref b_30, .int (-1)]))] := hD
  have hP : va_P D pv_cl [(h0, .inr (4, [.int 2, .ref q_1, .ref q_4, .ref q_7, .ref q_10, .ref q_13, .ref q_16, .ref q_19, .ref q_22, .ref q_25, .ref q_28, .null, .null, .null, .null, .int 0, .null, .null]))] _ := hP.sub [0] rfl
  have hD : va_D A [(h0, .inr (4, [.int 2, .ref q_1, .ref q_4, .ref q_7, .ref q_10, .ref q_13, .ref q_16, .ref q_19, .ref q_22, .ref q_25, .ref q_28, .null, .null, .null, .null, .int 0, .null, .null]))] := hD.sub [0] (by decide) rfl
  refine lv_aload_n hx hb dX0_init_119 rfl (lv_at hl 0 rfl) ?_
  refine va_new (own := RX0) (ci := 3) (fs := [.null, .int 0]) (C := RX6) (T := TX6) (N := 2) hx hb hts inF6 tyX6 tyX6_ok hown (hg w1_82 rfl) (hg w1_83 rfl) (hg w1_4 rfl) hK hP hD hS hA rfl (by decide +kernel) (Nat.le_of_ble_eq_true rfl) (Nat.le_of_ble_eq_true rfl) dX0_init_120 (fun q_31 H hP hD hS => ?_)
  have hP : va_P D pv_cl [(h0, .inr (4, [.int 2, .ref q_1, .ref q_4, .ref q_7, .ref q_10, .ref q_13, .ref q_16, .ref q_19, .ref q_22, .ref q_25, .ref q_28, .null, .null, .null, .null, .int 0, .null, .null])), (q_31, .inr (3, [.null, .int 0]))] _ := hP
  have hD : va_D A [(h0, .inr (4, [.int 2, .ref q_1, .ref q_4, .ref q_7, .ref q_10, .ref q_13, .ref q_16, .ref q_19, .ref q_22, .ref q_25, .ref q_28, .null, .null, .null, .null, .int 0, .null, .null])), (q_31, .inr (3, [.null, .int 0]))] := hD
  refine W.widen (k := 21) (n := 342) (Nat.le_of_ble_eq_true rfl) (Nat.le_of_ble_eq_true rfl) ?_
  refine lv_dup hx hb dX0_init_123 rfl ?_
  have hF := va_free (wc := [(q_31, .inr (3, [.null, .int 0]))]) hD hS hA [1] rfl
  refine va_callv (va_runIN (As := []) (rest := [.ref q_31, .ref h0]) ⟨hx, hb, hml, hown, hts⟩ (c_X6_init l hfl D _ q_31) ⟨(va_cnB 0 hts (pv_gC w1_86) rfl rfl rfl (hE.2.2.1 _ (pv_ib w1_84 rfl)) (hg w1_4 rfl) (by decide +kernel) ⟨Nat.le_of_ble_eq_true rfl, Nat.le_of_ble_eq_true rfl⟩), rfl, hg w1_85 rfl⟩ (pv_ps hE hS hF (hP.sub [1] rfl) (hK.sub [] rfl) (hD.sub [1] (by decide) rfl)) rfl rfl hl.1 rfl (lv_room (Nat.le_of_ble_eq_true rfl)) dX0_init_124 ⟨Nat.le_of_ble_eq_true rfl, Nat.le_of_ble_eq_true rfl⟩) hS (fun q _ h => hF q h) hF (fun u t H1 locs1 ht hvm hw hB hz1 hk1 hS => ?_)
  refine W.widen (k := 22) (n := 374) (Nat.le_of_ble_eq_true rfl) (Nat.le_of_ble_eq_true rfl) ?_
  obtain ⟨b_33, hP1, hK1, hD1⟩ := hB
  rw [ht] at hP1
  have hK1 := va_K.moved hvm.symm hK1
  obtain ⟨hP, hD⟩ := va_join (wr := [(h0, .inr (4, [.int 2, .ref q_1, .ref q_4, .ref q_7, .ref q_10, .ref q_13, .ref q_16, .ref q_19, .ref q_22, .ref q_25, .ref q_28, .null, .null, .null, .null, .int 0, .null, .null]))]) (w1 := [(q_31, .inr (3, [.ref b_33, .int (-1)]))]) hP hD [1] [0] rfl rfl (by decide) (by decide) hk1 hF hP1 hD1
  have hP : va_P D pv_cl [(h0, .inr (4, [.int 2, .ref q_1, .ref q_4, .ref q_7, .ref q_10, .ref q_13, .ref q_16, .ref q_19, .ref q_22, .ref q_25, .ref q_28, .null, .null, .null, .null, .int 0, .null, .null])), (q_31, .inr (3, [.ref b_33, .int (-1)]))] _ := hP
  have hD : va_D A [(h0, .inr (4, [.int 2, .ref q_1, .ref q_4, .ref q_7, .ref q_10, .ref q_13, .ref q_16, .ref q_19, .ref q_22, .ref q_25, .ref q_28, .null, .null, .null, .null, .int 0, .null, .null])), (q_31, .inr (3, [.ref b_33, .int (-1)]))] := hD
  refine pv_pc 127 rfl ?_
  refine va_putF (own := RX0) (D := D) (ci := 4) (v := .ref q_31) (ty := .object "Polyforge$Line") (C := RX0) (T := TX0) (N := 18) hx hb hts inF0 tyX0 tyX0_ok nmX0 hown hK hP hD hS 0 rfl rfl 11 (by decide) (hg w1_109 rfl) (fun _ h9 => h9) rfl hin rfl (by decide +kernel) rfl rfl (Nat.le_of_ble_eq_true rfl) dX0_init_127 (fun H locs hP hD hS => ?_)
  have hP : va_P D pv_cl [(h0, .inr (4, [.int 2, .ref q_1, .ref q_4, .ref q_7, .ref q_10, .ref q_13, .ref q_16, .ref q_19, .ref q_22, .ref q_25, .ref q_28, .ref q_31, .null, .null, .null, .int 0, .null, .null])), (q_31, .inr (3, [.ref b_33, .int (-1)]))] _ := hP
  have hD : va_D A [(h0, .inr (4, [.int 2, .ref q_1, .ref q_4, .ref q_7, .ref q_10, .ref q_13, .ref q_16, .ref q_19, .ref q_22, .ref q_25, .ref q_28, .ref q_31, .null, .null, .null, .int 0, .null, .null])), (q_31, .inr (3, [.ref b_33, .int (-1)]))] := hD
  have hP : va_P D pv_cl [(h0, .inr (4, [.int 2, .ref q_1, .ref q_4, .ref q_7, .ref q_10, .ref q_13, .ref q_16, .ref q_19, .ref q_22, .ref q_25, .ref q_28, .ref q_31, .null, .null, .null, .int 0, .null, .null]))] _ := hP.sub [0] rfl
  have hD : va_D A [(h0, .inr (4, [.int 2, .ref q_1, .ref q_4, .ref q_7, .ref q_10, .ref q_13, .ref q_16, .ref q_19, .ref q_22, .ref q_25, .ref q_28, .ref q_31, .null, .null, .null, .int 0, .null, .null]))] := hD.sub [0] (by decide) rfl
  refine lv_aload_n hx hb dX0_init_130 rfl (lv_at hl 0 rfl) ?_
  refine va_new (own := RX0) (ci := 3) (fs := [.null, .int 0]) (C := RX6) (T := TX6) (N := 2) hx hb hts inF6 tyX6 tyX6_ok hown (hg w1_82 rfl) (hg w1_83 rfl) (hg w1_4 rfl) hK hP hD hS hA rfl (by decide +kernel) (Nat.le_of_ble_eq_true rfl) (Nat.le_of_ble_eq_true rfl) dX0_init_131 (fun q_34 H hP hD hS => ?_)
  have hP : va_P D pv_cl [(h0, .inr (4, [.int 2, .ref q_1, .ref q_4, .ref q_7, .ref q_10, .ref q_13, .ref q_16, .ref q_19, .ref q_22, .ref q_25, .ref q_28, .ref q_31, .null, .null, .null, .int 0, .null, .null])), (q_34, .inr (3, [.null, .int 0]))] _ := hP
  have hD : va_D A [(h0, .inr (4, [.int 2, .ref q_1, .ref q_4, .ref q_7, .ref q_10, .ref q_13, .ref q_16, .ref q_19, .ref q_22, .ref q_25, .ref q_28, .ref q_31, .null, .null, .null, .int 0, .null, .null])), (q_34, .inr (3, [.null, .int 0]))] := hD
  refine W.widen (k := 23) (n := 376) (Nat.le_of_ble_eq_true rfl) (Nat.le_of_ble_eq_true rfl) ?_
  refine lv_dup hx hb dX0_init_134 rfl ?_
  have hF := va_free (wc := [(q_34, .inr (3, [.null, .int 0]))]) hD hS hA [1] rfl
  refine va_callv (va_runIN (As := []) (rest := [.ref q_34, .ref h0]) ⟨hx, hb, hml, hown, hts⟩ (c_X6_init l hfl D _ q_34) ⟨(va_cnB 0 hts (pv_gC w1_86) rfl rfl rfl (hE.2.2.1 _ (pv_ib w1_84 rfl)) (hg w1_4 rfl) (by decide +kernel) ⟨Nat.le_of_ble_eq_true rfl, Nat.le_of_ble_eq_true rfl⟩), rfl, hg w1_85 rfl⟩ (pv_ps hE hS hF (hP.sub [1] rfl) (hK.sub [] rfl) (hD.sub [1] (by decide) rfl)) rfl rfl hl.1 rfl (lv_room (Nat.le_of_ble_eq_true rfl)) dX0_init_135 ⟨Nat.le_of_ble_eq_true rfl, Nat.le_of_ble_eq_true rfl⟩) hS (fun q _ h => hF q h) hF (fun u t H1 locs1 ht hvm hw hB hz1 hk1 hS => ?_)
  refine W.widen (k := 24) (n := 408) (Nat.le_of_ble_eq_true rfl) (Nat.le_of_ble_eq_true rfl) ?_
  obtain ⟨b_36, hP1, hK1, hD1⟩ := hB
  rw [ht] at hP1
  have hK1 := va_K.moved hvm.symm hK1
  obtain ⟨hP, hD⟩ := va_join (wr := [(h0, .inr (4, [.int 2, .ref q_1, .ref q_4, .ref q_7, .ref q_10, .ref q_13, .ref q_16, .ref q_19, .ref q_22, .ref q_25, .ref q_28, .ref q_31, .null, .null, .null, .int 0, .null, .null]))]) (w1 := [(q_34, .inr (3, [.ref b_36, .int (-1)]))]) hP hD [1] [0] rfl rfl (by decide) (by decide) hk1 hF hP1 hD1
  have hP : va_P D pv_cl [(h0, .inr (4, [.int 2, .ref q_1, .ref q_4, .ref q_7, .ref q_10, .ref q_13, .ref q_16, .ref q_19, .ref q_22, .ref q_25, .ref q_28, .ref q_31, .null, .null, .null, .int 0, .null, .null])), (q_34, .inr (3, [.ref b_36, .int (-1)]))] _ := hP
  have hD : va_D A [(h0, .inr (4, [.int 2, .ref q_1, .ref q_4, .ref q_7, .ref q_10, .ref q_13, .ref q_16, .ref q_19, .ref q_22, .ref q_25, .ref q_28, .ref q_31, .null, .null, .null, .int 0, .null, .null])), (q_34, .inr (3, [.ref b_36, .int (-1)]))] := hD
  refine va_putF (own := RX0) (D := D) (ci := 4) (v := .ref q_34) (ty := .object "Polyforge$Line") (C := RX0) (T := TX0) (N := 18) hx hb hts inF0 tyX0 tyX0_ok nmX0 hown hK hP hD hS 0 rfl rfl 12 (by decide) (hg w1_110 rfl) (fun _ h9 => h9) rfl hin rfl (by decide +kernel) rfl rfl (Nat.le_of_ble_eq_true rfl) dX0_init_138 (fun H locs hP hD hS => ?_)
  have hP : va_P D pv_cl [(h0, .inr (4, [.int 2, .ref q_1, .ref q_4, .ref q_7, .ref q_10, .ref q_13, .ref q_16, .ref q_19, .ref q_22, .ref q_25, .ref q_28, .ref q_31, .ref q_34, .null, .null, .int 0, .null, .null])), (q_34, .inr (3, [.ref b_36, .int (-1)]))] _ := hP
  have hD : va_D A [(h0, .inr (4, [.int 2, .ref q_1, .ref q_4, .ref q_7, .ref q_10, .ref q_13, .ref q_16, .ref q_19, .ref q_22, .ref q_25, .ref q_28, .ref q_31, .ref q_34, .null, .null, .int 0, .null, .null])), (q_34, .inr (3, [.ref b_36, .int (-1)]))] := hD
  have hP : va_P D pv_cl [(h0, .inr (4, [.int 2, .ref q_1, .ref q_4, .ref q_7, .ref q_10, .ref q_13, .ref q_16, .ref q_19, .ref q_22, .ref q_25, .ref q_28, .ref q_31, .ref q_34, .null, .null, .int 0, .null, .null]))] _ := hP.sub [0] rfl
  have hD : va_D A [(h0, .inr (4, [.int 2, .ref q_1, .ref q_4, .ref q_7, .ref q_10, .ref q_13, .ref q_16, .ref q_19, .ref q_22, .ref q_25, .ref q_28, .ref q_31, .ref q_34, .null, .null, .int 0, .null, .null]))] := hD.sub [0] (by decide) rfl
  refine lv_aload_n hx hb dX0_init_141 rfl (lv_at hl 0 rfl) ?_
  refine lv_bipush (v := 6) hx hb dX0_init_142 (by decide) ?_
  refine va_newq (own := RX0) (C := "Polyforge$Line") (N' := 6) hx hb hown (hg w1_82 rfl) (pv_ao (C := "Polyforge$Line") hE (by simp [pv_ot])) hK hP hD hS hA (by decide) (by decide +kernel) (Nat.le_of_ble_eq_true rfl) (Nat.le_of_ble_eq_true rfl) (Nat.le_of_ble_eq_true rfl) dX0_init_144 (fun q_37 cA_38 H hK hP hD hS => ?_)
  have hP : va_P D pv_cl [(h0, .inr (4, [.int 2, .ref q_1, .ref q_4, .ref q_7, .ref q_10, .ref q_13, .ref q_16, .ref q_19, .ref q_22, .ref q_25, .ref q_28, .ref q_31, .ref q_34, .null, .null, .int 0, .null, .null])), (q_37, .inl (cA_38, 6, .inr (.inr (.inr (.inr (fun _ => none))))))] _ := hP
  have hD : va_D A [(h0, .inr (4, [.int 2, .ref q_1, .ref q_4, .ref q_7, .ref q_10, .ref q_13, .ref q_16, .ref q_19, .ref q_22, .ref q_25, .ref q_28, .ref q_31, .ref q_34, .null, .null, .int 0, .null, .null])), (q_37, .inl (cA_38, 6, .inr (.inr (.inr (.inr (fun _ => none))))))] := hD
  have hK : va_K D pv_cl [(cA_38, .object "Polyforge$Line")] s := hK
  refine W.widen (k := 25) (n := 414) (Nat.le_of_ble_eq_true rfl) (Nat.le_of_ble_eq_true rfl) ?_
  refine va_putF (own := RX0) (D := D) (ci := 4) (v := .ref q_37) (ty := .array (.object "Polyforge$Line")) (C := RX0) (T := TX0) (N := 18) hx hb hts inF0 tyX0 tyX0_ok nmX0 hown hK hP hD hS 0 rfl rfl 13 (by decide) (hg w1_111 rfl) (fun _ h9 => h9) rfl hin rfl (by decide +kernel) rfl rfl (Nat.le_of_ble_eq_true rfl) dX0_init_147 (fun H locs hP hD hS => ?_)
  have hP : va_P D pv_cl [(h0, .inr (4, [.int 2, .ref q_1, .ref q_4, .ref q_7, .ref q_10, .ref q_13, .ref q_16, .ref q_19, .ref q_22, .ref q_25, .ref q_28, .ref q_31, .ref q_34, .ref q_37, .null, .int 0, .null, .null])), (q_37, .inl (cA_38, 6, .inr (.inr (.inr (.inr (fun _ => none))))))] _ := hP
  have hD : va_D A [(h0, .inr (4, [.int 2, .ref q_1, .ref q_4, .ref q_7, .ref q_10, .ref q_13, .ref q_16, .ref q_19, .ref q_22, .ref q_25, .ref q_28, .ref q_31, .ref q_34, .ref q_37, .null, .int 0, .null, .null])), (q_37, .inl (cA_38, 6, .inr (.inr (.inr (.inr (fun _ => none))))))] := hD
  refine lv_aload_n hx hb dX0_init_150 rfl (lv_at hl 0 rfl) ?_
  refine lv_bipush (v := 6) hx hb dX0_init_151 (by decide) ?_
  refine pv_pc 153 rfl ?_
  refine va_newa (atype := .int) hx hb (hg w1_74 rfl) (ty := .int) rfl hK hP hD hS hA (a0 := (6, .inl (fun _ => 0))) (fun _ => rfl) (by decide) (by decide +kernel) (Nat.le_of_ble_eq_true rfl) (Nat.le_of_ble_eq_true rfl) (Nat.le_of_ble_eq_true rfl) dX0_init_153 (fun q_39 cA_40 H hK hP hD hS => ?_)
  have hP : va_P D pv_cl [(h0, .inr (4, [.int 2, .ref q_1, .ref q_4, .ref q_7, .ref q_10, .ref q_13, .ref q_16, .ref q_19, .ref q_22, .ref q_25, .ref q_28, .ref q_31, .ref q_34, .ref q_37, .null, .int 0, .null, .null])), (q_37, .inl (cA_38, 6, .inr (.inr (.inr (.inr (fun _ => none)))))), (q_39, .inl (cA_40, 6, .inl (fun _ => 0)))] _ := hP
  have hD : va_D A [(h0, .inr (4, [.int 2, .ref q_1, .ref q_4, .ref q_7, .ref q_10, .ref q_13, .ref q_16, .ref q_19, .ref q_22, .ref q_25, .ref q_28, .ref q_31, .ref q_34, .ref q_37, .null, .int 0, .null, .null])), (q_37, .inl (cA_38, 6, .inr (.inr (.inr (.inr (fun _ => none)))))), (q_39, .inl (cA_40, 6, .inl (fun _ => 0)))] := hD
  have hK : va_K D pv_cl [(cA_38, .object "Polyforge$Line"), (cA_40, .int)] s := hK
  refine W.widen (k := 26) (n := 420) (Nat.le_of_ble_eq_true rfl) (Nat.le_of_ble_eq_true rfl) ?_
  refine va_putF (own := RX0) (D := D) (ci := 4) (v := .ref q_39) (ty := .array .int) (C := RX0) (T := TX0) (N := 18) hx hb hts inF0 tyX0 tyX0_ok nmX0 hown hK hP hD hS 0 rfl rfl 14 (by decide) (hg w1_112 rfl) (fun _ h9 => h9) rfl hin rfl (by decide +kernel) rfl rfl (Nat.le_of_ble_eq_true rfl) dX0_init_155 (fun H locs hP hD hS => ?_)
  have hP : va_P D pv_cl [(h0, .inr (4, [.int 2, .ref q_1, .ref q_4, .ref q_7, .ref q_10, .ref q_13, .ref q_16, .ref q_19, .ref q_22, .ref q_25, .ref q_28, .ref q_31, .ref q_34, .ref q_37, .ref q_39, .int 0, .null, .null])), (q_37, .inl (cA_38, 6, .inr (.inr (.inr (.inr (fun _ => none)))))), (q_39, .inl (cA_40, 6, .inl (fun _ => 0)))] _ := hP
  have hD : va_D A [(h0, .inr (4, [.int 2, .ref q_1, .ref q_4, .ref q_7, .ref q_10, .ref q_13, .ref q_16, .ref q_19, .ref q_22, .ref q_25, .ref q_28, .ref q_31, .ref q_34, .ref q_37, .ref q_39, .int 0, .null, .null])), (q_37, .inl (cA_38, 6, .inr (.inr (.inr (.inr (fun _ => none)))))), (q_39, .inl (cA_40, 6, .inl (fun _ => 0)))] := hD
  have hP : va_P D pv_cl [(h0, .inr (4, [.int 2, .ref q_1, .ref q_4, .ref q_7, .ref q_10, .ref q_13, .ref q_16, .ref q_19, .ref q_22, .ref q_25, .ref q_28, .ref q_31, .ref q_34, .ref q_37, .ref q_39, .int 0, .null, .null])), (q_37, .inl (cA_38, 6, .inr (.inr (.inr (.inr (fun _ => none))))))] _ := hP.sub [0, 1] rfl
  have hD : va_D A [(h0, .inr (4, [.int 2, .ref q_1, .ref q_4, .ref q_7, .ref q_10, .ref q_13, .ref q_16, .ref q_19, .ref q_22, .ref q_25, .ref q_28, .ref q_31, .ref q_34, .ref q_37, .ref q_39, .int 0, .null, .null])), (q_37, .inl (cA_38, 6, .inr (.inr (.inr (.inr (fun _ => none))))))] := hD.sub [0, 1] (by decide) rfl
  have hK : va_K D pv_cl [(cA_38, .object "Polyforge$Line")] s := hK.sub [0] rfl
  refine lv_aload_n hx hb dX0_init_158 rfl (lv_at hl 0 rfl) ?_
  refine lv_iconst (v := 0) hx hb dX0_init_159 (by decide) ?_
  refine va_put (own := RX0) (D := D) (ci := 4) (v := .int 0) (ty := .int) (C := RX0) (T := TX0) (N := 18) hx hb hts inF0 tyX0 tyX0_ok nmX0 hown hK hP hD hS 0 rfl rfl 15 (by decide) (hg w1_113 rfl) (fun _ h9 => h9) rfl (by decide +kernel) rfl rfl (Nat.le_of_ble_eq_true rfl) dX0_init_160 (fun H locs hP hD hS => ?_)
  have hP : va_P D pv_cl [(h0, .inr (4, [.int 2, .ref q_1, .ref q_4, .ref q_7, .ref q_10, .ref q_13, .ref q_16, .ref q_19, .ref q_22, .ref q_25, .ref q_28, .ref q_31, .ref q_34, .ref q_37, .ref q_39, .int 0, .null, .null])), (q_37, .inl (cA_38, 6, .inr (.inr (.inr (.inr (fun _ => none))))))] _ := hP
  have hD : va_D A [(h0, .inr (4, [.int 2, .ref q_1, .ref q_4, .ref q_7, .ref q_10, .ref q_13, .ref q_16, .ref q_19, .ref q_22, .ref q_25, .ref q_28, .ref q_31, .ref q_34, .ref q_37, .ref q_39, .int 0, .null, .null])), (q_37, .inl (cA_38, 6, .inr (.inr (.inr (.inr (fun _ => none))))))] := hD
  refine lv_aload_n hx hb dX0_init_163 rfl (lv_at hl 0 rfl) ?_
  refine lv_sipush (v := 3600) hx hb dX0_init_164 (by decide) ?_
  refine va_newa (atype := .int) hx hb (hg w1_74 rfl) (ty := .int) rfl hK hP hD hS hA (a0 := (3600, .inl (fun _ => 0))) (fun _ => rfl) (by decide) (by decide +kernel) (Nat.le_of_ble_eq_true rfl) (Nat.le_of_ble_eq_true rfl) (Nat.le_of_ble_eq_true rfl) dX0_init_167 (fun q_41 cA_42 H hK hP hD hS => ?_)
  have hP : va_P D pv_cl [(h0, .inr (4, [.int 2, .ref q_1, .ref q_4, .ref q_7, .ref q_10, .ref q_13, .ref q_16, .ref q_19, .ref q_22, .ref q_25, .ref q_28, .ref q_31, .ref q_34, .ref q_37, .ref q_39, .int 0, .null, .null])), (q_37, .inl (cA_38, 6, .inr (.inr (.inr (.inr (fun _ => none)))))), (q_41, .inl (cA_42, 3600, .inl (fun _ => 0)))] _ := hP
  have hD : va_D A [(h0, .inr (4, [.int 2, .ref q_1, .ref q_4, .ref q_7, .ref q_10, .ref q_13, .ref q_16, .ref q_19, .ref q_22, .ref q_25, .ref q_28, .ref q_31, .ref q_34, .ref q_37, .ref q_39, .int 0, .null, .null])), (q_37, .inl (cA_38, 6, .inr (.inr (.inr (.inr (fun _ => none)))))), (q_41, .inl (cA_42, 3600, .inl (fun _ => 0)))] := hD
  have hK : va_K D pv_cl [(cA_38, .object "Polyforge$Line"), (cA_42, .int)] s := hK
  refine W.widen (k := 27) (n := 4020) (Nat.le_of_ble_eq_true rfl) (Nat.le_of_ble_eq_true rfl) ?_
  refine va_putF (own := RX0) (D := D) (ci := 4) (v := .ref q_41) (ty := .array .int) (C := RX0) (T := TX0) (N := 18) hx hb hts inF0 tyX0 tyX0_ok nmX0 hown hK hP hD hS 0 rfl rfl 16 (by decide) (hg w1_115 rfl) (fun _ h9 => h9) rfl hin rfl (by decide +kernel) rfl rfl (Nat.le_of_ble_eq_true rfl) dX0_init_169 (fun H locs hP hD hS => ?_)
  have hP : va_P D pv_cl [(h0, .inr (4, [.int 2, .ref q_1, .ref q_4, .ref q_7, .ref q_10, .ref q_13, .ref q_16, .ref q_19, .ref q_22, .ref q_25, .ref q_28, .ref q_31, .ref q_34, .ref q_37, .ref q_39, .int 0, .ref q_41, .null])), (q_37, .inl (cA_38, 6, .inr (.inr (.inr (.inr (fun _ => none)))))), (q_41, .inl (cA_42, 3600, .inl (fun _ => 0)))] _ := hP
  have hD : va_D A [(h0, .inr (4, [.int 2, .ref q_1, .ref q_4, .ref q_7, .ref q_10, .ref q_13, .ref q_16, .ref q_19, .ref q_22, .ref q_25, .ref q_28, .ref q_31, .ref q_34, .ref q_37, .ref q_39, .int 0, .ref q_41, .null])), (q_37, .inl (cA_38, 6, .inr (.inr (.inr (.inr (fun _ => none)))))), (q_41, .inl (cA_42, 3600, .inl (fun _ => 0)))] := hD
  have hP : va_P D pv_cl [(h0, .inr (4, [.int 2, .ref q_1, .ref q_4, .ref q_7, .ref q_10, .ref q_13, .ref q_16, .ref q_19, .ref q_22, .ref q_25, .ref q_28, .ref q_31, .ref q_34, .ref q_37, .ref q_39, .int 0, .ref q_41, .null])), (q_37, .inl (cA_38, 6, .inr (.inr (.inr (.inr (fun _ => none))))))] _ := hP.sub [0, 1] rfl
  have hD : va_D A [(h0, .inr (4, [.int 2, .ref q_1, .ref q_4, .ref q_7, .ref q_10, .ref q_13, .ref q_16, .ref q_19, .ref q_22, .ref q_25, .ref q_28, .ref q_31, .ref q_34, .ref q_37, .ref q_39, .int 0, .ref q_41, .null])), (q_37, .inl (cA_38, 6, .inr (.inr (.inr (.inr (fun _ => none))))))] := hD.sub [0, 1] (by decide) rfl
  have hK : va_K D pv_cl [(cA_38, .object "Polyforge$Line")] s := hK.sub [0] rfl
  refine lv_aload_n hx hb dX0_init_172 rfl (lv_at hl 0 rfl) ?_
  refine lv_bipush (v := 31) hx hb dX0_init_173 (by decide) ?_
  refine va_newa (atype := .int) hx hb (hg w1_74 rfl) (ty := .int) rfl hK hP hD hS hA (a0 := (31, .inl (fun _ => 0))) (fun _ => rfl) (by decide) (by decide +kernel) (Nat.le_of_ble_eq_true rfl) (Nat.le_of_ble_eq_true rfl) (Nat.le_of_ble_eq_true rfl) dX0_init_175 (fun q_43 cA_44 H hK hP hD hS => ?_)
  have hP : va_P D pv_cl [(h0, .inr (4, [.int 2, .ref q_1, .ref q_4, .ref q_7, .ref q_10, .ref q_13, .ref q_16, .ref q_19, .ref q_22, .ref q_25, .ref q_28, .ref q_31, .ref q_34, .ref q_37, .ref q_39, .int 0, .ref q_41, .null])), (q_37, .inl (cA_38, 6, .inr (.inr (.inr (.inr (fun _ => none)))))), (q_43, .inl (cA_44, 31, .inl (fun _ => 0)))] _ := hP
  have hD : va_D A [(h0, .inr (4, [.int 2, .ref q_1, .ref q_4, .ref q_7, .ref q_10, .ref q_13, .ref q_16, .ref q_19, .ref q_22, .ref q_25, .ref q_28, .ref q_31, .ref q_34, .ref q_37, .ref q_39, .int 0, .ref q_41, .null])), (q_37, .inl (cA_38, 6, .inr (.inr (.inr (.inr (fun _ => none)))))), (q_43, .inl (cA_44, 31, .inl (fun _ => 0)))] := hD
  have hK : va_K D pv_cl [(cA_38, .object "Polyforge$Line"), (cA_44, .int)] s := hK
  refine W.widen (k := 28) (n := 4051) (Nat.le_of_ble_eq_true rfl) (Nat.le_of_ble_eq_true rfl) ?_
  refine pv_pc 177 rfl ?_
  refine va_putF (own := RX0) (D := D) (ci := 4) (v := .ref q_43) (ty := .array .int) (C := RX0) (T := TX0) (N := 18) hx hb hts inF0 tyX0 tyX0_ok nmX0 hown hK hP hD hS 0 rfl rfl 17 (by decide) (hg w1_116 rfl) (fun _ h9 => h9) rfl hin rfl (by decide +kernel) rfl rfl (Nat.le_of_ble_eq_true rfl) dX0_init_177 (fun H locs hP hD hS => ?_)
  have hP : va_P D pv_cl [(h0, .inr (4, [.int 2, .ref q_1, .ref q_4, .ref q_7, .ref q_10, .ref q_13, .ref q_16, .ref q_19, .ref q_22, .ref q_25, .ref q_28, .ref q_31, .ref q_34, .ref q_37, .ref q_39, .int 0, .ref q_41, .ref q_43])), (q_37, .inl (cA_38, 6, .inr (.inr (.inr (.inr (fun _ => none)))))), (q_43, .inl (cA_44, 31, .inl (fun _ => 0)))] _ := hP
  have hD : va_D A [(h0, .inr (4, [.int 2, .ref q_1, .ref q_4, .ref q_7, .ref q_10, .ref q_13, .ref q_16, .ref q_19, .ref q_22, .ref q_25, .ref q_28, .ref q_31, .ref q_34, .ref q_37, .ref q_39, .int 0, .ref q_41, .ref q_43])), (q_37, .inl (cA_38, 6, .inr (.inr (.inr (.inr (fun _ => none)))))), (q_43, .inl (cA_44, 31, .inl (fun _ => 0)))] := hD
  have hP : va_P D pv_cl [(h0, .inr (4, [.int 2, .ref q_1, .ref q_4, .ref q_7, .ref q_10, .ref q_13, .ref q_16, .ref q_19, .ref q_22, .ref q_25, .ref q_28, .ref q_31, .ref q_34, .ref q_37, .ref q_39, .int 0, .ref q_41, .ref q_43])), (q_37, .inl (cA_38, 6, .inr (.inr (.inr (.inr (fun _ => none))))))] _ := hP.sub [0, 1] rfl
  have hD : va_D A [(h0, .inr (4, [.int 2, .ref q_1, .ref q_4, .ref q_7, .ref q_10, .ref q_13, .ref q_16, .ref q_19, .ref q_22, .ref q_25, .ref q_28, .ref q_31, .ref q_34, .ref q_37, .ref q_39, .int 0, .ref q_41, .ref q_43])), (q_37, .inl (cA_38, 6, .inr (.inr (.inr (.inr (fun _ => none))))))] := hD.sub [0, 1] (by decide) rfl
  have hK : va_K D pv_cl [(cA_38, .object "Polyforge$Line")] s := hK.sub [0] rfl
  refine lv_iconst (v := 0) hx hb dX0_init_180 (by decide) ?_
  refine lv_istore_n (lv' := [(1, .int 0), (0, .ref h0)]) hx hb dX0_init_181 rfl hl (by decide) rfl (fun ls hl => ?_)
  refine lv_iload_n hx hb dX0_init_182 rfl (lv_at hl 0 rfl) ?_
  refine lv_bipush (v := 6) hx hb dX0_init_183 (by decide) ?_
  refine lv_icmp_ge (tgt := 207) hx hb dX0_init_185 (by decide) (fun c_45 => absurd c_45 (by decide)) (fun _ => ?_)
  refine lv_aload_n hx hb dX0_init_188 rfl (lv_at hl 1 rfl) ?_
  refine va_get (own := RX0) (D := D) (ci := 4) (v := .ref q_37) (C := RX0) (T := TX0) (N := 18) hx hb hts inF0 hown hK hP 0 rfl rfl 13 (by decide) (hg w1_111 rfl) (fun _ h9 => h9) rfl dX0_init_189 ?_
  refine lv_iload_n hx hb dX0_init_192 rfl (lv_at hl 0 rfl) ?_
  refine va_new (own := RX0) (ci := 3) (fs := [.null, .int 0]) (C := RX6) (T := TX6) (N := 2) hx hb hts inF6 tyX6 tyX6_ok hown (hg w1_82 rfl) (hg w1_83 rfl) (hg w1_4 rfl) hK hP hD hS hA rfl (by decide +kernel) (Nat.le_of_ble_eq_true rfl) (Nat.le_of_ble_eq_true rfl) dX0_init_193 (fun q_46 H hP hD hS => ?_)
  have hP : va_P D pv_cl [(h0, .inr (4, [.int 2, .ref q_1, .ref q_4, .ref q_7, .ref q_10, .ref q_13, .ref q_16, .ref q_19, .ref q_22, .ref q_25, .ref q_28, .ref q_31, .ref q_34, .ref q_37, .ref q_39, .int 0, .ref q_41, .ref q_43])), (q_37, .inl (cA_38, 6, .inr (.inr (.inr (.inr (fun _ => none)))))), (q_46, .inr (3, [.null, .int 0]))] _ := hP
  have hD : va_D A [(h0, .inr (4, [.int 2, .ref q_1, .ref q_4, .ref q_7, .ref q_10, .ref q_13, .ref q_16, .ref q_19, .ref q_22, .ref q_25, .ref q_28, .ref q_31, .ref q_34, .ref q_37, .ref q_39, .int 0, .ref q_41, .ref q_43])), (q_37, .inl (cA_38, 6, .inr (.inr (.inr (.inr (fun _ => none)))))), (q_46, .inr (3, [.null, .int 0]))] := hD
  refine W.widen (k := 29) (n := 4053) (Nat.le_of_ble_eq_true rfl) (Nat.le_of_ble_eq_true rfl) ?_
  refine lv_dup hx hb dX0_init_196 rfl ?_
  have hF := va_free (wc := [(q_46, .inr (3, [.null, .int 0]))]) hD hS hA [2] rfl
  refine va_callv (va_runIN (As := []) (rest := [.ref q_46, .int 0, .ref q_37]) ⟨hx, hb, hml, hown, hts⟩ (c_X6_init l hfl D _ q_46) ⟨(va_cnB 0 hts (pv_gC w1_86) rfl rfl rfl (hE.2.2.1 _ (pv_ib w1_84 rfl)) (hg w1_4 rfl) (by decide +kernel) ⟨Nat.le_of_ble_eq_true rfl, Nat.le_of_ble_eq_true rfl⟩), rfl, hg w1_85 rfl⟩ (pv_ps hE hS hF (hP.sub [2] rfl) (hK.sub [] rfl) (hD.sub [2] (by decide) rfl)) rfl rfl hl.1 rfl (lv_room (Nat.le_of_ble_eq_true rfl)) dX0_init_197 ⟨Nat.le_of_ble_eq_true rfl, Nat.le_of_ble_eq_true rfl⟩) hS (fun q _ h => hF q h) hF (fun u t H1 locs1 ht hvm hw hB hz1 hk1 hS => ?_)
  refine W.widen (k := 30) (n := 4085) (Nat.le_of_ble_eq_true rfl) (Nat.le_of_ble_eq_true rfl) ?_
  obtain ⟨b_48, hP1, hK1, hD1⟩ := hB
  rw [ht] at hP1
  have hK1 := va_K.moved hvm.symm hK1
  obtain ⟨hP, hD⟩ := va_join (wr := [(h0, .inr (4, [.int 2, .ref q_1, .ref q_4, .ref q_7, .ref q_10, .ref q_13, .ref q_16, .ref q_19, .ref q_22, .ref q_25, .ref q_28, .ref q_31, .ref q_34, .ref q_37, .ref q_39, .int 0, .ref q_41, .ref q_43])), (q_37, .inl (cA_38, 6, .inr (.inr (.inr (.inr (fun _ => none))))))]) (w1 := [(q_46, .inr (3, [.ref b_48, .int (-1)]))]) hP hD [2] [0, 1] rfl rfl (by decide) (by decide) hk1 hF hP1 hD1
  have hP : va_P D pv_cl [(h0, .inr (4, [.int 2, .ref q_1, .ref q_4, .ref q_7, .ref q_10, .ref q_13, .ref q_16, .ref q_19, .ref q_22, .ref q_25, .ref q_28, .ref q_31, .ref q_34, .ref q_37, .ref q_39, .int 0, .ref q_41, .ref q_43])), (q_37, .inl (cA_38, 6, .inr (.inr (.inr (.inr (fun _ => none)))))), (q_46, .inr (3, [.ref b_48, .int (-1)]))] _ := hP
  have hD : va_D A [(h0, .inr (4, [.int 2, .ref q_1, .ref q_4, .ref q_7, .ref q_10, .ref q_13, .ref q_16, .ref q_19, .ref q_22, .ref q_25, .ref q_28, .ref q_31, .ref q_34, .ref q_37, .ref q_39, .int 0, .ref q_41, .ref q_43])), (q_37, .inl (cA_38, 6, .inr (.inr (.inr (.inr (fun _ => none)))))), (q_46, .inr (3, [.ref b_48, .int (-1)]))] := hD
  refine pv_pc 200 rfl ?_
  refine va_astq hx hb hK hP hD hS 1 0 2 3 rfl rfl rfl rfl (by unfold vp_in; decide) dX0_init_200 (fun H locs hP hD hS => ?_)
  have hP : va_P D pv_cl [(h0, .inr (4, [.int 2, .ref q_1, .ref q_4, .ref q_7, .ref q_10, .ref q_13, .ref q_16, .ref q_19, .ref q_22, .ref q_25, .ref q_28, .ref q_31, .ref q_34, .ref q_37, .ref q_39, .int 0, .ref q_41, .ref q_43])), (q_37, .inl (cA_38, 6, .inr (.inr (.inr (.inr (va_up (fun _ => none) (0 : Int32).toNatClampNeg (some q_46))))))), (q_46, .inr (3, [.ref b_48, .int (-1)]))] _ := hP
  have hD : va_D A [(h0, .inr (4, [.int 2, .ref q_1, .ref q_4, .ref q_7, .ref q_10, .ref q_13, .ref q_16, .ref q_19, .ref q_22, .ref q_25, .ref q_28, .ref q_31, .ref q_34, .ref q_37, .ref q_39, .int 0, .ref q_41, .ref q_43])), (q_37, .inl (cA_38, 6, .inr (.inr (.inr (.inr (va_up (fun _ => none) (0 : Int32).toNatClampNeg (some q_46))))))), (q_46, .inr (3, [.ref b_48, .int (-1)]))] := hD
  refine lv_iinc (v := 1) (lv' := [(1, .int 1), (0, .ref h0)]) hx hb dX0_init_201 hl (k := 0) rfl (by decide) (by decide) rfl (fun ls hl => ?_)
  refine lv_goto (tgt := 182) hx hb dX0_init_204 (by decide) ?_
  refine lv_iload_n hx hb dX0_init_182 rfl (lv_at hl 0 rfl) ?_
  refine lv_bipush (v := 6) hx hb dX0_init_183 (by decide) ?_
  refine lv_icmp_ge (tgt := 207) hx hb dX0_init_185 (by decide) (fun c_49 => absurd c_49 (by decide)) (fun _ => ?_)
  refine lv_aload_n hx hb dX0_init_188 rfl (lv_at hl 1 rfl) ?_
  refine va_get (own := RX0) (D := D) (ci := 4) (v := .ref q_37) (C := RX0) (T := TX0) (N := 18) hx hb hts inF0 hown hK hP 0 rfl rfl 13 (by decide) (hg w1_111 rfl) (fun _ h9 => h9) rfl dX0_init_189 ?_
  refine lv_iload_n hx hb dX0_init_192 rfl (lv_at hl 0 rfl) ?_
  refine va_new (own := RX0) (ci := 3) (fs := [.null, .int 0]) (C := RX6) (T := TX6) (N := 2) hx hb hts inF6 tyX6 tyX6_ok hown (hg w1_82 rfl) (hg w1_83 rfl) (hg w1_4 rfl) hK hP hD hS hA rfl (by decide +kernel) (Nat.le_of_ble_eq_true rfl) (Nat.le_of_ble_eq_true rfl) dX0_init_193 (fun q_50 H hP hD hS => ?_)
  have hP : va_P D pv_cl [(h0, .inr (4, [.int 2, .ref q_1, .ref q_4, .ref q_7, .ref q_10, .ref q_13, .ref q_16, .ref q_19, .ref q_22, .ref q_25, .ref q_28, .ref q_31, .ref q_34, .ref q_37, .ref q_39, .int 0, .ref q_41, .ref q_43])), (q_37, .inl (cA_38, 6, .inr (.inr (.inr (.inr (va_up (fun _ => none) (0 : Int32).toNatClampNeg (some q_46))))))), (q_46, .inr (3, [.ref b_48, .int (-1)])), (q_50, .inr (3, [.null, .int 0]))] _ := hP
  have hD : va_D A [(h0, .inr (4, [.int 2, .ref q_1, .ref q_4, .ref q_7, .ref q_10, .ref q_13, .ref q_16, .ref q_19, .ref q_22, .ref q_25, .ref q_28, .ref q_31, .ref q_34, .ref q_37, .ref q_39, .int 0, .ref q_41, .ref q_43])), (q_37, .inl (cA_38, 6, .inr (.inr (.inr (.inr (va_up (fun _ => none) (0 : Int32).toNatClampNeg (some q_46))))))), (q_46, .inr (3, [.ref b_48, .int (-1)])), (q_50, .inr (3, [.null, .int 0]))] := hD
  refine W.widen (k := 31) (n := 4087) (Nat.le_of_ble_eq_true rfl) (Nat.le_of_ble_eq_true rfl) ?_
  refine lv_dup hx hb dX0_init_196 rfl ?_
  have hF := va_free (wc := [(q_50, .inr (3, [.null, .int 0]))]) hD hS hA [3] rfl
  refine va_callv (va_runIN (As := []) (rest := [.ref q_50, .int 1, .ref q_37]) ⟨hx, hb, hml, hown, hts⟩ (c_X6_init l hfl D _ q_50) ⟨(va_cnB 0 hts (pv_gC w1_86) rfl rfl rfl (hE.2.2.1 _ (pv_ib w1_84 rfl)) (hg w1_4 rfl) (by decide +kernel) ⟨Nat.le_of_ble_eq_true rfl, Nat.le_of_ble_eq_true rfl⟩), rfl, hg w1_85 rfl⟩ (pv_ps hE hS hF (hP.sub [3] rfl) (hK.sub [] rfl) (hD.sub [3] (by decide) rfl)) rfl rfl hl.1 rfl (lv_room (Nat.le_of_ble_eq_true rfl)) dX0_init_197 ⟨Nat.le_of_ble_eq_true rfl, Nat.le_of_ble_eq_true rfl⟩) hS (fun q _ h => hF q h) hF (fun u t H1 locs1 ht hvm hw hB hz1 hk1 hS => ?_)
  refine W.widen (k := 32) (n := 4119) (Nat.le_of_ble_eq_true rfl) (Nat.le_of_ble_eq_true rfl) ?_
  obtain ⟨b_52, hP1, hK1, hD1⟩ := hB
  rw [ht] at hP1
  have hK1 := va_K.moved hvm.symm hK1
  obtain ⟨hP, hD⟩ := va_join (wr := [(h0, .inr (4, [.int 2, .ref q_1, .ref q_4, .ref q_7, .ref q_10, .ref q_13, .ref q_16, .ref q_19, .ref q_22, .ref q_25, .ref q_28, .ref q_31, .ref q_34, .ref q_37, .ref q_39, .int 0, .ref q_41, .ref q_43])), (q_37, .inl (cA_38, 6, .inr (.inr (.inr (.inr (va_up (fun _ => none) (0 : Int32).toNatClampNeg (some q_46))))))), (q_46, .inr (3, [.ref b_48, .int (-1)]))]) (w1 := [(q_50, .inr (3, [.ref b_52, .int (-1)]))]) hP hD [3] [0, 1, 2] rfl rfl (by decide) (by decide) hk1 hF hP1 hD1
  have hP : va_P D pv_cl [(h0, .inr (4, [.int 2, .ref q_1, .ref q_4, .ref q_7, .ref q_10, .ref q_13, .ref q_16, .ref q_19, .ref q_22, .ref q_25, .ref q_28, .ref q_31, .ref q_34, .ref q_37, .ref q_39, .int 0, .ref q_41, .ref q_43])), (q_37, .inl (cA_38, 6, .inr (.inr (.inr (.inr (va_up (fun _ => none) (0 : Int32).toNatClampNeg (some q_46))))))), (q_46, .inr (3, [.ref b_48, .int (-1)])), (q_50, .inr (3, [.ref b_52, .int (-1)]))] _ := hP
  have hD : va_D A [(h0, .inr (4, [.int 2, .ref q_1, .ref q_4, .ref q_7, .ref q_10, .ref q_13, .ref q_16, .ref q_19, .ref q_22, .ref q_25, .ref q_28, .ref q_31, .ref q_34, .ref q_37, .ref q_39, .int 0, .ref q_41, .ref q_43])), (q_37, .inl (cA_38, 6, .inr (.inr (.inr (.inr (va_up (fun _ => none) (0 : Int32).toNatClampNeg (some q_46))))))), (q_46, .inr (3, [.ref b_48, .int (-1)])), (q_50, .inr (3, [.ref b_52, .int (-1)]))] := hD
  refine pv_pc 200 rfl ?_
  refine va_astq hx hb hK hP hD hS 1 0 3 3 rfl rfl rfl rfl (by unfold vp_in; decide) dX0_init_200 (fun H locs hP hD hS => ?_)
  have hP : va_P D pv_cl [(h0, .inr (4, [.int 2, .ref q_1, .ref q_4, .ref q_7, .ref q_10, .ref q_13, .ref q_16, .ref q_19, .ref q_22, .ref q_25, .ref q_28, .ref q_31, .ref q_34, .ref q_37, .ref q_39, .int 0, .ref q_41, .ref q_43])), (q_37, .inl (cA_38, 6, .inr (.inr (.inr (.inr (va_up (va_up (fun _ => none) (0 : Int32).toNatClampNeg (some q_46)) (1 : Int32).toNatClampNeg (some q_50))))))), (q_46, .inr (3, [.ref b_48, .int (-1)])), (q_50, .inr (3, [.ref b_52, .int (-1)]))] _ := hP
  have hD : va_D A [(h0, .inr (4, [.int 2, .ref q_1, .ref q_4, .ref q_7, .ref q_10, .ref q_13, .ref q_16, .ref q_19, .ref q_22, .ref q_25, .ref q_28, .ref q_31, .ref q_34, .ref q_37, .ref q_39, .int 0, .ref q_41, .ref q_43])), (q_37, .inl (cA_38, 6, .inr (.inr (.inr (.inr (va_up (va_up (fun _ => none) (0 : Int32).toNatClampNeg (some q_46)) (1 : Int32).toNatClampNeg (some q_50))))))), (q_46, .inr (3, [.ref b_48, .int (-1)])), (q_50, .inr (3, [.ref b_52, .int (-1)]))] := hD
  refine lv_iinc (v := 2) (lv' := [(1, .int 2), (0, .ref h0)]) hx hb dX0_init_201 hl (k := 0) rfl (by decide) (by decide) rfl (fun ls hl => ?_)
  refine lv_goto (tgt := 182) hx hb dX0_init_204 (by decide) ?_
  refine lv_iload_n hx hb dX0_init_182 rfl (lv_at hl 0 rfl) ?_
  refine lv_bipush (v := 6) hx hb dX0_init_183 (by decide) ?_
  refine lv_icmp_ge (tgt := 207) hx hb dX0_init_185 (by decide) (fun c_53 => absurd c_53 (by decide)) (fun _ => ?_)
  refine lv_aload_n hx hb dX0_init_188 rfl (lv_at hl 1 rfl) ?_
  refine va_get (own := RX0) (D := D) (ci := 4) (v := .ref q_37) (C := RX0) (T := TX0) (N := 18) hx hb hts inF0 hown hK hP 0 rfl rfl 13 (by decide) (hg w1_111 rfl) (fun _ h9 => h9) rfl dX0_init_189 ?_
  refine lv_iload_n hx hb dX0_init_192 rfl (lv_at hl 0 rfl) ?_
  refine va_new (own := RX0) (ci := 3) (fs := [.null, .int 0]) (C := RX6) (T := TX6) (N := 2) hx hb hts inF6 tyX6 tyX6_ok hown (hg w1_82 rfl) (hg w1_83 rfl) (hg w1_4 rfl) hK hP hD hS hA rfl (by decide +kernel) (Nat.le_of_ble_eq_true rfl) (Nat.le_of_ble_eq_true rfl) dX0_init_193 (fun q_54 H hP hD hS => ?_)
  have hP : va_P D pv_cl [(h0, .inr (4, [.int 2, .ref q_1, .ref q_4, .ref q_7, .ref q_10, .ref q_13, .ref q_16, .ref q_19, .ref q_22, .ref q_25, .ref q_28, .ref q_31, .ref q_34, .ref q_37, .ref q_39, .int 0, .ref q_41, .ref q_43])), (q_37, .inl (cA_38, 6, .inr (.inr (.inr (.inr (va_up (va_up (fun _ => none) (0 : Int32).toNatClampNeg (some q_46)) (1 : Int32).toNatClampNeg (some q_50))))))), (q_46, .inr (3, [.ref b_48, .int (-1)])), (q_50, .inr (3, [.ref b_52, .int (-1)])), (q_54, .inr (3, [.null, .int 0]))] _ := hP
  have hD : va_D A [(h0, .inr (4, [.int 2, .ref q_1, .ref q_4, .ref q_7, .ref q_10, .ref q_13, .ref q_16, .ref q_19, .ref q_22, .ref q_25, .ref q_28, .ref q_31, .ref q_34, .ref q_37, .ref q_39, .int 0, .ref q_41, .ref q_43])), (q_37, .inl (cA_38, 6, .inr (.inr (.inr (.inr (va_up (va_up (fun _ => none) (0 : Int32).toNatClampNeg (some q_46)) (1 : Int32).toNatClampNeg (some q_50))))))), (q_46, .inr (3, [.ref b_48, .int (-1)])), (q_50, .inr (3, [.ref b_52, .int (-1)])), (q_54, .inr (3, [.null, .int 0]))] := hD
  refine W.widen (k := 33) (n := 4121) (Nat.le_of_ble_eq_true rfl) (Nat.le_of_ble_eq_true rfl) ?_
  refine lv_dup hx hb dX0_init_196 rfl ?_
  have hF := va_free (wc := [(q_54, .inr (3, [.null, .int 0]))]) hD hS hA [4] rfl
  refine va_callv (va_runIN (As := []) (rest := [.ref q_54, .int 2, .ref q_37]) ⟨hx, hb, hml, hown, hts⟩ (c_X6_init l hfl D _ q_54) ⟨(va_cnB 0 hts (pv_gC w1_86) rfl rfl rfl (hE.2.2.1 _ (pv_ib w1_84 rfl)) (hg w1_4 rfl) (by decide +kernel) ⟨Nat.le_of_ble_eq_true rfl, Nat.le_of_ble_eq_true rfl⟩), rfl, hg w1_85 rfl⟩ (pv_ps hE hS hF (hP.sub [4] rfl) (hK.sub [] rfl) (hD.sub [4] (by decide) rfl)) rfl rfl hl.1 rfl (lv_room (Nat.le_of_ble_eq_true rfl)) dX0_init_197 ⟨Nat.le_of_ble_eq_true rfl, Nat.le_of_ble_eq_true rfl⟩) hS (fun q _ h => hF q h) hF (fun u t H1 locs1 ht hvm hw hB hz1 hk1 hS => ?_)
  refine W.widen (k := 34) (n := 4153) (Nat.le_of_ble_eq_true rfl) (Nat.le_of_ble_eq_true rfl) ?_
  obtain ⟨b_56, hP1, hK1, hD1⟩ := hB
  rw [ht] at hP1
  have hK1 := va_K.moved hvm.symm hK1
  obtain ⟨hP, hD⟩ := va_join (wr := [(h0, .inr (4, [.int 2, .ref q_1, .ref q_4, .ref q_7, .ref q_10, .ref q_13, .ref q_16, .ref q_19, .ref q_22, .ref q_25, .ref q_28, .ref q_31, .ref q_34, .ref q_37, .ref q_39, .int 0, .ref q_41, .ref q_43])), (q_37, .inl (cA_38, 6, .inr (.inr (.inr (.inr (va_up (va_up (fun _ => none) (0 : Int32).toNatClampNeg (some q_46)) (1 : Int32).toNatClampNeg (some q_50))))))), (q_46, .inr (3, [.ref b_48, .int (-1)])), (q_50, .inr (3, [.ref b_52, .int (-1)]))]) (w1 := [(q_54, .inr (3, [.ref b_56, .int (-1)]))]) hP hD [4] [0, 1, 2, 3] rfl rfl (by decide) (by decide) hk1 hF hP1 hD1
  have hP : va_P D pv_cl [(h0, .inr (4, [.int 2, .ref q_1, .ref q_4, .ref q_7, .ref q_10, .ref q_13, .ref q_16, .ref q_19, .ref q_22, .ref q_25, .ref q_28, .ref q_31, .ref q_34, .ref q_37, .ref q_39, .int 0, .ref q_41, .ref q_43])), (q_37, .inl (cA_38, 6, .inr (.inr (.inr (.inr (va_up (va_up (fun _ => none) (0 : Int32).toNatClampNeg (some q_46)) (1 : Int32).toNatClampNeg (some q_50))))))), (q_46, .inr (3, [.ref b_48, .int (-1)])), (q_50, .inr (3, [.ref b_52, .int (-1)])), (q_54, .inr (3, [.ref b_56, .int (-1)]))] _ := hP
  have hD : va_D A [(h0, .inr (4, [.int 2, .ref q_1, .ref q_4, .ref q_7, .ref q_10, .ref q_13, .ref q_16, .ref q_19, .ref q_22, .ref q_25, .ref q_28, .ref q_31, .ref q_34, .ref q_37, .ref q_39, .int 0, .ref q_41, .ref q_43])), (q_37, .inl (cA_38, 6, .inr (.inr (.inr (.inr (va_up (va_up (fun _ => none) (0 : Int32).toNatClampNeg (some q_46)) (1 : Int32).toNatClampNeg (some q_50))))))), (q_46, .inr (3, [.ref b_48, .int (-1)])), (q_50, .inr (3, [.ref b_52, .int (-1)])), (q_54, .inr (3, [.ref b_56, .int (-1)]))] := hD
  refine pv_pc 200 rfl ?_
  refine va_astq hx hb hK hP hD hS 1 0 4 3 rfl rfl rfl rfl (by unfold vp_in; decide) dX0_init_200 (fun H locs hP hD hS => ?_)
  have hP : va_P D pv_cl [(h0, .inr (4, [.int 2, .ref q_1, .ref q_4, .ref q_7, .ref q_10, .ref q_13, .ref q_16, .ref q_19, .ref q_22, .ref q_25, .ref q_28, .ref q_31, .ref q_34, .ref q_37, .ref q_39, .int 0, .ref q_41, .ref q_43])), (q_37, .inl (cA_38, 6, .inr (.inr (.inr (.inr (va_up (va_up (va_up (fun _ => none) (0 : Int32).toNatClampNeg (some q_46)) (1 : Int32).toNatClampNeg (some q_50)) (2 : Int32).toNatClampNeg (some q_54))))))), (q_46, .inr (3, [.ref b_48, .int (-1)])), (q_50, .inr (3, [.ref b_52, .int (-1)])), (q_54, .inr (3, [.ref b_56, .int (-1)]))] _ := hP
  have hD : va_D A [(h0, .inr (4, [.int 2, .ref q_1, .ref q_4, .ref q_7, .ref q_10, .ref q_13, .ref q_16, .ref q_19, .ref q_22, .ref q_25, .ref q_28, .ref q_31, .ref q_34, .ref q_37, .ref q_39, .int 0, .ref q_41, .ref q_43])), (q_37, .inl (cA_38, 6, .inr (.inr (.inr (.inr (va_up (va_up (va_up (fun _ => none) (0 : Int32).toNatClampNeg (some q_46)) (1 : Int32).toNatClampNeg (some q_50)) (2 : Int32).toNatClampNeg (some q_54))))))), (q_46, .inr (3, [.ref b_48, .int (-1)])), (q_50, .inr (3, [.ref b_52, .int (-1)])), (q_54, .inr (3, [.ref b_56, .int (-1)]))] := hD
  refine lv_iinc (v := 3) (lv' := [(1, .int 3), (0, .ref h0)]) hx hb dX0_init_201 hl (k := 0) rfl (by decide) (by decide) rfl (fun ls hl => ?_)
  refine lv_goto (tgt := 182) hx hb dX0_init_204 (by decide) ?_
  refine lv_iload_n hx hb dX0_init_182 rfl (lv_at hl 0 rfl) ?_
  refine lv_bipush (v := 6) hx hb dX0_init_183 (by decide) ?_
  refine lv_icmp_ge (tgt := 207) hx hb dX0_init_185 (by decide) (fun c_57 => absurd c_57 (by decide)) (fun _ => ?_)
  refine lv_aload_n hx hb dX0_init_188 rfl (lv_at hl 1 rfl) ?_
  refine va_get (own := RX0) (D := D) (ci := 4) (v := .ref q_37) (C := RX0) (T := TX0) (N := 18) hx hb hts inF0 hown hK hP 0 rfl rfl 13 (by decide) (hg w1_111 rfl) (fun _ h9 => h9) rfl dX0_init_189 ?_
  refine lv_iload_n hx hb dX0_init_192 rfl (lv_at hl 0 rfl) ?_
  refine va_new (own := RX0) (ci := 3) (fs := [.null, .int 0]) (C := RX6) (T := TX6) (N := 2) hx hb hts inF6 tyX6 tyX6_ok hown (hg w1_82 rfl) (hg w1_83 rfl) (hg w1_4 rfl) hK hP hD hS hA rfl (by decide +kernel) (Nat.le_of_ble_eq_true rfl) (Nat.le_of_ble_eq_true rfl) dX0_init_193 (fun q_58 H hP hD hS => ?_)
  have hP : va_P D pv_cl [(h0, .inr (4, [.int 2, .ref q_1, .ref q_4, .ref q_7, .ref q_10, .ref q_13, .ref q_16, .ref q_19, .ref q_22, .ref q_25, .ref q_28, .ref q_31, .ref q_34, .ref q_37, .ref q_39, .int 0, .ref q_41, .ref q_43])), (q_37, .inl (cA_38, 6, .inr (.inr (.inr (.inr (va_up (va_up (va_up (fun _ => none) (0 : Int32).toNatClampNeg (some q_46)) (1 : Int32).toNatClampNeg (some q_50)) (2 : Int32).toNatClampNeg (some q_54))))))), (q_46, .inr (3, [.ref b_48, .int (-1)])), (q_50, .inr (3, [.ref b_52, .int (-1)])), (q_54, .inr (3, [.ref b_56, .int (-1)])), (q_58, .inr (3, [.null, .int 0]))] _ := hP
  have hD : va_D A [(h0, .inr (4, [.int 2, .ref q_1, .ref q_4, .ref q_7, .ref q_10, .ref q_13, .ref q_16, .ref q_19, .ref q_22, .ref q_25, .ref q_28, .ref q_31, .ref q_34, .ref q_37, .ref q_39, .int 0, .ref q_41, .ref q_43])), (q_37, .inl (cA_38, 6, .inr (.inr (.inr (.inr (va_up (va_up (va_up (fun _ => none) (0 : Int32).toNatClampNeg (some q_46)) (1 : Int32).toNatClampNeg (some q_50)) (2 : Int32).toNatClampNeg (some q_54))))))), (q_46, .inr (3, [.ref b_48, .int (-1)])), (q_50, .inr (3, [.ref b_52, .int (-1)])), (q_54, .inr (3, [.ref b_56, .int (-1)])), (q_58, .inr (3, [.null, .int 0]))] := hD
  refine W.widen (k := 35) (n := 4155) (Nat.le_of_ble_eq_true rfl) (Nat.le_of_ble_eq_true rfl) ?_
  refine lv_dup hx hb dX0_init_196 rfl ?_
  have hF := va_free (wc := [(q_58, .inr (3, [.null, .int 0]))]) hD hS hA [5] rfl
  refine va_callv (va_runIN (As := []) (rest := [.ref q_58, .int 3, .ref q_37]) ⟨hx, hb, hml, hown, hts⟩ (c_X6_init l hfl D _ q_58) ⟨(va_cnB 0 hts (pv_gC w1_86) rfl rfl rfl (hE.2.2.1 _ (pv_ib w1_84 rfl)) (hg w1_4 rfl) (by decide +kernel) ⟨Nat.le_of_ble_eq_true rfl, Nat.le_of_ble_eq_true rfl⟩), rfl, hg w1_85 rfl⟩ (pv_ps hE hS hF (hP.sub [5] rfl) (hK.sub [] rfl) (hD.sub [5] (by decide) rfl)) rfl rfl hl.1 rfl (lv_room (Nat.le_of_ble_eq_true rfl)) dX0_init_197 ⟨Nat.le_of_ble_eq_true rfl, Nat.le_of_ble_eq_true rfl⟩) hS (fun q _ h => hF q h) hF (fun u t H1 locs1 ht hvm hw hB hz1 hk1 hS => ?_)
  refine W.widen (k := 36) (n := 4187) (Nat.le_of_ble_eq_true rfl) (Nat.le_of_ble_eq_true rfl) ?_
  obtain ⟨b_60, hP1, hK1, hD1⟩ := hB
  rw [ht] at hP1
  have hK1 := va_K.moved hvm.symm hK1
  obtain ⟨hP, hD⟩ := va_join (wr := [(h0, .inr (4, [.int 2, .ref q_1, .ref q_4, .ref q_7, .ref q_10, .ref q_13, .ref q_16, .ref q_19, .ref q_22, .ref q_25, .ref q_28, .ref q_31, .ref q_34, .ref q_37, .ref q_39, .int 0, .ref q_41, .ref q_43])), (q_37, .inl (cA_38, 6, .inr (.inr (.inr (.inr (va_up (va_up (va_up (fun _ => none) (0 : Int32).toNatClampNeg (some q_46)) (1 : Int32).toNatClampNeg (some q_50)) (2 : Int32).toNatClampNeg (some q_54))))))), (q_46, .inr (3, [.ref b_48, .int (-1)])), (q_50, .inr (3, [.ref b_52, .int (-1)])), (q_54, .inr (3, [.ref b_56, .int (-1)]))]) (w1 := [(q_58, .inr (3, [.ref b_60, .int (-1)]))]) hP hD [5] [0, 1, 2, 3, 4] rfl rfl (by decide) (by decide) hk1 hF hP1 hD1
  have hP : va_P D pv_cl [(h0, .inr (4, [.int 2, .ref q_1, .ref q_4, .ref q_7, .ref q_10, .ref q_13, .ref q_16, .ref q_19, .ref q_22, .ref q_25, .ref q_28, .ref q_31, .ref q_34, .ref q_37, .ref q_39, .int 0, .ref q_41, .ref q_43])), (q_37, .inl (cA_38, 6, .inr (.inr (.inr (.inr (va_up (va_up (va_up (fun _ => none) (0 : Int32).toNatClampNeg (some q_46)) (1 : Int32).toNatClampNeg (some q_50)) (2 : Int32).toNatClampNeg (some q_54))))))), (q_46, .inr (3, [.ref b_48, .int (-1)])), (q_50, .inr (3, [.ref b_52, .int (-1)])), (q_54, .inr (3, [.ref b_56, .int (-1)])), (q_58, .inr (3, [.ref b_60, .int (-1)]))] _ := hP
  have hD : va_D A [(h0, .inr (4, [.int 2, .ref q_1, .ref q_4, .ref q_7, .ref q_10, .ref q_13, .ref q_16, .ref q_19, .ref q_22, .ref q_25, .ref q_28, .ref q_31, .ref q_34, .ref q_37, .ref q_39, .int 0, .ref q_41, .ref q_43])), (q_37, .inl (cA_38, 6, .inr (.inr (.inr (.inr (va_up (va_up (va_up (fun _ => none) (0 : Int32).toNatClampNeg (some q_46)) (1 : Int32).toNatClampNeg (some q_50)) (2 : Int32).toNatClampNeg (some q_54))))))), (q_46, .inr (3, [.ref b_48, .int (-1)])), (q_50, .inr (3, [.ref b_52, .int (-1)])), (q_54, .inr (3, [.ref b_56, .int (-1)])), (q_58, .inr (3, [.ref b_60, .int (-1)]))] := hD
  refine pv_pc 200 rfl ?_
  refine va_astq hx hb hK hP hD hS 1 0 5 3 rfl rfl rfl rfl (by unfold vp_in; decide) dX0_init_200 (fun H locs hP hD hS => ?_)
  have hP : va_P D pv_cl [(h0, .inr (4, [.int 2, .ref q_1, .ref q_4, .ref q_7, .ref q_10, .ref q_13, .ref q_16, .ref q_19, .ref q_22, .ref q_25, .ref q_28, .ref q_31, .ref q_34, .ref q_37, .ref q_39, .int 0, .ref q_41, .ref q_43])), (q_37, .inl (cA_38, 6, .inr (.inr (.inr (.inr (va_up (va_up (va_up (va_up (fun _ => none) (0 : Int32).toNatClampNeg (some q_46)) (1 : Int32).toNatClampNeg (some q_50)) (2 : Int32).toNatClampNeg (some q_54)) (3 : Int32).toNatClampNeg (some q_58))))))), (q_46, .inr (3, [.ref b_48, .int (-1)])), (q_50, .inr (3, [.ref b_52, .int (-1)])), (q_54, .inr (3, [.ref b_56, .int (-1)])), (q_58, .inr (3, [.ref b_60, .int (-1)]))] _ := hP
  have hD : va_D A [(h0, .inr (4, [.int 2, .ref q_1, .ref q_4, .ref q_7, .ref q_10, .ref q_13, .ref q_16, .ref q_19, .ref q_22, .ref q_25, .ref q_28, .ref q_31, .ref q_34, .ref q_37, .ref q_39, .int 0, .ref q_41, .ref q_43])), (q_37, .inl (cA_38, 6, .inr (.inr (.inr (.inr (va_up (va_up (va_up (va_up (fun _ => none) (0 : Int32).toNatClampNeg (some q_46)) (1 : Int32).toNatClampNeg (some q_50)) (2 : Int32).toNatClampNeg (some q_54)) (3 : Int32).toNatClampNeg (some q_58))))))), (q_46, .inr (3, [.ref b_48, .int (-1)])), (q_50, .inr (3, [.ref b_52, .int (-1)])), (q_54, .inr (3, [.ref b_56, .int (-1)])), (q_58, .inr (3, [.ref b_60, .int (-1)]))] := hD
  refine lv_iinc (v := 4) (lv' := [(1, .int 4), (0, .ref h0)]) hx hb dX0_init_201 hl (k := 0) rfl (by decide) (by decide) rfl (fun ls hl => ?_)
  refine lv_goto (tgt := 182) hx hb dX0_init_204 (by decide) ?_
  refine lv_iload_n hx hb dX0_init_182 rfl (lv_at hl 0 rfl) ?_
  refine lv_bipush (v := 6) hx hb dX0_init_183 (by decide) ?_
  refine lv_icmp_ge (tgt := 207) hx hb dX0_init_185 (by decide) (fun c_61 => absurd c_61 (by decide)) (fun _ => ?_)
  refine lv_aload_n hx hb dX0_init_188 rfl (lv_at hl 1 rfl) ?_
  refine va_get (own := RX0) (D := D) (ci := 4) (v := .ref q_37) (C := RX0) (T := TX0) (N := 18) hx hb hts inF0 hown hK hP 0 rfl rfl 13 (by decide) (hg w1_111 rfl) (fun _ h9 => h9) rfl dX0_init_189 ?_
  refine lv_iload_n hx hb dX0_init_192 rfl (lv_at hl 0 rfl) ?_
  refine va_new (own := RX0) (ci := 3) (fs := [.null, .int 0]) (C := RX6) (T := TX6) (N := 2) hx hb hts inF6 tyX6 tyX6_ok hown (hg w1_82 rfl) (hg w1_83 rfl) (hg w1_4 rfl) hK hP hD hS hA rfl (by decide +kernel) (Nat.le_of_ble_eq_true rfl) (Nat.le_of_ble_eq_true rfl) dX0_init_193 (fun q_62 H hP hD hS => ?_)
  have hP : va_P D pv_cl [(h0, .inr (4, [.int 2, .ref q_1, .ref q_4, .ref q_7, .ref q_10, .ref q_13, .ref q_16, .ref q_19, .ref q_22, .ref q_25, .ref q_28, .ref q_31, .ref q_34, .ref q_37, .ref q_39, .int 0, .ref q_41, .ref q_43])), (q_37, .inl (cA_38, 6, .inr (.inr (.inr (.inr (va_up (va_up (va_up (va_up (fun _ => none) (0 : Int32).toNatClampNeg (some q_46)) (1 : Int32).toNatClampNeg (some q_50)) (2 : Int32).toNatClampNeg (some q_54)) (3 : Int32).toNatClampNeg (some q_58))))))), (q_46, .inr (3, [.ref b_48, .int (-1)])), (q_50, .inr (3, [.ref b_52, .int (-1)])), (q_54, .inr (3, [.ref b_56, .int (-1)])), (q_58, .inr (3, [.ref b_60, .int (-1)])), (q_62, .inr (3, [.null, .int 0]))] _ := hP
  have hD : va_D A [(h0, .inr (4, [.int 2, .ref q_1, .ref q_4, .ref q_7, .ref q_10, .ref q_13, .ref q_16, .ref q_19, .ref q_22, .ref q_25, .ref q_28, .ref q_31, .ref q_34, .ref q_37, .ref q_39, .int 0, .ref q_41, .ref q_43])), (q_37, .inl (cA_38, 6, .inr (.inr (.inr (.inr (va_up (va_up (va_up (va_up (fun _ => none) (0 : Int32).toNatClampNeg (some q_46)) (1 : Int32).toNatClampNeg (some q_50)) (2 : Int32).toNatClampNeg (some q_54)) (3 : Int32).toNatClampNeg (some q_58))))))), (q_46, .inr (3, [.ref b_48, .int (-1)])), (q_50, .inr (3, [.ref b_52, .int (-1)])), (q_54, .inr (3, [.ref b_56, .int (-1)])), (q_58, .inr (3, [.ref b_60, .int (-1)])), (q_62, .inr (3, [.null, .int 0]))] := hD
  refine W.widen (k := 37) (n := 4189) (Nat.le_of_ble_eq_true rfl) (Nat.le_of_ble_eq_true rfl) ?_
  refine lv_dup hx hb dX0_init_196 rfl ?_
  have hF := va_free (wc := [(q_62, .inr (3, [.null, .int 0]))]) hD hS hA [6] rfl
  refine va_callv (va_runIN (As := []) (rest := [.ref q_62, .int 4, .ref q_37]) ⟨hx, hb, hml, hown, hts⟩ (c_X6_init l hfl D _ q_62) ⟨(va_cnB 0 hts (pv_gC w1_86) rfl rfl rfl (hE.2.2.1 _ (pv_ib w1_84 rfl)) (hg w1_4 rfl) (by decide +kernel) ⟨Nat.le_of_ble_eq_true rfl, Nat.le_of_ble_eq_true rfl⟩), rfl, hg w1_85 rfl⟩ (pv_ps hE hS hF (hP.sub [6] rfl) (hK.sub [] rfl) (hD.sub [6] (by decide) rfl)) rfl rfl hl.1 rfl (lv_room (Nat.le_of_ble_eq_true rfl)) dX0_init_197 ⟨Nat.le_of_ble_eq_true rfl, Nat.le_of_ble_eq_true rfl⟩) hS (fun q _ h => hF q h) hF (fun u t H1 locs1 ht hvm hw hB hz1 hk1 hS => ?_)
  refine W.widen (k := 38) (n := 4221) (Nat.le_of_ble_eq_true rfl) (Nat.le_of_ble_eq_true rfl) ?_
  obtain ⟨b_64, hP1, hK1, hD1⟩ := hB
  rw [ht] at hP1
  have hK1 := va_K.moved hvm.symm hK1
  obtain ⟨hP, hD⟩ := va_join (wr := [(h0, .inr (4, [.int 2, .ref q_1, .ref q_4, .ref q_7, .ref q_10, .ref q_13, .ref q_16, .ref q_19, .ref q_22, .ref q_25, .ref q_28, .ref q_31, .ref q_34, .ref q_37, .ref q_39, .int 0, .ref q_41, .ref q_43])), (q_37, .inl (cA_38, 6, .inr (.inr (.inr (.inr (va_up (va_up (va_up (va_up (fun _ => none) (0 : Int32).toNatClampNeg (some q_46)) (1 : Int32).toNatClampNeg (some q_50)) (2 : Int32).toNatClampNeg (some q_54)) (3 : Int32).toNatClampNeg (some q_58))))))), (q_46, .inr (3, [.ref b_48, .int (-1)])), (q_50, .inr (3, [.ref b_52, .int (-1)])), (q_54, .inr (3, [.ref b_56, .int (-1)])), (q_58, .inr (3, [.ref b_60, .int (-1)]))]) (w1 := [(q_62, .inr (3, [.ref b_64, .int (-1)]))]) hP hD [6] [0, 1, 2, 3, 4, 5] rfl rfl (by decide) (by decide) hk1 hF hP1 hD1
  have hP : va_P D pv_cl [(h0, .inr (4, [.int 2, .ref q_1, .ref q_4, .ref q_7, .ref q_10, .ref q_13, .ref q_16, .ref q_19, .ref q_22, .ref q_25, .ref q_28, .ref q_31, .ref q_34, .ref q_37, .ref q_39, .int 0, .ref q_41, .ref q_43])), (q_37, .inl (cA_38, 6, .inr (.inr (.inr (.inr (va_up (va_up (va_up (va_up (fun _ => none) (0 : Int32).toNatClampNeg (some q_46)) (1 : Int32).toNatClampNeg (some q_50)) (2 : Int32).toNatClampNeg (some q_54)) (3 : Int32).toNatClampNeg (some q_58))))))), (q_46, .inr (3, [.ref b_48, .int (-1)])), (q_50, .inr (3, [.ref b_52, .int (-1)])), (q_54, .inr (3, [.ref b_56, .int (-1)])), (q_58, .inr (3, [.ref b_60, .int (-1)])), (q_62, .inr (3, [.ref b_64, .int (-1)]))] _ := hP
  have hD : va_D A [(h0, .inr (4, [.int 2, .ref q_1, .ref q_4, .ref q_7, .ref q_10, .ref q_13, .ref q_16, .ref q_19, .ref q_22, .ref q_25, .ref q_28, .ref q_31, .ref q_34, .ref q_37, .ref q_39, .int 0, .ref q_41, .ref q_43])), (q_37, .inl (cA_38, 6, .inr (.inr (.inr (.inr (va_up (va_up (va_up (va_up (fun _ => none) (0 : Int32).toNatClampNeg (some q_46)) (1 : Int32).toNatClampNeg (some q_50)) (2 : Int32).toNatClampNeg (some q_54)) (3 : Int32).toNatClampNeg (some q_58))))))), (q_46, .inr (3, [.ref b_48, .int (-1)])), (q_50, .inr (3, [.ref b_52, .int (-1)])), (q_54, .inr (3, [.ref b_56, .int (-1)])), (q_58, .inr (3, [.ref b_60, .int (-1)])), (q_62, .inr (3, [.ref b_64, .int (-1)]))] := hD
  refine pv_pc 200 rfl ?_
  refine va_astq hx hb hK hP hD hS 1 0 6 3 rfl rfl rfl rfl (by unfold vp_in; decide) dX0_init_200 (fun H locs hP hD hS => ?_)
  have hP : va_P D pv_cl [(h0, .inr (4, [.int 2, .ref q_1, .ref q_4, .ref q_7, .ref q_10, .ref q_13, .ref q_16, .ref q_19, .ref q_22, .ref q_25, .ref q_28, .ref q_31, .ref q_34, .ref q_37, .ref q_39, .int 0, .ref q_41, .ref q_43])), (q_37, .inl (cA_38, 6, .inr (.inr (.inr (.inr (va_up (va_up (va_up (va_up (va_up (fun _ => none) (0 : Int32).toNatClampNeg (some q_46)) (1 : Int32).toNatClampNeg (some q_50)) (2 : Int32).toNatClampNeg (some q_54)) (3 : Int32).toNatClampNeg (some q_58)) (4 : Int32).toNatClampNeg (some q_62))))))), (q_46, .inr (3, [.ref b_48, .int (-1)])), (q_50, .inr (3, [.ref b_52, .int (-1)])), (q_54, .inr (3, [.ref b_56, .int (-1)])), (q_58, .inr (3, [.ref b_60, .int (-1)])), (q_62, .inr (3, [.ref b_64, .int (-1)]))] _ := hP
  have hD : va_D A [(h0, .inr (4, [.int 2, .ref q_1, .ref q_4, .ref q_7, .ref q_10, .ref q_13, .ref q_16, .ref q_19, .ref q_22, .ref q_25, .ref q_28, .ref q_31, .ref q_34, .ref q_37, .ref q_39, .int 0, .ref q_41, .ref q_43])), (q_37, .inl (cA_38, 6, .inr (.inr (.inr (.inr (va_up (va_up (va_up (va_up (va_up (fun _ => none) (0 : Int32).toNatClampNeg (some q_46)) (1 : Int32).toNatClampNeg (some q_50)) (2 : Int32).toNatClampNeg (some q_54)) (3 : Int32).toNatClampNeg (some q_58)) (4 : Int32).toNatClampNeg (some q_62))))))), (q_46, .inr (3, [.ref b_48, .int (-1)])), (q_50, .inr (3, [.ref b_52, .int (-1)])), (q_54, .inr (3, [.ref b_56, .int (-1)])), (q_58, .inr (3, [.ref b_60, .int (-1)])), (q_62, .inr (3, [.ref b_64, .int (-1)]))] := hD
  refine lv_iinc (v := 5) (lv' := [(1, .int 5), (0, .ref h0)]) hx hb dX0_init_201 hl (k := 0) rfl (by decide) (by decide) rfl (fun ls hl => ?_)
  refine lv_goto (tgt := 182) hx hb dX0_init_204 (by decide) ?_
  refine lv_iload_n hx hb dX0_init_182 rfl (lv_at hl 0 rfl) ?_
  refine lv_bipush (v := 6) hx hb dX0_init_183 (by decide) ?_
  refine lv_icmp_ge (tgt := 207) hx hb dX0_init_185 (by decide) (fun c_65 => absurd c_65 (by decide)) (fun _ => ?_)
  refine lv_aload_n hx hb dX0_init_188 rfl (lv_at hl 1 rfl) ?_
  refine va_get (own := RX0) (D := D) (ci := 4) (v := .ref q_37) (C := RX0) (T := TX0) (N := 18) hx hb hts inF0 hown hK hP 0 rfl rfl 13 (by decide) (hg w1_111 rfl) (fun _ h9 => h9) rfl dX0_init_189 ?_
  refine lv_iload_n hx hb dX0_init_192 rfl (lv_at hl 0 rfl) ?_
  refine va_new (own := RX0) (ci := 3) (fs := [.null, .int 0]) (C := RX6) (T := TX6) (N := 2) hx hb hts inF6 tyX6 tyX6_ok hown (hg w1_82 rfl) (hg w1_83 rfl) (hg w1_4 rfl) hK hP hD hS hA rfl (by decide +kernel) (Nat.le_of_ble_eq_true rfl) (Nat.le_of_ble_eq_true rfl) dX0_init_193 (fun q_66 H hP hD hS => ?_)
  have hP : va_P D pv_cl [(h0, .inr (4, [.int 2, .ref q_1, .ref q_4, .ref q_7, .ref q_10, .ref q_13, .ref q_16, .ref q_19, .ref q_22, .ref q_25, .ref q_28, .ref q_31, .ref q_34, .ref q_37, .ref q_39, .int 0, .ref q_41, .ref q_43])), (q_37, .inl (cA_38, 6, .inr (.inr (.inr (.inr (va_up (va_up (va_up (va_up (va_up (fun _ => none) (0 : Int32).toNatClampNeg (some q_46)) (1 : Int32).toNatClampNeg (some q_50)) (2 : Int32).toNatClampNeg (some q_54)) (3 : Int32).toNatClampNeg (some q_58)) (4 : Int32).toNatClampNeg (some q_62))))))), (q_46, .inr (3, [.ref b_48, .int (-1)])), (q_50, .inr (3, [.ref b_52, .int (-1)])), (q_54, .inr (3, [.ref b_56, .int (-1)])), (q_58, .inr (3, [.ref b_60, .int (-1)])), (q_62, .inr (3, [.ref b_64, .int (-1)])), (q_66, .inr (3, [.null, .int 0]))] _ := hP
  have hD : va_D A [(h0, .inr (4, [.int 2, .ref q_1, .ref q_4, .ref q_7, .ref q_10, .ref q_13, .ref q_16, .ref q_19, .ref q_22, .ref q_25, .ref q_28, .ref q_31, .ref q_34, .ref q_37, .ref q_39, .int 0, .ref q_41, .ref q_43])), (q_37, .inl (cA_38, 6, .inr (.inr (.inr (.inr (va_up (va_up (va_up (va_up (va_up (fun _ => none) (0 : Int32).toNatClampNeg (some q_46)) (1 : Int32).toNatClampNeg (some q_50)) (2 : Int32).toNatClampNeg (some q_54)) (3 : Int32).toNatClampNeg (some q_58)) (4 : Int32).toNatClampNeg (some q_62))))))), (q_46, .inr (3, [.ref b_48, .int (-1)])), (q_50, .inr (3, [.ref b_52, .int (-1)])), (q_54, .inr (3, [.ref b_56, .int (-1)])), (q_58, .inr (3, [.ref b_60, .int (-1)])), (q_62, .inr (3, [.ref b_64, .int (-1)])), (q_66, .inr (3, [.null, .int 0]))] := hD
  refine W.widen (k := 39) (n := 4223) (Nat.le_of_ble_eq_true rfl) (Nat.le_of_ble_eq_true rfl) ?_
  refine lv_dup hx hb dX0_init_196 rfl ?_
  have hF := va_free (wc := [(q_66, .inr (3, [.null, .int 0]))]) hD hS hA [7] rfl
  refine va_callv (va_runIN (As := []) (rest := [.ref q_66, .int 5, .ref q_37]) ⟨hx, hb, hml, hown, hts⟩ (c_X6_init l hfl D _ q_66) ⟨(va_cnB 0 hts (pv_gC w1_86) rfl rfl rfl (hE.2.2.1 _ (pv_ib w1_84 rfl)) (hg w1_4 rfl) (by decide +kernel) ⟨Nat.le_of_ble_eq_true rfl, Nat.le_of_ble_eq_true rfl⟩), rfl, hg w1_85 rfl⟩ (pv_ps hE hS hF (hP.sub [7] rfl) (hK.sub [] rfl) (hD.sub [7] (by decide) rfl)) rfl rfl hl.1 rfl (lv_room (Nat.le_of_ble_eq_true rfl)) dX0_init_197 ⟨Nat.le_of_ble_eq_true rfl, Nat.le_of_ble_eq_true rfl⟩) hS (fun q _ h => hF q h) hF (fun u t H1 locs1 ht hvm hw hB hz1 hk1 hS => ?_)
  refine W.widen (k := 40) (n := 4255) (Nat.le_of_ble_eq_true rfl) (Nat.le_of_ble_eq_true rfl) ?_
  obtain ⟨b_68, hP1, hK1, hD1⟩ := hB
  rw [ht] at hP1
  have hK1 := va_K.moved hvm.symm hK1
  obtain ⟨hP, hD⟩ := va_join (wr := [(h0, .inr (4, [.int 2, .ref q_1, .ref q_4, .ref q_7, .ref q_10, .ref q_13, .ref q_16, .ref q_19, .ref q_22, .ref q_25, .ref q_28, .ref q_31, .ref q_34, .ref q_37, .ref q_39, .int 0, .ref q_41, .ref q_43])), (q_37, .inl (cA_38, 6, .inr (.inr (.inr (.inr (va_up (va_up (va_up (va_up (va_up (fun _ => none) (0 : Int32).toNatClampNeg (some q_46)) (1 : Int32).toNatClampNeg (some q_50)) (2 : Int32).toNatClampNeg (some q_54)) (3 : Int32).toNatClampNeg (some q_58)) (4 : Int32).toNatClampNeg (some q_62))))))), (q_46, .inr (3, [.ref b_48, .int (-1)])), (q_50, .inr (3, [.ref b_52, .int (-1)])), (q_54, .inr (3, [.ref b_56, .int (-1)])), (q_58, .inr (3, [.ref b_60, .int (-1)])), (q_62, .inr (3, [.ref b_64, .int (-1)]))]) (w1 := [(q_66, .inr (3, [.ref b_68, .int (-1)]))]) hP hD [7] [0, 1, 2, 3, 4, 5, 6] rfl rfl (by decide) (by decide) hk1 hF hP1 hD1
  have hP : va_P D pv_cl [(h0, .inr (4, [.int 2, .ref q_1, .ref q_4, .ref q_7, .ref q_10, .ref q_13, .ref q_16, .ref q_19, .ref q_22, .ref q_25, .ref q_28, .ref q_31, .ref q_34, .ref q_37, .ref q_39, .int 0, .ref q_41, .ref q_43])), (q_37, .inl (cA_38, 6, .inr (.inr (.inr (.inr (va_up (va_up (va_up (va_up (va_up (fun _ => none) (0 : Int32).toNatClampNeg (some q_46)) (1 : Int32).toNatClampNeg (some q_50)) (2 : Int32).toNatClampNeg (some q_54)) (3 : Int32).toNatClampNeg (some q_58)) (4 : Int32).toNatClampNeg (some q_62))))))), (q_46, .inr (3, [.ref b_48, .int (-1)])), (q_50, .inr (3, [.ref b_52, .int (-1)])), (q_54, .inr (3, [.ref b_56, .int (-1)])), (q_58, .inr (3, [.ref b_60, .int (-1)])), (q_62, .inr (3, [.ref b_64, .int (-1)])), (q_66, .inr (3, [.ref b_68, .int (-1)]))] _ := hP
  have hD : va_D A [(h0, .inr (4, [.int 2, .ref q_1, .ref q_4, .ref q_7, .ref q_10, .ref q_13, .ref q_16, .ref q_19, .ref q_22, .ref q_25, .ref q_28, .ref q_31, .ref q_34, .ref q_37, .ref q_39, .int 0, .ref q_41, .ref q_43])), (q_37, .inl (cA_38, 6, .inr (.inr (.inr (.inr (va_up (va_up (va_up (va_up (va_up (fun _ => none) (0 : Int32).toNatClampNeg (some q_46)) (1 : Int32).toNatClampNeg (some q_50)) (2 : Int32).toNatClampNeg (some q_54)) (3 : Int32).toNatClampNeg (some q_58)) (4 : Int32).toNatClampNeg (some q_62))))))), (q_46, .inr (3, [.ref b_48, .int (-1)])), (q_50, .inr (3, [.ref b_52, .int (-1)])), (q_54, .inr (3, [.ref b_56, .int (-1)])), (q_58, .inr (3, [.ref b_60, .int (-1)])), (q_62, .inr (3, [.ref b_64, .int (-1)])), (q_66, .inr (3, [.ref b_68, .int (-1)]))] := hD
  refine pv_pc 200 rfl ?_
  refine va_astq hx hb hK hP hD hS 1 0 7 3 rfl rfl rfl rfl (by unfold vp_in; decide) dX0_init_200 (fun H locs hP hD hS => ?_)
  have hP : va_P D pv_cl [(h0, .inr (4, [.int 2, .ref q_1, .ref q_4, .ref q_7, .ref q_10, .ref q_13, .ref q_16, .ref q_19, .ref q_22, .ref q_25, .ref q_28, .ref q_31, .ref q_34, .ref q_37, .ref q_39, .int 0, .ref q_41, .ref q_43])), (q_37, .inl (cA_38, 6, .inr (.inr (.inr (.inr (va_up (va_up (va_up (va_up (va_up (va_up (fun _ => none) (0 : Int32).toNatClampNeg (some q_46)) (1 : Int32).toNatClampNeg (some q_50)) (2 : Int32).toNatClampNeg (some q_54)) (3 : Int32).toNatClampNeg (some q_58)) (4 : Int32).toNatClampNeg (some q_62)) (5 : Int32).toNatClampNeg (some q_66))))))), (q_46, .inr (3, [.ref b_48, .int (-1)])), (q_50, .inr (3, [.ref b_52, .int (-1)])), (q_54, .inr (3, [.ref b_56, .int (-1)])), (q_58, .inr (3, [.ref b_60, .int (-1)])), (q_62, .inr (3, [.ref b_64, .int (-1)])), (q_66, .inr (3, [.ref b_68, .int (-1)]))] _ := hP
  have hD : va_D A [(h0, .inr (4, [.int 2, .ref q_1, .ref q_4, .ref q_7, .ref q_10, .ref q_13, .ref q_16, .ref q_19, .ref q_22, .ref q_25, .ref q_28, .ref q_31, .ref q_34, .ref q_37, .ref q_39, .int 0, .ref q_41, .ref q_43])), (q_37, .inl (cA_38, 6, .inr (.inr (.inr (.inr (va_up (va_up (va_up (va_up (va_up (va_up (fun _ => none) (0 : Int32).toNatClampNeg (some q_46)) (1 : Int32).toNatClampNeg (some q_50)) (2 : Int32).toNatClampNeg (some q_54)) (3 : Int32).toNatClampNeg (some q_58)) (4 : Int32).toNatClampNeg (some q_62)) (5 : Int32).toNatClampNeg (some q_66))))))), (q_46, .inr (3, [.ref b_48, .int (-1)])), (q_50, .inr (3, [.ref b_52, .int (-1)])), (q_54, .inr (3, [.ref b_56, .int (-1)])), (q_58, .inr (3, [.ref b_60, .int (-1)])), (q_62, .inr (3, [.ref b_64, .int (-1)])), (q_66, .inr (3, [.ref b_68, .int (-1)]))] := hD
  refine lv_iinc (v := 6) (lv' := [(1, .int 6), (0, .ref h0)]) hx hb dX0_init_201 hl (k := 0) rfl (by decide) (by decide) rfl (fun ls hl => ?_)
  refine lv_goto (tgt := 182) hx hb dX0_init_204 (by decide) ?_
  refine lv_iload_n hx hb dX0_init_182 rfl (lv_at hl 0 rfl) ?_
  refine lv_bipush (v := 6) hx hb dX0_init_183 (by decide) ?_
  refine lv_icmp_ge (tgt := 207) hx hb dX0_init_185 (by decide) (fun _ => ?_) (fun c_69 => absurd (by decide) c_69)
  refine W.widen (k := 40) (n := 4255) (Nat.le_of_ble_eq_true rfl) (Nat.le_of_ble_eq_true rfl) ?_
  exact W.vret hx hb hr (fun t ht hW => ⟨⟨(), rfl, trivial, trivial⟩, hS.F ht⟩) hS.2.2 dX0_init_207

theorem dX10_init_0 : decode cX10_init 0 = .ok (.aload_n 0, 1) := by decide +kernel
theorem dX10_init_1 : decode cX10_init 1 = .ok (.invokespecial 3, 3) := by decide +kernel
theorem w1_220 : (Jvm.Cond.methodLink "Polyforge$Stock" (3 : Nat) ({ cls := "java/lang/Object", name := "<init>", desc := "()V" } : Jvm.MethodName)) ∈ lw_tbl := pv_t1 (pv_mg 220 rfl)
theorem dX10_init_4 : decode cX10_init 4 = .ok (.aload_n 0, 1) := by decide +kernel
theorem dX10_init_5 : decode cX10_init 5 = .ok (.bipush 114, 2) := by decide +kernel
theorem dX10_init_7 : decode cX10_init 7 = .ok (.putfield 9, 3) := by decide +kernel
theorem w1_224 : (Jvm.Cond.fieldLink "Polyforge$Stock" (9 : Nat) "Polyforge$Stock" "order" "C") ∈ lw_tbl := pv_t1 (pv_mg 224 rfl)
theorem dX10_init_10 : decode cX10_init 10 = .ok (.aload_n 0, 1) := by decide +kernel
theorem dX10_init_11 : decode cX10_init 11 = .ok (.iconst 2, 1) := by decide +kernel
theorem dX10_init_12 : decode cX10_init 12 = .ok (.putfield 15, 3) := by decide +kernel
theorem w1_229 : (Jvm.Cond.fieldLink "Polyforge$Stock" (15 : Nat) "Polyforge$Stock" "prime" "I") ∈ lw_tbl := pv_t1 (pv_mg 229 rfl)
theorem dX10_init_15 : decode cX10_init 15 = .ok (.aload_n 0, 1) := by decide +kernel
theorem dX10_init_16 : decode cX10_init 16 = .ok (.iconst 0, 1) := by decide +kernel
theorem dX10_init_17 : decode cX10_init 17 = .ok (.putfield 19, 3) := by decide +kernel
theorem w1_236 : (Jvm.Cond.fieldLink "Polyforge$Stock" (19 : Nat) "Polyforge$Stock" "count" "I") ∈ lw_tbl := pv_t1 (pv_mg 236 rfl)
theorem dX10_init_20 : decode cX10_init 20 = .ok (.aload_n 0, 1) := by decide +kernel
theorem dX10_init_21 : decode cX10_init 21 = .ok (.iload_n 2, 1) := by decide +kernel
theorem dX10_init_22 : decode cX10_init 22 = .ok (.iconst 1, 1) := by decide +kernel
theorem dX10_init_23 : decode cX10_init 23 = .ok (.invokestatic 22, 3) := by decide +kernel
theorem w1_221 : (Jvm.Cond.methodLink "Polyforge$Stock" (22 : Nat) ({ cls := "java/lang/Math", name := "max", desc := "(II)I" } : Jvm.MethodName)) ∈ lw_tbl := pv_t1 (pv_mg 221 rfl)
theorem dX10_init_26 : decode cX10_init 26 = .ok (.newarray .long, 2) := by decide +kernel
theorem dX10_init_28 : decode cX10_init 28 = .ok (.putfield 28, 3) := by decide +kernel
theorem w1_231 : (Jvm.Cond.fieldLink "Polyforge$Stock" (28 : Nat) "Polyforge$Stock" "packed" "[J") ∈ lw_tbl := pv_t1 (pv_mg 231 rfl)
theorem dX10_init_31 : decode cX10_init 31 = .ok (.aload_n 0, 1) := by decide +kernel
theorem dX10_init_32 : decode cX10_init 32 = .ok (.iload_n 1, 1) := by decide +kernel
theorem dX10_init_33 : decode cX10_init 33 = .ok (.iconst 0, 1) := by decide +kernel
theorem dX10_init_34 : decode cX10_init 34 = .ok (.invokestatic 22, 3) := by decide +kernel
theorem dX10_init_37 : decode cX10_init 37 = .ok (.iconst 1, 1) := by decide +kernel
theorem dX10_init_38 : decode cX10_init 38 = .ok (.iadd, 1) := by decide +kernel
theorem dX10_init_39 : decode cX10_init 39 = .ok (.newarray .int, 2) := by decide +kernel
theorem dX10_init_41 : decode cX10_init 41 = .ok (.putfield 32, 3) := by decide +kernel
theorem w1_233 : (Jvm.Cond.fieldLink "Polyforge$Stock" (32 : Nat) "Polyforge$Stock" "starts" "[I") ∈ lw_tbl := pv_t1 (pv_mg 233 rfl)
theorem dX10_init_44 : decode cX10_init 44 = .ok (.aload_n 0, 1) := by decide +kernel
theorem dX10_init_45 : decode cX10_init 45 = .ok (.iconst 4, 1) := by decide +kernel
theorem dX10_init_46 : decode cX10_init 46 = .ok (.iload_n 1, 1) := by decide +kernel
theorem dX10_init_47 : decode cX10_init 47 = .ok (.iconst 0, 1) := by decide +kernel
theorem dX10_init_48 : decode cX10_init 48 = .ok (.invokestatic 22, 3) := by decide +kernel
theorem dX10_init_51 : decode cX10_init 51 = .ok (.imul, 1) := by decide +kernel
theorem dX10_init_52 : decode cX10_init 52 = .ok (.newarray .int, 2) := by decide +kernel
theorem dX10_init_54 : decode cX10_init 54 = .ok (.putfield 36, 3) := by decide +kernel
theorem w1_234 : (Jvm.Cond.fieldLink "Polyforge$Stock" (36 : Nat) "Polyforge$Stock" "leads" "[I") ∈ lw_tbl := pv_t1 (pv_mg 234 rfl)
theorem dX10_init_57 : decode cX10_init 57 = .ok (.aload_n 0, 1) := by decide +kernel
theorem dX10_init_58 : decode cX10_init 58 = .ok (.iload_n 1, 1) := by decide +kernel
theorem dX10_init_59 : decode cX10_init 59 = .ok (.iconst 0, 1) := by decide +kernel
theorem dX10_init_60 : decode cX10_init 60 = .ok (.invokestatic 22, 3) := by decide +kernel
theorem dX10_init_63 : decode cX10_init 63 = .ok (.newarray .int, 2) := by decide +kernel
theorem dX10_init_65 : decode cX10_init 65 = .ok (.putfield 39, 3) := by decide +kernel
theorem w1_235 : (Jvm.Cond.fieldLink "Polyforge$Stock" (39 : Nat) "Polyforge$Stock" "gone" "[I") ∈ lw_tbl := pv_t1 (pv_mg 235 rfl)
theorem dX10_init_68 : decode cX10_init 68 = .ok (.return_, 1) := by decide +kernel
set_option maxHeartbeats 4000000 in
set_option maxRecDepth 100000 in
/-- a new Polyforge$Stock -/
theorem c_X10_init (l : Launch) (hfl : l.stackTraces = false) (D : va_G) (sz : Nat) (h0 : Nat) : Met l yX10_init (Cond.code yX10_init cX10_init 3 none :: pv_W) ({ frames := 1, cells := 4, slots := 353, locals := 40 } : Room) (va_Pc [.ref h0, .int 16, .int 256] (pv_P D [] [(h0, .inr (7, [.int 0, .int 0, .null, .null, .null, .null, .int 0]))] (va_A [(h0, .inr (7, [.int 0, .int 0, .null, .null, .null, .null, .int 0]))] sz) sz)) (va_Qv (fun (_ : Unit) => True) (fun _ _ => True) (va_A [(h0, .inr (7, [.int 0, .int 0, .null, .null, .null, .null, .int 0]))] sz)) 4 353 (va_A [(h0, .inr (7, [.int 0, .int 0, .null, .null, .null, .null, .int 0]))] sz) := by
  refine Met.ofW (cc := cX10_init) (maxL := 3) (ret := none) (by decide) rfl ?_
  intro p e s m args below meth c s₁ B hml hv
  obtain ⟨rfl, hsz, hE, hP, hK, hD0⟩ := hv
  have hx := B.exec
  have hb := B.bytes
  have hr := B.returns
  have hts := fun (w : Cond) (h : w ∈ pv_W) => atoms_spec (ws := Cond.code yX10_init cX10_init 3 none :: pv_W) B.pre w (List.mem_cons_of_mem _ h)
  have hg := fun {w : Cond} (h : w ∈ lw_tbl) (g : goodWord w = true) => hts w (pv_in h g)
  have hown : s.vm.findClass RX10 = some m.cls := findClass_of_methodNamed B.named
  have hlocks := B.notSynchronized
  have hin : meth.name = "<init>" := (name_of_methodNamed B.named B.method).1
  subst hsz
  have hD := hD0.self (sz := s.heap.size)
  generalize hAe : va_A [(h0, .inr (7, [.int 0, .int 0, .null, .null, .null, .null, .int 0]))] s.heap.size = A at hD hE ⊢
  have hA : ∀ q : Nat, s.heap.size ≤ q → A q := fun q h => by rw [← hAe]; exact Or.inr h
  have hS : va_S A s.heap s.heap [] := va_S.rf
  have hP : va_P D pv_cl [(h0, .inr (7, [.int 0, .int 0, .null, .null, .null, .null, .int 0]))] s.heap := hP
  have hl := lv_entry ([.ref h0, .int 16, .int 256]) (n := 3) (Nat.le_of_ble_eq_true rfl)
  rw [lg_entry_eq]
  generalize (lg_sl ([.ref h0, .int 16, .int 256]) ++ List.replicate (3 - (lg_sl ([.ref h0, .int 16, .int 256])).length) Slot.unset).toArray = ls at hl ⊢
  have hl : lv_has ls 3 [(0, .ref h0), (1, .int 16), (2, .int 256)] := hl
  refine lv_aload_n hx hb dX10_init_0 rfl (lv_at hl 0 rfl) ?_
  refine W.objInit (own := RX10) hx hb hown (hg w1_220 rfl) (hg w1_36 rfl) (hg w1_37 rfl) rfl (hl.1.trans hml.symm) (rest := []) rfl dX10_init_1 (Nat.le_of_ble_eq_true rfl) (Nat.le_of_ble_eq_true rfl) ?_
  refine lv_aload_n hx hb dX10_init_4 rfl (lv_at hl 0 rfl) ?_
  refine lv_bipush (v := 114) hx hb dX10_init_5 (by decide) ?_
  refine va_put (own := RX10) (D := D) (ci := 7) (v := .int 114) (ty := .char) (C := RX10) (T := TX10) (N := 7) hx hb hts inF10 tyX10 tyX10_ok nmX10 hown hK hP hD hS 0 rfl rfl 0 (by decide) (hg w1_224 rfl) (fun _ h9 => h9) rfl (by decide +kernel) rfl rfl (Nat.le_of_ble_eq_true rfl) dX10_init_7 (fun H locs hP hD hS => ?_)
  have hP : va_P D pv_cl [(h0, .inr (7, [.int 114, .int 0, .null, .null, .null, .null, .int 0]))] _ := hP
  have hD : va_D A [(h0, .inr (7, [.int 114, .int 0, .null, .null, .null, .null, .int 0]))] := hD
  refine lv_aload_n hx hb dX10_init_10 rfl (lv_at hl 0 rfl) ?_
  refine lv_iconst (v := 2) hx hb dX10_init_11 (by decide) ?_
  refine va_put (own := RX10) (D := D) (ci := 7) (v := .int 2) (ty := .int) (C := RX10) (T := TX10) (N := 7) hx hb hts inF10 tyX10 tyX10_ok nmX10 hown hK hP hD hS 0 rfl rfl 1 (by decide) (hg w1_229 rfl) (fun _ h9 => h9) rfl (by decide +kernel) rfl rfl (Nat.le_of_ble_eq_true rfl) dX10_init_12 (fun H locs hP hD hS => ?_)
  have hP : va_P D pv_cl [(h0, .inr (7, [.int 114, .int 2, .null, .null, .null, .null, .int 0]))] _ := hP
  have hD : va_D A [(h0, .inr (7, [.int 114, .int 2, .null, .null, .null, .null, .int 0]))] := hD
  refine lv_aload_n hx hb dX10_init_15 rfl (lv_at hl 0 rfl) ?_
  refine lv_iconst (v := 0) hx hb dX10_init_16 (by decide) ?_
  refine va_put (own := RX10) (D := D) (ci := 7) (v := .int 0) (ty := .int) (C := RX10) (T := TX10) (N := 7) hx hb hts inF10 tyX10 tyX10_ok nmX10 hown hK hP hD hS 0 rfl rfl 6 (by decide) (hg w1_236 rfl) (fun _ h9 => h9) rfl (by decide +kernel) rfl rfl (Nat.le_of_ble_eq_true rfl) dX10_init_17 (fun H locs hP hD hS => ?_)
  have hP : va_P D pv_cl [(h0, .inr (7, [.int 114, .int 2, .null, .null, .null, .null, .int 0]))] _ := hP
  have hD : va_D A [(h0, .inr (7, [.int 114, .int 2, .null, .null, .null, .null, .int 0]))] := hD
  refine pv_pc 20 rfl ?_
  refine lv_aload_n hx hb dX10_init_20 rfl (lv_at hl 0 rfl) ?_
  refine lv_iload_n hx hb dX10_init_21 rfl (lv_at hl 2 rfl) ?_
  refine lv_iconst (v := 1) hx hb dX10_init_22 (by decide) ?_
  refine va_mmax (own := RX10) hx hb (hml.trans hl.1.symm) hown (hg w1_221 rfl) (hg w1_222 rfl) (hg w1_9 rfl) (hg w1_223 rfl) (Nat.le_of_ble_eq_true rfl) (Nat.le_of_ble_eq_true rfl) (Nat.le_of_ble_eq_true rfl) (Nat.le_of_ble_eq_true rfl) dX10_init_23 ?_
  refine pv_setI 256 (by decide) ?_
  refine va_newa (atype := .long) hx hb (hg w1_75 rfl) (ty := .long) rfl hK hP hD hS hA (a0 := (256, .inr (.inl (fun _ => 0)))) (fun _ => rfl) (by decide) (by decide +kernel) (Nat.le_of_ble_eq_true rfl) (Nat.le_of_ble_eq_true rfl) (Nat.le_of_ble_eq_true rfl) dX10_init_26 (fun q_1 cA_2 H hK hP hD hS => ?_)
  have hP : va_P D pv_cl [(h0, .inr (7, [.int 114, .int 2, .null, .null, .null, .null, .int 0])), (q_1, .inl (cA_2, 256, .inr (.inl (fun _ => 0))))] _ := hP
  have hD : va_D A [(h0, .inr (7, [.int 114, .int 2, .null, .null, .null, .null, .int 0])), (q_1, .inl (cA_2, 256, .inr (.inl (fun _ => 0))))] := hD
  have hK : va_K D pv_cl [(cA_2, .long)] s := hK
  refine W.widen (k := 1) (n := 256) (Nat.le_of_ble_eq_true rfl) (Nat.le_of_ble_eq_true rfl) ?_
  refine va_put (own := RX10) (D := D) (ci := 7) (v := .ref q_1) (ty := .array .long) (C := RX10) (T := TX10) (N := 7) hx hb hts inF10 tyX10 tyX10_ok nmX10 hown hK hP hD hS 0 rfl rfl 2 (by decide) (hg w1_231 rfl) (fun _ h9 => h9) rfl (by decide +kernel) rfl rfl (Nat.le_of_ble_eq_true rfl) dX10_init_28 (fun H locs hP hD hS => ?_)
  have hP : va_P D pv_cl [(h0, .inr (7, [.int 114, .int 2, .ref q_1, .null, .null, .null, .int 0])), (q_1, .inl (cA_2, 256, .inr (.inl (fun _ => 0))))] _ := hP
  have hD : va_D A [(h0, .inr (7, [.int 114, .int 2, .ref q_1, .null, .null, .null, .int 0])), (q_1, .inl (cA_2, 256, .inr (.inl (fun _ => 0))))] := hD
  have hP : va_P D pv_cl [(h0, .inr (7, [.int 114, .int 2, .ref q_1, .null, .null, .null, .int 0]))] _ := hP.sub [0] rfl
  have hD : va_D A [(h0, .inr (7, [.int 114, .int 2, .ref q_1, .null, .null, .null, .int 0]))] := hD.sub [0] (by decide) rfl
  have hK : va_K D pv_cl [] s := hK.sub [] rfl
  refine lv_aload_n hx hb dX10_init_31 rfl (lv_at hl 0 rfl) ?_
  refine lv_iload_n hx hb dX10_init_32 rfl (lv_at hl 1 rfl) ?_
  refine lv_iconst (v := 0) hx hb dX10_init_33 (by decide) ?_
  refine va_mmax (own := RX10) hx hb (hml.trans hl.1.symm) hown (hg w1_221 rfl) (hg w1_222 rfl) (hg w1_9 rfl) (hg w1_223 rfl) (Nat.le_of_ble_eq_true rfl) (Nat.le_of_ble_eq_true rfl) (Nat.le_of_ble_eq_true rfl) (Nat.le_of_ble_eq_true rfl) dX10_init_34 ?_
  refine pv_setI 16 (by decide) ?_
  refine lv_iconst (v := 1) hx hb dX10_init_37 (by decide) ?_
  refine lv_iadd hx hb dX10_init_38 ?_
  refine pv_setI 17 (by decide) ?_
  refine pv_pc 39 rfl ?_
  refine va_newa (atype := .int) hx hb (hg w1_74 rfl) (ty := .int) rfl hK hP hD hS hA (a0 := (17, .inl (fun _ => 0))) (fun _ => rfl) (by decide) (by decide +kernel) (Nat.le_of_ble_eq_true rfl) (Nat.le_of_ble_eq_true rfl) (Nat.le_of_ble_eq_true rfl) dX10_init_39 (fun q_3 cA_4 H hK hP hD hS => ?_)
  have hP : va_P D pv_cl [(h0, .inr (7, [.int 114, .int 2, .ref q_1, .null, .null, .null, .int 0])), (q_3, .inl (cA_4, 17, .inl (fun _ => 0)))] _ := hP
  have hD : va_D A [(h0, .inr (7, [.int 114, .int 2, .ref q_1, .null, .null, .null, .int 0])), (q_3, .inl (cA_4, 17, .inl (fun _ => 0)))] := hD
  have hK : va_K D pv_cl [(cA_4, .int)] s := hK
  refine W.widen (k := 2) (n := 273) (Nat.le_of_ble_eq_true rfl) (Nat.le_of_ble_eq_true rfl) ?_
  refine va_put (own := RX10) (D := D) (ci := 7) (v := .ref q_3) (ty := .array .int) (C := RX10) (T := TX10) (N := 7) hx hb hts inF10 tyX10 tyX10_ok nmX10 hown hK hP hD hS 0 rfl rfl 3 (by decide) (hg w1_233 rfl) (fun _ h9 => h9) rfl (by decide +kernel) rfl rfl (Nat.le_of_ble_eq_true rfl) dX10_init_41 (fun H locs hP hD hS => ?_)
  have hP : va_P D pv_cl [(h0, .inr (7, [.int 114, .int 2, .ref q_1, .ref q_3, .null, .null, .int 0])), (q_3, .inl (cA_4, 17, .inl (fun _ => 0)))] _ := hP
  have hD : va_D A [(h0, .inr (7, [.int 114, .int 2, .ref q_1, .ref q_3, .null, .null, .int 0])), (q_3, .inl (cA_4, 17, .inl (fun _ => 0)))] := hD
  have hP : va_P D pv_cl [(h0, .inr (7, [.int 114, .int 2, .ref q_1, .ref q_3, .null, .null, .int 0]))] _ := hP.sub [0] rfl
  have hD : va_D A [(h0, .inr (7, [.int 114, .int 2, .ref q_1, .ref q_3, .null, .null, .int 0]))] := hD.sub [0] (by decide) rfl
  have hK : va_K D pv_cl [] s := hK.sub [] rfl
  refine lv_aload_n hx hb dX10_init_44 rfl (lv_at hl 0 rfl) ?_
  refine lv_iconst (v := 4) hx hb dX10_init_45 (by decide) ?_
  refine lv_iload_n hx hb dX10_init_46 rfl (lv_at hl 1 rfl) ?_
  refine lv_iconst (v := 0) hx hb dX10_init_47 (by decide) ?_
  refine va_mmax (own := RX10) hx hb (hml.trans hl.1.symm) hown (hg w1_221 rfl) (hg w1_222 rfl) (hg w1_9 rfl) (hg w1_223 rfl) (Nat.le_of_ble_eq_true rfl) (Nat.le_of_ble_eq_true rfl) (Nat.le_of_ble_eq_true rfl) (Nat.le_of_ble_eq_true rfl) dX10_init_48 ?_
  refine pv_setI 16 (by decide) ?_
  refine lv_imul hx hb dX10_init_51 ?_
  refine pv_setI 64 (by decide) ?_
  refine va_newa (atype := .int) hx hb (hg w1_74 rfl) (ty := .int) rfl hK hP hD hS hA (a0 := (64, .inl (fun _ => 0))) (fun _ => rfl) (by decide) (by decide +kernel) (Nat.le_of_ble_eq_true rfl) (Nat.le_of_ble_eq_true rfl) (Nat.le_of_ble_eq_true rfl) dX10_init_52 (fun q_5 cA_6 H hK hP hD hS => ?_)
  have hP : va_P D pv_cl [(h0, .inr (7, [.int 114, .int 2, .ref q_1, .ref q_3, .null, .null, .int 0])), (q_5, .inl (cA_6, 64, .inl (fun _ => 0)))] _ := hP
  have hD : va_D A [(h0, .inr (7, [.int 114, .int 2, .ref q_1, .ref q_3, .null, .null, .int 0])), (q_5, .inl (cA_6, 64, .inl (fun _ => 0)))] := hD
  have hK : va_K D pv_cl [(cA_6, .int)] s := hK
  refine W.widen (k := 3) (n := 337) (Nat.le_of_ble_eq_true rfl) (Nat.le_of_ble_eq_true rfl) ?_
  refine va_put (own := RX10) (D := D) (ci := 7) (v := .ref q_5) (ty := .array .int) (C := RX10) (T := TX10) (N := 7) hx hb hts inF10 tyX10 tyX10_ok nmX10 hown hK hP hD hS 0 rfl rfl 4 (by decide) (hg w1_234 rfl) (fun _ h9 => h9) rfl (by decide +kernel) rfl rfl (Nat.le_of_ble_eq_true rfl) dX10_init_54 (fun H locs hP hD hS => ?_)
  have hP : va_P D pv_cl [(h0, .inr (7, [.int 114, .int 2, .ref q_1, .ref q_3, .ref q_5, .null, .int 0])), (q_5, .inl (cA_6, 64, .inl (fun _ => 0)))] _ := hP
  have hD : va_D A [(h0, .inr (7, [.int 114, .int 2, .ref q_1, .ref q_3, .ref q_5, .null, .int 0])), (q_5, .inl (cA_6, 64, .inl (fun _ => 0)))] := hD
  have hP : va_P D pv_cl [(h0, .inr (7, [.int 114, .int 2, .ref q_1, .ref q_3, .ref q_5, .null, .int 0]))] _ := hP.sub [0] rfl
  have hD : va_D A [(h0, .inr (7, [.int 114, .int 2, .ref q_1, .ref q_3, .ref q_5, .null, .int 0]))] := hD.sub [0] (by decide) rfl
  have hK : va_K D pv_cl [] s := hK.sub [] rfl
  refine lv_aload_n hx hb dX10_init_57 rfl (lv_at hl 0 rfl) ?_
  refine lv_iload_n hx hb dX10_init_58 rfl (lv_at hl 1 rfl) ?_
  refine pv_pc 59 rfl ?_
  refine lv_iconst (v := 0) hx hb dX10_init_59 (by decide) ?_
  refine va_mmax (own := RX10) hx hb (hml.trans hl.1.symm) hown (hg w1_221 rfl) (hg w1_222 rfl) (hg w1_9 rfl) (hg w1_223 rfl) (Nat.le_of_ble_eq_true rfl) (Nat.le_of_ble_eq_true rfl) (Nat.le_of_ble_eq_true rfl) (Nat.le_of_ble_eq_true rfl) dX10_init_60 ?_
  refine pv_setI 16 (by decide) ?_
  refine va_newa (atype := .int) hx hb (hg w1_74 rfl) (ty := .int) rfl hK hP hD hS hA (a0 := (16, .inl (fun _ => 0))) (fun _ => rfl) (by decide) (by decide +kernel) (Nat.le_of_ble_eq_true rfl) (Nat.le_of_ble_eq_true rfl) (Nat.le_of_ble_eq_true rfl) dX10_init_63 (fun q_7 cA_8 H hK hP hD hS => ?_)
  have hP : va_P D pv_cl [(h0, .inr (7, [.int 114, .int 2, .ref q_1, .ref q_3, .ref q_5, .null, .int 0])), (q_7, .inl (cA_8, 16, .inl (fun _ => 0)))] _ := hP
  have hD : va_D A [(h0, .inr (7, [.int 114, .int 2, .ref q_1, .ref q_3, .ref q_5, .null, .int 0])), (q_7, .inl (cA_8, 16, .inl (fun _ => 0)))] := hD
  have hK : va_K D pv_cl [(cA_8, .int)] s := hK
  refine W.widen (k := 4) (n := 353) (Nat.le_of_ble_eq_true rfl) (Nat.le_of_ble_eq_true rfl) ?_
  refine va_put (own := RX10) (D := D) (ci := 7) (v := .ref q_7) (ty := .array .int) (C := RX10) (T := TX10) (N := 7) hx hb hts inF10 tyX10 tyX10_ok nmX10 hown hK hP hD hS 0 rfl rfl 5 (by decide) (hg w1_235 rfl) (fun _ h9 => h9) rfl (by decide +kernel) rfl rfl (Nat.le_of_ble_eq_true rfl) dX10_init_65 (fun H locs hP hD hS => ?_)
  have hP : va_P D pv_cl [(h0, .inr (7, [.int 114, .int 2, .ref q_1, .ref q_3, .ref q_5, .ref q_7, .int 0])), (q_7, .inl (cA_8, 16, .inl (fun _ => 0)))] _ := hP
  have hD : va_D A [(h0, .inr (7, [.int 114, .int 2, .ref q_1, .ref q_3, .ref q_5, .ref q_7, .int 0])), (q_7, .inl (cA_8, 16, .inl (fun _ => 0)))] := hD
  have hP : va_P D pv_cl [(h0, .inr (7, [.int 114, .int 2, .ref q_1, .ref q_3, .ref q_5, .ref q_7, .int 0]))] _ := hP.sub [0] rfl
  have hD : va_D A [(h0, .inr (7, [.int 114, .int 2, .ref q_1, .ref q_3, .ref q_5, .ref q_7, .int 0]))] := hD.sub [0] (by decide) rfl
  have hK : va_K D pv_cl [] s := hK.sub [] rfl
  refine W.widen (k := 4) (n := 353) (Nat.le_of_ble_eq_true rfl) (Nat.le_of_ble_eq_true rfl) ?_
  exact W.vret hx hb hr (fun t ht hW => ⟨⟨(), rfl, trivial, trivial⟩, hS.F ht⟩) hS.2.2 dX10_init_68

theorem dX1_init_0 : decode cX1_init 0 = .ok (.aload_n 0, 1) := by decide +kernel
theorem dX1_init_1 : decode cX1_init 1 = .ok (.invokespecial 1, 3) := by decide +kernel
theorem w1_171 : (Jvm.Cond.methodLink "Polyforge$Buckets" (1 : Nat) ({ cls := "java/lang/Object", name := "<init>", desc := "()V" } : Jvm.MethodName)) ∈ lw_tbl := pv_t1 (pv_mg 171 rfl)
theorem dX1_init_4 : decode cX1_init 4 = .ok (.aload_n 0, 1) := by decide +kernel
theorem dX1_init_5 : decode cX1_init 5 = .ok (.iconst 2, 1) := by decide +kernel
theorem dX1_init_6 : decode cX1_init 6 = .ok (.putfield 7, 3) := by decide +kernel
theorem w1_174 : (Jvm.Cond.fieldLink "Polyforge$Buckets" (7 : Nat) "Polyforge$Buckets" "prime" "I") ∈ lw_tbl := pv_t1 (pv_mg 174 rfl)
theorem dX1_init_9 : decode cX1_init 9 = .ok (.aload_n 0, 1) := by decide +kernel
theorem dX1_init_10 : decode cX1_init 10 = .ok (.bipush 9, 2) := by decide +kernel
theorem dX1_init_12 : decode cX1_init 12 = .ok (.iconst 0, 1) := by decide +kernel
theorem dX1_init_13 : decode cX1_init 13 = .ok (.multianewarray 13 2, 4) := by decide +kernel
theorem w1_172 : (Jvm.Cond.classLink "Polyforge$Buckets" (13 : Nat) "[[J") ∈ lw_tbl := pv_t1 (pv_mg 172 rfl)
theorem dX1_init_17 : decode cX1_init 17 = .ok (.putfield 15, 3) := by decide +kernel
theorem w1_175 : (Jvm.Cond.fieldLink "Polyforge$Buckets" (15 : Nat) "Polyforge$Buckets" "rows" "[[J") ∈ lw_tbl := pv_t1 (pv_mg 175 rfl)
theorem dX1_init_20 : decode cX1_init 20 = .ok (.aload_n 0, 1) := by decide +kernel
theorem dX1_init_21 : decode cX1_init 21 = .ok (.bipush 9, 2) := by decide +kernel
theorem dX1_init_23 : decode cX1_init 23 = .ok (.newarray .int, 2) := by decide +kernel
theorem dX1_init_25 : decode cX1_init 25 = .ok (.putfield 18, 3) := by decide +kernel
theorem w1_176 : (Jvm.Cond.fieldLink "Polyforge$Buckets" (18 : Nat) "Polyforge$Buckets" "heads" "[I") ∈ lw_tbl := pv_t1 (pv_mg 176 rfl)
theorem dX1_init_28 : decode cX1_init 28 = .ok (.aload_n 0, 1) := by decide +kernel
theorem dX1_init_29 : decode cX1_init 29 = .ok (.bipush 9, 2) := by decide +kernel
theorem dX1_init_31 : decode cX1_init 31 = .ok (.newarray .int, 2) := by decide +kernel
theorem dX1_init_33 : decode cX1_init 33 = .ok (.putfield 22, 3) := by decide +kernel
theorem w1_177 : (Jvm.Cond.fieldLink "Polyforge$Buckets" (22 : Nat) "Polyforge$Buckets" "ends" "[I") ∈ lw_tbl := pv_t1 (pv_mg 177 rfl)
theorem dX1_init_36 : decode cX1_init 36 = .ok (.aload_n 0, 1) := by decide +kernel
theorem dX1_init_37 : decode cX1_init 37 = .ok (.bipush 64, 2) := by decide +kernel
theorem dX1_init_39 : decode cX1_init 39 = .ok (.newarray .long, 2) := by decide +kernel
theorem dX1_init_41 : decode cX1_init 41 = .ok (.putfield 25, 3) := by decide +kernel
theorem w1_178 : (Jvm.Cond.fieldLink "Polyforge$Buckets" (25 : Nat) "Polyforge$Buckets" "merged" "[J") ∈ lw_tbl := pv_t1 (pv_mg 178 rfl)
theorem dX1_init_44 : decode cX1_init 44 = .ok (.aload_n 0, 1) := by decide +kernel
theorem dX1_init_45 : decode cX1_init 45 = .ok (.bipush 64, 2) := by decide +kernel
theorem dX1_init_47 : decode cX1_init 47 = .ok (.newarray .long, 2) := by decide +kernel
theorem dX1_init_49 : decode cX1_init 49 = .ok (.putfield 29, 3) := by decide +kernel
theorem w1_179 : (Jvm.Cond.fieldLink "Polyforge$Buckets" (29 : Nat) "Polyforge$Buckets" "carried" "[J") ∈ lw_tbl := pv_t1 (pv_mg 179 rfl)
theorem dX1_init_52 : decode cX1_init 52 = .ok (.aload_n 0, 1) := by decide +kernel
theorem dX1_init_53 : decode cX1_init 53 = .ok (.iconst 0, 1) := by decide +kernel
theorem dX1_init_54 : decode cX1_init 54 = .ok (.putfield 32, 3) := by decide +kernel
theorem w1_180 : (Jvm.Cond.fieldLink "Polyforge$Buckets" (32 : Nat) "Polyforge$Buckets" "mergedCount" "I") ∈ lw_tbl := pv_t1 (pv_mg 180 rfl)
theorem dX1_init_57 : decode cX1_init 57 = .ok (.return_, 1) := by decide +kernel
set_option maxHeartbeats 4000000 in
set_option maxRecDepth 100000 in
/-- a new Polyforge$Buckets -/
theorem c_X1_init (l : Launch) (hfl : l.stackTraces = false) (D : va_G) (sz : Nat) (h0 : Nat) : Met l yX1_init (Cond.code yX1_init cX1_init 1 none :: pv_W) ({ frames := 1, cells := 14, slots := 155, locals := 40 } : Room) (va_Pc [.ref h0] (pv_P D [] [(h0, .inr (8, [.int 0, .null, .null, .null, .null, .null, .int 0]))] (va_A [(h0, .inr (8, [.int 0, .null, .null, .null, .null, .null, .int 0]))] sz) sz)) (va_Qv (fun (_ : Unit) => True) (fun _ _ => True) (va_A [(h0, .inr (8, [.int 0, .null, .null, .null, .null, .null, .int 0]))] sz)) 14 155 (va_A [(h0, .inr (8, [.int 0, .null, .null, .null, .null, .null, .int 0]))] sz) := by
  refine Met.ofW (cc := cX1_init) (maxL := 1) (ret := none) (by decide) rfl ?_
  intro p e s m args below meth c s₁ B hml hv
  obtain ⟨rfl, hsz, hE, hP, hK, hD0⟩ := hv
  have hx := B.exec
  have hb := B.bytes
  have hr := B.returns
  have hts := fun (w : Cond) (h : w ∈ pv_W) => atoms_spec (ws := Cond.code yX1_init cX1_init 1 none :: pv_W) B.pre w (List.mem_cons_of_mem _ h)
  have hg := fun {w : Cond} (h : w ∈ lw_tbl) (g : goodWord w = true) => hts w (pv_in h g)
  have hown : s.vm.findClass RX1 = some m.cls := findClass_of_methodNamed B.named
  have hlocks := B.notSynchronized
  have hin : meth.name = "<init>" := (name_of_methodNamed B.named B.method).1
  subst hsz
  have hD := hD0.self (sz := s.heap.size)
  generalize hAe : va_A [(h0, .inr (8, [.int 0, .null, .null, .null, .null, .null, .int 0]))] s.heap.size = A at hD hE ⊢
  have hA : ∀ q : Nat, s.heap.size ≤ q → A q := fun q h => by rw [← hAe]; exact Or.inr h
  have hS : va_S A s.heap s.heap [] := va_S.rf
  have hP : va_P D pv_cl [(h0, .inr (8, [.int 0, .null, .null, .null, .null, .null, .int 0]))] s.heap := hP
  have hl := lv_entry ([.ref h0]) (n := 1) (Nat.le_of_ble_eq_true rfl)
  rw [lg_entry_eq]
  generalize (lg_sl ([.ref h0]) ++ List.replicate (1 - (lg_sl ([.ref h0])).length) Slot.unset).toArray = ls at hl ⊢
  have hl : lv_has ls 1 [(0, .ref h0)] := hl
  refine lv_aload_n hx hb dX1_init_0 rfl (lv_at hl 0 rfl) ?_
  refine W.objInit (own := RX1) hx hb hown (hg w1_171 rfl) (hg w1_36 rfl) (hg w1_37 rfl) rfl (hl.1.trans hml.symm) (rest := []) rfl dX1_init_1 (Nat.le_of_ble_eq_true rfl) (Nat.le_of_ble_eq_true rfl) ?_
  refine lv_aload_n hx hb dX1_init_4 rfl (lv_at hl 0 rfl) ?_
  refine lv_iconst (v := 2) hx hb dX1_init_5 (by decide) ?_
  refine va_put (own := RX1) (D := D) (ci := 8) (v := .int 2) (ty := .int) (C := RX1) (T := TX1) (N := 7) hx hb hts inF1 tyX1 tyX1_ok nmX1 hown hK hP hD hS 0 rfl rfl 0 (by decide) (hg w1_174 rfl) (fun _ h9 => h9) rfl (by decide +kernel) rfl rfl (Nat.le_of_ble_eq_true rfl) dX1_init_6 (fun H locs hP hD hS => ?_)
  have hP : va_P D pv_cl [(h0, .inr (8, [.int 2, .null, .null, .null, .null, .null, .int 0]))] _ := hP
  have hD : va_D A [(h0, .inr (8, [.int 2, .null, .null, .null, .null, .null, .int 0]))] := hD
  refine lv_aload_n hx hb dX1_init_9 rfl (lv_at hl 0 rfl) ?_
  refine lv_bipush (v := 9) hx hb dX1_init_10 (by decide) ?_
  refine lv_iconst (v := 0) hx hb dX1_init_12 (by decide) ?_
  refine pv_mna (own := RX1) (nm := "[[J") (ty := .long) (N' := 9) (K' := 0) hx hb hown (hg w1_172 rfl) (by decide +kernel) (hE.2.2.2.2 _ (by simp [pv_ot])) (hg w1_75 rfl) hP hD hS hA (by decide) (by decide) (by decide +kernel) (by decide +kernel) (Nat.le_of_ble_eq_true rfl) (by decide +kernel) (Nat.le_of_ble_eq_true rfl) rfl rfl (Nat.le_of_ble_eq_true rfl) (Nat.le_of_ble_eq_true rfl) dX1_init_13 (fun q_1 H hP hD hS => ?_)
  refine W.widen (k := 10) (n := 9) (Nat.le_of_ble_eq_true rfl) (Nat.le_of_ble_eq_true rfl) ?_
  refine va_putF (own := RX1) (D := D) (ci := 8) (v := .ref q_1) (ty := .array (.array .long)) (C := RX1) (T := TX1) (N := 7) hx hb hts inF1 tyX1 tyX1_ok nmX1 hown hK hP hD hS 0 rfl rfl 1 (by decide) (hg w1_175 rfl) (fun _ h9 => h9) rfl hin rfl (by decide +kernel) rfl rfl (Nat.le_of_ble_eq_true rfl) dX1_init_17 (fun H locs hP hD hS => ?_)
  have hP : va_P D pv_cl [(h0, .inr (8, [.int 2, .ref q_1, .null, .null, .null, .null, .int 0]))] _ := hP
  have hD : va_D A [(h0, .inr (8, [.int 2, .ref q_1, .null, .null, .null, .null, .int 0]))] := hD
  refine lv_aload_n hx hb dX1_init_20 rfl (lv_at hl 0 rfl) ?_
  refine pv_pc 21 rfl ?_
  refine lv_bipush (v := 9) hx hb dX1_init_21 (by decide) ?_
  refine va_newa (atype := .int) hx hb (hg w1_74 rfl) (ty := .int) rfl hK hP hD hS hA (a0 := (9, .inl (fun _ => 0))) (fun _ => rfl) (by decide) (by decide +kernel) (Nat.le_of_ble_eq_true rfl) (Nat.le_of_ble_eq_true rfl) (Nat.le_of_ble_eq_true rfl) dX1_init_23 (fun q_2 cA_3 H hK hP hD hS => ?_)
  have hP : va_P D pv_cl [(h0, .inr (8, [.int 2, .ref q_1, .null, .null, .null, .null, .int 0])), (q_2, .inl (cA_3, 9, .inl (fun _ => 0)))] _ := hP
  have hD : va_D A [(h0, .inr (8, [.int 2, .ref q_1, .null, .null, .null, .null, .int 0])), (q_2, .inl (cA_3, 9, .inl (fun _ => 0)))] := hD
  have hK : va_K D pv_cl [(cA_3, .int)] s := hK
  refine W.widen (k := 11) (n := 18) (Nat.le_of_ble_eq_true rfl) (Nat.le_of_ble_eq_true rfl) ?_
  refine va_putF (own := RX1) (D := D) (ci := 8) (v := .ref q_2) (ty := .array .int) (C := RX1) (T := TX1) (N := 7) hx hb hts inF1 tyX1 tyX1_ok nmX1 hown hK hP hD hS 0 rfl rfl 2 (by decide) (hg w1_176 rfl) (fun _ h9 => h9) rfl hin rfl (by decide +kernel) rfl rfl (Nat.le_of_ble_eq_true rfl) dX1_init_25 (fun H locs hP hD hS => ?_)
  have hP : va_P D pv_cl [(h0, .inr (8, [.int 2, .ref q_1, .ref q_2, .null, .null, .null, .int 0])), (q_2, .inl (cA_3, 9, .inl (fun _ => 0)))] _ := hP
  have hD : va_D A [(h0, .inr (8, [.int 2, .ref q_1, .ref q_2, .null, .null, .null, .int 0])), (q_2, .inl (cA_3, 9, .inl (fun _ => 0)))] := hD
  have hP : va_P D pv_cl [(h0, .inr (8, [.int 2, .ref q_1, .ref q_2, .null, .null, .null, .int 0]))] _ := hP.sub [0] rfl
  have hD : va_D A [(h0, .inr (8, [.int 2, .ref q_1, .ref q_2, .null, .null, .null, .int 0]))] := hD.sub [0] (by decide) rfl
  have hK : va_K D pv_cl [] s := hK.sub [] rfl
  refine lv_aload_n hx hb dX1_init_28 rfl (lv_at hl 0 rfl) ?_
  refine lv_bipush (v := 9) hx hb dX1_init_29 (by decide) ?_
  refine va_newa (atype := .int) hx hb (hg w1_74 rfl) (ty := .int) rfl hK hP hD hS hA (a0 := (9, .inl (fun _ => 0))) (fun _ => rfl) (by decide) (by decide +kernel) (Nat.le_of_ble_eq_true rfl) (Nat.le_of_ble_eq_true rfl) (Nat.le_of_ble_eq_true rfl) dX1_init_31 (fun q_4 cA_5 H hK hP hD hS => ?_)
  have hP : va_P D pv_cl [(h0, .inr (8, [.int 2, .ref q_1, .ref q_2, .null, .null, .null, .int 0])), (q_4, .inl (cA_5, 9, .inl (fun _ => 0)))] _ := hP
  have hD : va_D A [(h0, .inr (8, [.int 2, .ref q_1, .ref q_2, .null, .null, .null, .int 0])), (q_4, .inl (cA_5, 9, .inl (fun _ => 0)))] := hD
  have hK : va_K D pv_cl [(cA_5, .int)] s := hK
  refine W.widen (k := 12) (n := 27) (Nat.le_of_ble_eq_true rfl) (Nat.le_of_ble_eq_true rfl) ?_
  refine va_putF (own := RX1) (D := D) (ci := 8) (v := .ref q_4) (ty := .array .int) (C := RX1) (T := TX1) (N := 7) hx hb hts inF1 tyX1 tyX1_ok nmX1 hown hK hP hD hS 0 rfl rfl 3 (by decide) (hg w1_177 rfl) (fun _ h9 => h9) rfl hin rfl (by decide +kernel) rfl rfl (Nat.le_of_ble_eq_true rfl) dX1_init_33 (fun H locs hP hD hS => ?_)
  have hP : va_P D pv_cl [(h0, .inr (8, [.int 2, .ref q_1, .ref q_2, .ref q_4, .null, .null, .int 0])), (q_4, .inl (cA_5, 9, .inl (fun _ => 0)))] _ := hP
  have hD : va_D A [(h0, .inr (8, [.int 2, .ref q_1, .ref q_2, .ref q_4, .null, .null, .int 0])), (q_4, .inl (cA_5, 9, .inl (fun _ => 0)))] := hD
  have hP : va_P D pv_cl [(h0, .inr (8, [.int 2, .ref q_1, .ref q_2, .ref q_4, .null, .null, .int 0]))] _ := hP.sub [0] rfl
  have hD : va_D A [(h0, .inr (8, [.int 2, .ref q_1, .ref q_2, .ref q_4, .null, .null, .int 0]))] := hD.sub [0] (by decide) rfl
  have hK : va_K D pv_cl [] s := hK.sub [] rfl
  refine lv_aload_n hx hb dX1_init_36 rfl (lv_at hl 0 rfl) ?_
  refine lv_bipush (v := 64) hx hb dX1_init_37 (by decide) ?_
  refine va_newa (atype := .long) hx hb (hg w1_75 rfl) (ty := .long) rfl hK hP hD hS hA (a0 := (64, .inr (.inl (fun _ => 0)))) (fun _ => rfl) (by decide) (by decide +kernel) (Nat.le_of_ble_eq_true rfl) (Nat.le_of_ble_eq_true rfl) (Nat.le_of_ble_eq_true rfl) dX1_init_39 (fun q_6 cA_7 H hK hP hD hS => ?_)
  have hP : va_P D pv_cl [(h0, .inr (8, [.int 2, .ref q_1, .ref q_2, .ref q_4, .null, .null, .int 0])), (q_6, .inl (cA_7, 64, .inr (.inl (fun _ => 0))))] _ := hP
  have hD : va_D A [(h0, .inr (8, [.int 2, .ref q_1, .ref q_2, .ref q_4, .null, .null, .int 0])), (q_6, .inl (cA_7, 64, .inr (.inl (fun _ => 0))))] := hD
  have hK : va_K D pv_cl [(cA_7, .long)] s := hK
  refine W.widen (k := 13) (n := 91) (Nat.le_of_ble_eq_true rfl) (Nat.le_of_ble_eq_true rfl) ?_
  refine va_put (own := RX1) (D := D) (ci := 8) (v := .ref q_6) (ty := .array .long) (C := RX1) (T := TX1) (N := 7) hx hb hts inF1 tyX1 tyX1_ok nmX1 hown hK hP hD hS 0 rfl rfl 4 (by decide) (hg w1_178 rfl) (fun _ h9 => h9) rfl (by decide +kernel) rfl rfl (Nat.le_of_ble_eq_true rfl) dX1_init_41 (fun H locs hP hD hS => ?_)
  have hP : va_P D pv_cl [(h0, .inr (8, [.int 2, .ref q_1, .ref q_2, .ref q_4, .ref q_6, .null, .int 0])), (q_6, .inl (cA_7, 64, .inr (.inl (fun _ => 0))))] _ := hP
  have hD : va_D A [(h0, .inr (8, [.int 2, .ref q_1, .ref q_2, .ref q_4, .ref q_6, .null, .int 0])), (q_6, .inl (cA_7, 64, .inr (.inl (fun _ => 0))))] := hD
  have hP : va_P D pv_cl [(h0, .inr (8, [.int 2, .ref q_1, .ref q_2, .ref q_4, .ref q_6, .null, .int 0]))] _ := hP.sub [0] rfl
  have hD : va_D A [(h0, .inr (8, [.int 2, .ref q_1, .ref q_2, .ref q_4, .ref q_6, .null, .int 0]))] := hD.sub [0] (by decide) rfl
  have hK : va_K D pv_cl [] s := hK.sub [] rfl
  refine lv_aload_n hx hb dX1_init_44 rfl (lv_at hl 0 rfl) ?_
  refine pv_pc 45 rfl ?_
  refine lv_bipush (v := 64) hx hb dX1_init_45 (by decide) ?_
  refine va_newa (atype := .long) hx hb (hg w1_75 rfl) (ty := .long) rfl hK hP hD hS hA (a0 := (64, .inr (.inl (fun _ => 0)))) (fun _ => rfl) (by decide) (by decide +kernel) (Nat.le_of_ble_eq_true rfl) (Nat.le_of_ble_eq_true rfl) (Nat.le_of_ble_eq_true rfl) dX1_init_47 (fun q_8 cA_9 H hK hP hD hS => ?_)
  have hP : va_P D pv_cl [(h0, .inr (8, [.int 2, .ref q_1, .ref q_2, .ref q_4, .ref q_6, .null, .int 0])), (q_8, .inl (cA_9, 64, .inr (.inl (fun _ => 0))))] _ := hP
  have hD : va_D A [(h0, .inr (8, [.int 2, .ref q_1, .ref q_2, .ref q_4, .ref q_6, .null, .int 0])), (q_8, .inl (cA_9, 64, .inr (.inl (fun _ => 0))))] := hD
  have hK : va_K D pv_cl [(cA_9, .long)] s := hK
  refine W.widen (k := 14) (n := 155) (Nat.le_of_ble_eq_true rfl) (Nat.le_of_ble_eq_true rfl) ?_
  refine va_put (own := RX1) (D := D) (ci := 8) (v := .ref q_8) (ty := .array .long) (C := RX1) (T := TX1) (N := 7) hx hb hts inF1 tyX1 tyX1_ok nmX1 hown hK hP hD hS 0 rfl rfl 5 (by decide) (hg w1_179 rfl) (fun _ h9 => h9) rfl (by decide +kernel) rfl rfl (Nat.le_of_ble_eq_true rfl) dX1_init_49 (fun H locs hP hD hS => ?_)
  have hP : va_P D pv_cl [(h0, .inr (8, [.int 2, .ref q_1, .ref q_2, .ref q_4, .ref q_6, .ref q_8, .int 0])), (q_8, .inl (cA_9, 64, .inr (.inl (fun _ => 0))))] _ := hP
  have hD : va_D A [(h0, .inr (8, [.int 2, .ref q_1, .ref q_2, .ref q_4, .ref q_6, .ref q_8, .int 0])), (q_8, .inl (cA_9, 64, .inr (.inl (fun _ => 0))))] := hD
  have hP : va_P D pv_cl [(h0, .inr (8, [.int 2, .ref q_1, .ref q_2, .ref q_4, .ref q_6, .ref q_8, .int 0]))] _ := hP.sub [0] rfl
  have hD : va_D A [(h0, .inr (8, [.int 2, .ref q_1, .ref q_2, .ref q_4, .ref q_6, .ref q_8, .int 0]))] := hD.sub [0] (by decide) rfl
  have hK : va_K D pv_cl [] s := hK.sub [] rfl
  refine lv_aload_n hx hb dX1_init_52 rfl (lv_at hl 0 rfl) ?_
  refine lv_iconst (v := 0) hx hb dX1_init_53 (by decide) ?_
  refine va_put (own := RX1) (D := D) (ci := 8) (v := .int 0) (ty := .int) (C := RX1) (T := TX1) (N := 7) hx hb hts inF1 tyX1 tyX1_ok nmX1 hown hK hP hD hS 0 rfl rfl 6 (by decide) (hg w1_180 rfl) (fun _ h9 => h9) rfl (by decide +kernel) rfl rfl (Nat.le_of_ble_eq_true rfl) dX1_init_54 (fun H locs hP hD hS => ?_)
  have hP : va_P D pv_cl [(h0, .inr (8, [.int 2, .ref q_1, .ref q_2, .ref q_4, .ref q_6, .ref q_8, .int 0]))] _ := hP
  have hD : va_D A [(h0, .inr (8, [.int 2, .ref q_1, .ref q_2, .ref q_4, .ref q_6, .ref q_8, .int 0]))] := hD
  refine W.widen (k := 14) (n := 155) (Nat.le_of_ble_eq_true rfl) (Nat.le_of_ble_eq_true rfl) ?_
  exact W.vret hx hb hr (fun t ht hW => ⟨⟨(), rfl, trivial, trivial⟩, hS.F ht⟩) hS.2.2 dX1_init_57

theorem dX3_init_0 : decode cX3_init 0 = .ok (.aload_n 0, 1) := by decide +kernel
theorem dX3_init_1 : decode cX3_init 1 = .ok (.invokespecial 1, 3) := by decide +kernel
theorem w1_165 : (Jvm.Cond.methodLink "Polyforge$Divider" (1 : Nat) ({ cls := "java/lang/Object", name := "<init>", desc := "()V" } : Jvm.MethodName)) ∈ lw_tbl := pv_t1 (pv_mg 165 rfl)
theorem dX3_init_4 : decode cX3_init 4 = .ok (.aload_n 0, 1) := by decide +kernel
theorem dX3_init_5 : decode cX3_init 5 = .ok (.new 7, 3) := by decide +kernel
theorem w1_166 : (Jvm.Cond.classLink "Polyforge$Divider" (7 : Nat) "Polyforge$Buckets") ∈ lw_tbl := pv_t1 (pv_mg 166 rfl)
theorem w1_167 : (Jvm.Cond.instantiable "Polyforge$Buckets" (7 : Nat)) ∈ lw_tbl := pv_t1 (pv_mg 167 rfl)
theorem w1_7 : (Jvm.Cond.initialized "Polyforge$Buckets") ∈ lw_tbl := pv_t1 (pv_mg 7 rfl)
theorem dX3_init_8 : decode cX3_init 8 = .ok (.dup, 1) := by decide +kernel
theorem dX3_init_9 : decode cX3_init 9 = .ok (.invokespecial 9, 3) := by decide +kernel
theorem w1_168 : (Jvm.Cond.methodLinkNest "Polyforge$Divider" (9 : Nat) ({ cls := "Polyforge$Buckets", name := "<init>", desc := "()V" } : Jvm.MethodName) "Polyforge") ∈ lw_tbl := pv_t1 (pv_mg 168 rfl)
theorem w1_170 : (Jvm.Cond.code ({ cls := "Polyforge$Buckets", name := "<init>", desc := "()V" } : Jvm.MethodName) prog_3_method_1_code (1 : Nat) (Option.none : Option Jvm.ClassFile.FieldType)) ∈ lw_tbl := pv_t1 (pv_mg 170 rfl)
theorem w1_169 : (Jvm.Cond.instanceMethod ({ cls := "Polyforge$Buckets", name := "<init>", desc := "()V" } : Jvm.MethodName)) ∈ lw_tbl := pv_t1 (pv_mg 169 rfl)
theorem dX3_init_12 : decode cX3_init 12 = .ok (.putfield 10, 3) := by decide +kernel
theorem w1_196 : (Jvm.Cond.fieldLink "Polyforge$Divider" (10 : Nat) "Polyforge$Divider" "buckets" "LPolyforge$Buckets;") ∈ lw_tbl := pv_t1 (pv_mg 196 rfl)
theorem dX3_init_15 : decode cX3_init 15 = .ok (.aload_n 0, 1) := by decide +kernel
theorem dX3_init_16 : decode cX3_init 16 = .ok (.iconst 1, 1) := by decide +kernel
theorem dX3_init_17 : decode cX3_init 17 = .ok (.newarray .long, 2) := by decide +kernel
theorem dX3_init_19 : decode cX3_init 19 = .ok (.putfield 16, 3) := by decide +kernel
theorem w1_197 : (Jvm.Cond.fieldLink "Polyforge$Divider" (16 : Nat) "Polyforge$Divider" "single" "[J") ∈ lw_tbl := pv_t1 (pv_mg 197 rfl)
theorem dX3_init_22 : decode cX3_init 22 = .ok (.aload_n 0, 1) := by decide +kernel
theorem dX3_init_23 : decode cX3_init 23 = .ok (.bipush 64, 2) := by decide +kernel
theorem dX3_init_25 : decode cX3_init 25 = .ok (.newarray .long, 2) := by decide +kernel
theorem dX3_init_27 : decode cX3_init 27 = .ok (.putfield 20, 3) := by decide +kernel
theorem w1_198 : (Jvm.Cond.fieldLink "Polyforge$Divider" (20 : Nat) "Polyforge$Divider" "rest" "[J") ∈ lw_tbl := pv_t1 (pv_mg 198 rfl)
theorem dX3_init_30 : decode cX3_init 30 = .ok (.aload_n 0, 1) := by decide +kernel
theorem dX3_init_31 : decode cX3_init 31 = .ok (.iconst 0, 1) := by decide +kernel
theorem dX3_init_32 : decode cX3_init 32 = .ok (.putfield 23, 3) := by decide +kernel
theorem w1_200 : (Jvm.Cond.fieldLink "Polyforge$Divider" (23 : Nat) "Polyforge$Divider" "restCount" "I") ∈ lw_tbl := pv_t1 (pv_mg 200 rfl)
theorem dX3_init_35 : decode cX3_init 35 = .ok (.aload_n 0, 1) := by decide +kernel
theorem dX3_init_36 : decode cX3_init 36 = .ok (.iconst 2, 1) := by decide +kernel
theorem dX3_init_37 : decode cX3_init 37 = .ok (.putfield 27, 3) := by decide +kernel
theorem w1_203 : (Jvm.Cond.fieldLink "Polyforge$Divider" (27 : Nat) "Polyforge$Divider" "prime" "I") ∈ lw_tbl := pv_t1 (pv_mg 203 rfl)
theorem dX3_init_40 : decode cX3_init 40 = .ok (.return_, 1) := by decide +kernel
set_option maxHeartbeats 4000000 in
set_option maxRecDepth 100000 in
/-- a new Polyforge$Divider -/
theorem c_X3_init (l : Launch) (hfl : l.stackTraces = false) (D : va_G) (sz : Nat) (h0 : Nat) : Met l yX3_init (Cond.code yX3_init cX3_init 1 none :: pv_W) ({ frames := 2, cells := 17, slots := 227, locals := 60 } : Room) (va_Pc [.ref h0] (pv_P D [] [(h0, .inr (6, [.null, .null, .null, .int 0, .int 0]))] (va_A [(h0, .inr (6, [.null, .null, .null, .int 0, .int 0]))] sz) sz)) (va_Qv (fun (_ : Unit) => True) (fun _ _ => True) (va_A [(h0, .inr (6, [.null, .null, .null, .int 0, .int 0]))] sz)) 17 227 (va_A [(h0, .inr (6, [.null, .null, .null, .int 0, .int 0]))] sz) := by
  refine Met.ofW (cc := cX3_init) (maxL := 1) (ret := none) (by decide) rfl ?_
  intro p e s m args below meth c s₁ B hml hv
  obtain ⟨rfl, hsz, hE, hP, hK, hD0⟩ := hv
  have hx := B.exec
  have hb := B.bytes
  have hr := B.returns
  have hts := fun (w : Cond) (h : w ∈ pv_W) => atoms_spec (ws := Cond.code yX3_init cX3_init 1 none :: pv_W) B.pre w (List.mem_cons_of_mem _ h)
  have hg := fun {w : Cond} (h : w ∈ lw_tbl) (g : goodWord w = true) => hts w (pv_in h g)
  have hown : s.vm.findClass RX3 = some m.cls := findClass_of_methodNamed B.named
  have hlocks := B.notSynchronized
  have hin : meth.name = "<init>" := (name_of_methodNamed B.named B.method).1
  subst hsz
  have hD := hD0.self (sz := s.heap.size)
  generalize hAe : va_A [(h0, .inr (6, [.null, .null, .null, .int 0, .int 0]))] s.heap.size = A at hD hE ⊢
  have hA : ∀ q : Nat, s.heap.size ≤ q → A q := fun q h => by rw [← hAe]; exact Or.inr h
  have hS : va_S A s.heap s.heap [] := va_S.rf
  have hP : va_P D pv_cl [(h0, .inr (6, [.null, .null, .null, .int 0, .int 0]))] s.heap := hP
  have hl := lv_entry ([.ref h0]) (n := 1) (Nat.le_of_ble_eq_true rfl)
  rw [lg_entry_eq]
  generalize (lg_sl ([.ref h0]) ++ List.replicate (1 - (lg_sl ([.ref h0])).length) Slot.unset).toArray = ls at hl ⊢
  have hl : lv_has ls 1 [(0, .ref h0)] := hl
  refine lv_aload_n hx hb dX3_init_0 rfl (lv_at hl 0 rfl) ?_
  refine W.objInit (own := RX3) hx hb hown (hg w1_165 rfl) (hg w1_36 rfl) (hg w1_37 rfl) rfl (hl.1.trans hml.symm) (rest := []) rfl dX3_init_1 (Nat.le_of_ble_eq_true rfl) (Nat.le_of_ble_eq_true rfl) ?_
  refine lv_aload_n hx hb dX3_init_4 rfl (lv_at hl 0 rfl) ?_
  refine va_new (own := RX3) (ci := 8) (fs := [.int 0, .null, .null, .null, .null, .null, .int 0]) (C := RX1) (T := TX1) (N := 7) hx hb hts inF1 tyX1 tyX1_ok hown (hg w1_166 rfl) (hg w1_167 rfl) (hg w1_7 rfl) hK hP hD hS hA rfl (by decide +kernel) (Nat.le_of_ble_eq_true rfl) (Nat.le_of_ble_eq_true rfl) dX3_init_5 (fun q_1 H hP hD hS => ?_)
  have hP : va_P D pv_cl [(h0, .inr (6, [.null, .null, .null, .int 0, .int 0])), (q_1, .inr (8, [.int 0, .null, .null, .null, .null, .null, .int 0]))] _ := hP
  have hD : va_D A [(h0, .inr (6, [.null, .null, .null, .int 0, .int 0])), (q_1, .inr (8, [.int 0, .null, .null, .null, .null, .null, .int 0]))] := hD
  refine W.widen (k := 1) (n := 7) (Nat.le_of_ble_eq_true rfl) (Nat.le_of_ble_eq_true rfl) ?_
  refine lv_dup hx hb dX3_init_8 rfl ?_
  have hF := va_free (wc := [(q_1, .inr (8, [.int 0, .null, .null, .null, .null, .null, .int 0]))]) hD hS hA [1] rfl
  refine va_callv (va_runIN (As := []) (rest := [.ref q_1, .ref h0]) ⟨hx, hb, hml, hown, hts⟩ (c_X1_init l hfl D _ q_1) ⟨(va_cnB 0 hts (pv_gC w1_170) rfl rfl rfl (hE.2.2.1 _ (pv_ib w1_168 rfl)) (hg w1_7 rfl) (by decide +kernel) ⟨Nat.le_of_ble_eq_true rfl, Nat.le_of_ble_eq_true rfl⟩), rfl, hg w1_169 rfl⟩ (pv_ps hE hS hF (hP.sub [1] rfl) (hK.sub [] rfl) (hD.sub [1] (by decide) rfl)) rfl rfl hl.1 rfl (lv_room (Nat.le_of_ble_eq_true rfl)) dX3_init_9 ⟨Nat.le_of_ble_eq_true rfl, Nat.le_of_ble_eq_true rfl⟩) hS (fun q _ h => hF q h) hF (fun u t H1 locs1 ht hvm hw hB hz1 hk1 hS => ?_)
  refine W.widen (k := 15) (n := 162) (Nat.le_of_ble_eq_true rfl) (Nat.le_of_ble_eq_true rfl) ?_
  obtain ⟨hP, hD⟩ := va_join (wr := [(h0, .inr (6, [.null, .null, .null, .int 0, .int 0]))]) (w1 := []) hP hD [1] [0] rfl rfl (by decide) (by decide) hk1 hF pv_P0 pv_D0
  have hP : va_P D pv_cl [(h0, .inr (6, [.null, .null, .null, .int 0, .int 0]))] _ := hP
  have hD : va_D A [(h0, .inr (6, [.null, .null, .null, .int 0, .int 0]))] := hD
  refine va_putF (own := RX3) (D := D) (ci := 6) (v := .ref q_1) (ty := .object "Polyforge$Buckets") (C := RX3) (T := TX3) (N := 5) hx hb hts inF3 tyX3 tyX3_ok nmX3 hown hK hP hD hS 0 rfl rfl 0 (by decide) (hg w1_196 rfl) (fun _ h9 => h9) rfl hin rfl (by decide +kernel) rfl rfl (Nat.le_of_ble_eq_true rfl) dX3_init_12 (fun H locs hP hD hS => ?_)
  have hP : va_P D pv_cl [(h0, .inr (6, [.ref q_1, .null, .null, .int 0, .int 0]))] _ := hP
  have hD : va_D A [(h0, .inr (6, [.ref q_1, .null, .null, .int 0, .int 0]))] := hD
  refine lv_aload_n hx hb dX3_init_15 rfl (lv_at hl 0 rfl) ?_
  refine lv_iconst (v := 1) hx hb dX3_init_16 (by decide) ?_
  refine va_newa (atype := .long) hx hb (hg w1_75 rfl) (ty := .long) rfl hK hP hD hS hA (a0 := (1, .inr (.inl (fun _ => 0)))) (fun _ => rfl) (by decide) (by decide +kernel) (Nat.le_of_ble_eq_true rfl) (Nat.le_of_ble_eq_true rfl) (Nat.le_of_ble_eq_true rfl) dX3_init_17 (fun q_3 cA_4 H hK hP hD hS => ?_)
  have hP : va_P D pv_cl [(h0, .inr (6, [.ref q_1, .null, .null, .int 0, .int 0])), (q_3, .inl (cA_4, 1, .inr (.inl (fun _ => 0))))] _ := hP
  have hD : va_D A [(h0, .inr (6, [.ref q_1, .null, .null, .int 0, .int 0])), (q_3, .inl (cA_4, 1, .inr (.inl (fun _ => 0))))] := hD
  have hK : va_K D pv_cl [(cA_4, .long)] s := hK
  refine W.widen (k := 16) (n := 163) (Nat.le_of_ble_eq_true rfl) (Nat.le_of_ble_eq_true rfl) ?_
  refine va_putF (own := RX3) (D := D) (ci := 6) (v := .ref q_3) (ty := .array .long) (C := RX3) (T := TX3) (N := 5) hx hb hts inF3 tyX3 tyX3_ok nmX3 hown hK hP hD hS 0 rfl rfl 1 (by decide) (hg w1_197 rfl) (fun _ h9 => h9) rfl hin rfl (by decide +kernel) rfl rfl (Nat.le_of_ble_eq_true rfl) dX3_init_19 (fun H locs hP hD hS => ?_)
  have hP : va_P D pv_cl [(h0, .inr (6, [.ref q_1, .ref q_3, .null, .int 0, .int 0])), (q_3, .inl (cA_4, 1, .inr (.inl (fun _ => 0))))] _ := hP
  have hD : va_D A [(h0, .inr (6, [.ref q_1, .ref q_3, .null, .int 0, .int 0])), (q_3, .inl (cA_4, 1, .inr (.inl (fun _ => 0))))] := hD
  have hP : va_P D pv_cl [(h0, .inr (6, [.ref q_1, .ref q_3, .null, .int 0, .int 0]))] _ := hP.sub [0] rfl
  have hD : va_D A [(h0, .inr (6, [.ref q_1, .ref q_3, .null, .int 0, .int 0]))] := hD.sub [0] (by decide) rfl
  have hK : va_K D pv_cl [] s := hK.sub [] rfl
  refine pv_pc 22 rfl ?_
  refine lv_aload_n hx hb dX3_init_22 rfl (lv_at hl 0 rfl) ?_
  refine lv_bipush (v := 64) hx hb dX3_init_23 (by decide) ?_
  refine va_newa (atype := .long) hx hb (hg w1_75 rfl) (ty := .long) rfl hK hP hD hS hA (a0 := (64, .inr (.inl (fun _ => 0)))) (fun _ => rfl) (by decide) (by decide +kernel) (Nat.le_of_ble_eq_true rfl) (Nat.le_of_ble_eq_true rfl) (Nat.le_of_ble_eq_true rfl) dX3_init_25 (fun q_5 cA_6 H hK hP hD hS => ?_)
  have hP : va_P D pv_cl [(h0, .inr (6, [.ref q_1, .ref q_3, .null, .int 0, .int 0])), (q_5, .inl (cA_6, 64, .inr (.inl (fun _ => 0))))] _ := hP
  have hD : va_D A [(h0, .inr (6, [.ref q_1, .ref q_3, .null, .int 0, .int 0])), (q_5, .inl (cA_6, 64, .inr (.inl (fun _ => 0))))] := hD
  have hK : va_K D pv_cl [(cA_6, .long)] s := hK
  refine W.widen (k := 17) (n := 227) (Nat.le_of_ble_eq_true rfl) (Nat.le_of_ble_eq_true rfl) ?_
  refine va_put (own := RX3) (D := D) (ci := 6) (v := .ref q_5) (ty := .array .long) (C := RX3) (T := TX3) (N := 5) hx hb hts inF3 tyX3 tyX3_ok nmX3 hown hK hP hD hS 0 rfl rfl 2 (by decide) (hg w1_198 rfl) (fun _ h9 => h9) rfl (by decide +kernel) rfl rfl (Nat.le_of_ble_eq_true rfl) dX3_init_27 (fun H locs hP hD hS => ?_)
  have hP : va_P D pv_cl [(h0, .inr (6, [.ref q_1, .ref q_3, .ref q_5, .int 0, .int 0])), (q_5, .inl (cA_6, 64, .inr (.inl (fun _ => 0))))] _ := hP
  have hD : va_D A [(h0, .inr (6, [.ref q_1, .ref q_3, .ref q_5, .int 0, .int 0])), (q_5, .inl (cA_6, 64, .inr (.inl (fun _ => 0))))] := hD
  have hP : va_P D pv_cl [(h0, .inr (6, [.ref q_1, .ref q_3, .ref q_5, .int 0, .int 0]))] _ := hP.sub [0] rfl
  have hD : va_D A [(h0, .inr (6, [.ref q_1, .ref q_3, .ref q_5, .int 0, .int 0]))] := hD.sub [0] (by decide) rfl
  have hK : va_K D pv_cl [] s := hK.sub [] rfl
  refine lv_aload_n hx hb dX3_init_30 rfl (lv_at hl 0 rfl) ?_
  refine lv_iconst (v := 0) hx hb dX3_init_31 (by decide) ?_
  refine va_put (own := RX3) (D := D) (ci := 6) (v := .int 0) (ty := .int) (C := RX3) (T := TX3) (N := 5) hx hb hts inF3 tyX3 tyX3_ok nmX3 hown hK hP hD hS 0 rfl rfl 3 (by decide) (hg w1_200 rfl) (fun _ h9 => h9) rfl (by decide +kernel) rfl rfl (Nat.le_of_ble_eq_true rfl) dX3_init_32 (fun H locs hP hD hS => ?_)
  have hP : va_P D pv_cl [(h0, .inr (6, [.ref q_1, .ref q_3, .ref q_5, .int 0, .int 0]))] _ := hP
  have hD : va_D A [(h0, .inr (6, [.ref q_1, .ref q_3, .ref q_5, .int 0, .int 0]))] := hD
  refine lv_aload_n hx hb dX3_init_35 rfl (lv_at hl 0 rfl) ?_
  refine lv_iconst (v := 2) hx hb dX3_init_36 (by decide) ?_
  refine va_put (own := RX3) (D := D) (ci := 6) (v := .int 2) (ty := .int) (C := RX3) (T := TX3) (N := 5) hx hb hts inF3 tyX3 tyX3_ok nmX3 hown hK hP hD hS 0 rfl rfl 4 (by decide) (hg w1_203 rfl) (fun _ h9 => h9) rfl (by decide +kernel) rfl rfl (Nat.le_of_ble_eq_true rfl) dX3_init_37 (fun H locs hP hD hS => ?_)
  have hP : va_P D pv_cl [(h0, .inr (6, [.ref q_1, .ref q_3, .ref q_5, .int 0, .int 2]))] _ := hP
  have hD : va_D A [(h0, .inr (6, [.ref q_1, .ref q_3, .ref q_5, .int 0, .int 2]))] := hD
  refine W.widen (k := 17) (n := 227) (Nat.le_of_ble_eq_true rfl) (Nat.le_of_ble_eq_true rfl) ?_
  exact W.vret hx hb hr (fun t ht hW => ⟨⟨(), rfl, trivial, trivial⟩, hS.F ht⟩) hS.2.2 dX3_init_40

theorem dX2_init_0 : decode cX2_init 0 = .ok (.aload_n 0, 1) := by decide +kernel
theorem dX2_init_1 : decode cX2_init 1 = .ok (.invokespecial 3, 3) := by decide +kernel
theorem w1_159 : (Jvm.Cond.methodLink "Polyforge$Completion" (3 : Nat) ({ cls := "java/lang/Object", name := "<init>", desc := "()V" } : Jvm.MethodName)) ∈ lw_tbl := pv_t1 (pv_mg 159 rfl)
theorem dX2_init_4 : decode cX2_init 4 = .ok (.aload_n 0, 1) := by decide +kernel
theorem dX2_init_5 : decode cX2_init 5 = .ok (.new 9, 3) := by decide +kernel
theorem w1_160 : (Jvm.Cond.classLink "Polyforge$Completion" (9 : Nat) "Polyforge$Divider") ∈ lw_tbl := pv_t1 (pv_mg 160 rfl)
theorem w1_161 : (Jvm.Cond.instantiable "Polyforge$Divider" (5 : Nat)) ∈ lw_tbl := pv_t1 (pv_mg 161 rfl)
theorem w1_6 : (Jvm.Cond.initialized "Polyforge$Divider") ∈ lw_tbl := pv_t1 (pv_mg 6 rfl)
theorem dX2_init_8 : decode cX2_init 8 = .ok (.dup, 1) := by decide +kernel
theorem dX2_init_9 : decode cX2_init 9 = .ok (.invokespecial 11, 3) := by decide +kernel
theorem w1_162 : (Jvm.Cond.methodLinkNest "Polyforge$Completion" (11 : Nat) ({ cls := "Polyforge$Divider", name := "<init>", desc := "()V" } : Jvm.MethodName) "Polyforge") ∈ lw_tbl := pv_t1 (pv_mg 162 rfl)
theorem w1_164 : (Jvm.Cond.code ({ cls := "Polyforge$Divider", name := "<init>", desc := "()V" } : Jvm.MethodName) prog_5_method_1_code (1 : Nat) (Option.none : Option Jvm.ClassFile.FieldType)) ∈ lw_tbl := pv_t1 (pv_mg 164 rfl)
theorem w1_163 : (Jvm.Cond.instanceMethod ({ cls := "Polyforge$Divider", name := "<init>", desc := "()V" } : Jvm.MethodName)) ∈ lw_tbl := pv_t1 (pv_mg 163 rfl)
theorem dX2_init_12 : decode cX2_init 12 = .ok (.putfield 12, 3) := by decide +kernel
theorem w2_14 : (Jvm.Cond.fieldLink "Polyforge$Completion" (12 : Nat) "Polyforge$Completion" "divider" "LPolyforge$Divider;") ∈ lw_tbl := pv_t2 (pv_mg 14 rfl)
theorem dX2_init_15 : decode cX2_init 15 = .ok (.aload_n 0, 1) := by decide +kernel
theorem dX2_init_16 : decode cX2_init 16 = .ok (.new 1, 3) := by decide +kernel
theorem w1_215 : (Jvm.Cond.classLink "Polyforge$Completion" (1 : Nat) "Polyforge$Stock") ∈ lw_tbl := pv_t1 (pv_mg 215 rfl)
theorem w1_216 : (Jvm.Cond.instantiable "Polyforge$Stock" (7 : Nat)) ∈ lw_tbl := pv_t1 (pv_mg 216 rfl)
theorem w1_8 : (Jvm.Cond.initialized "Polyforge$Stock") ∈ lw_tbl := pv_t1 (pv_mg 8 rfl)
theorem dX2_init_19 : decode cX2_init 19 = .ok (.dup, 1) := by decide +kernel
theorem dX2_init_20 : decode cX2_init 20 = .ok (.bipush 16, 2) := by decide +kernel
theorem dX2_init_22 : decode cX2_init 22 = .ok (.sipush 256, 3) := by decide +kernel
theorem dX2_init_25 : decode cX2_init 25 = .ok (.invokespecial 18, 3) := by decide +kernel
theorem w1_217 : (Jvm.Cond.methodLink "Polyforge$Completion" (18 : Nat) ({ cls := "Polyforge$Stock", name := "<init>", desc := "(II)V" } : Jvm.MethodName)) ∈ lw_tbl := pv_t1 (pv_mg 217 rfl)
theorem w1_219 : (Jvm.Cond.code ({ cls := "Polyforge$Stock", name := "<init>", desc := "(II)V" } : Jvm.MethodName) prog_12_method_1_code (3 : Nat) (Option.none : Option Jvm.ClassFile.FieldType)) ∈ lw_tbl := pv_t1 (pv_mg 219 rfl)
theorem w1_218 : (Jvm.Cond.instanceMethod ({ cls := "Polyforge$Stock", name := "<init>", desc := "(II)V" } : Jvm.MethodName)) ∈ lw_tbl := pv_t1 (pv_mg 218 rfl)
theorem dX2_init_28 : decode cX2_init 28 = .ok (.putfield 21, 3) := by decide +kernel
theorem w2_16 : (Jvm.Cond.fieldLink "Polyforge$Completion" (21 : Nat) "Polyforge$Completion" "work" "LPolyforge$Stock;") ∈ lw_tbl := pv_t2 (pv_mg 16 rfl)
theorem dX2_init_31 : decode cX2_init 31 = .ok (.aload_n 0, 1) := by decide +kernel
theorem dX2_init_32 : decode cX2_init 32 = .ok (.new 1, 3) := by decide +kernel
theorem dX2_init_35 : decode cX2_init 35 = .ok (.dup, 1) := by decide +kernel
theorem dX2_init_36 : decode cX2_init 36 = .ok (.bipush 16, 2) := by decide +kernel
theorem dX2_init_38 : decode cX2_init 38 = .ok (.sipush 256, 3) := by decide +kernel
theorem dX2_init_41 : decode cX2_init 41 = .ok (.invokespecial 18, 3) := by decide +kernel
theorem dX2_init_44 : decode cX2_init 44 = .ok (.putfield 25, 3) := by decide +kernel
theorem w2_17 : (Jvm.Cond.fieldLink "Polyforge$Completion" (25 : Nat) "Polyforge$Completion" "built" "LPolyforge$Stock;") ∈ lw_tbl := pv_t2 (pv_mg 17 rfl)
theorem dX2_init_47 : decode cX2_init 47 = .ok (.aload_n 0, 1) := by decide +kernel
theorem dX2_init_48 : decode cX2_init 48 = .ok (.bipush 112, 2) := by decide +kernel
theorem dX2_init_50 : decode cX2_init 50 = .ok (.newarray .int, 2) := by decide +kernel
theorem dX2_init_52 : decode cX2_init 52 = .ok (.putfield 28, 3) := by decide +kernel
theorem w2_18 : (Jvm.Cond.fieldLink "Polyforge$Completion" (28 : Nat) "Polyforge$Completion" "pairs" "[I") ∈ lw_tbl := pv_t2 (pv_mg 18 rfl)
theorem dX2_init_55 : decode cX2_init 55 = .ok (.aload_n 0, 1) := by decide +kernel
theorem dX2_init_56 : decode cX2_init 56 = .ok (.iconst 0, 1) := by decide +kernel
theorem dX2_init_57 : decode cX2_init 57 = .ok (.putfield 32, 3) := by decide +kernel
theorem w2_19 : (Jvm.Cond.fieldLink "Polyforge$Completion" (32 : Nat) "Polyforge$Completion" "pairCount" "I") ∈ lw_tbl := pv_t2 (pv_mg 19 rfl)
theorem dX2_init_60 : decode cX2_init 60 = .ok (.aload_n 0, 1) := by decide +kernel
theorem dX2_init_61 : decode cX2_init 61 = .ok (.bipush 64, 2) := by decide +kernel
theorem dX2_init_63 : decode cX2_init 63 = .ok (.newarray .int, 2) := by decide +kernel
theorem dX2_init_65 : decode cX2_init 65 = .ok (.putfield 36, 3) := by decide +kernel
theorem w2_20 : (Jvm.Cond.fieldLink "Polyforge$Completion" (36 : Nat) "Polyforge$Completion" "multiples" "[I") ∈ lw_tbl := pv_t2 (pv_mg 20 rfl)
theorem dX2_init_68 : decode cX2_init 68 = .ok (.aload_n 0, 1) := by decide +kernel
theorem dX2_init_69 : decode cX2_init 69 = .ok (.bipush 16, 2) := by decide +kernel
theorem dX2_init_71 : decode cX2_init 71 = .ok (.newarray .int, 2) := by decide +kernel
theorem dX2_init_73 : decode cX2_init 73 = .ok (.putfield 39, 3) := by decide +kernel
theorem w2_21 : (Jvm.Cond.fieldLink "Polyforge$Completion" (39 : Nat) "Polyforge$Completion" "states" "[I") ∈ lw_tbl := pv_t2 (pv_mg 21 rfl)
theorem dX2_init_76 : decode cX2_init 76 = .ok (.return_, 1) := by decide +kernel
set_option maxHeartbeats 4000000 in
set_option maxRecDepth 100000 in
/-- a new Polyforge$Completion -/
theorem c_X2_init (l : Launch) (hfl : l.stackTraces = false) (D : va_G) (sz : Nat) (h0 : Nat) : Met l yX2_init (Cond.code yX2_init cX2_init 1 none :: pv_W) ({ frames := 3, cells := 31, slots := 1144, locals := 80 } : Room) (va_Pc [.ref h0] (pv_P D [] [(h0, .inr (5, [.null, .null, .null, .null, .int 0, .null, .null]))] (va_A [(h0, .inr (5, [.null, .null, .null, .null, .int 0, .null, .null]))] sz) sz)) (va_Qv (fun (_ : Unit) => True) (fun _ t => ∃ a : Nat → Nat, va_P D pv_cl [(h0, .inr (5, [.ref (a 0), .ref (a 1), .ref (a 2), .ref (a 3), .int 0, .ref (a 4), .ref (a 5)]))] t.heap ∧ va_K D pv_cl [] t ∧ va_D (va_A [(h0, .inr (5, [.null, .null, .null, .null, .int 0, .null, .null]))] sz) [(h0, .inr (5, [.ref (a 0), .ref (a 1), .ref (a 2), .ref (a 3), .int 0, .ref (a 4), .ref (a 5)]))]) (va_A [(h0, .inr (5, [.null, .null, .null, .null, .int 0, .null, .null]))] sz)) 31 1144 (va_A [(h0, .inr (5, [.null, .null, .null, .null, .int 0, .null, .null]))] sz) := by
  refine Met.ofW (cc := cX2_init) (maxL := 1) (ret := none) (by decide) rfl ?_
  intro p e s m args below meth c s₁ B hml hv
  obtain ⟨rfl, hsz, hE, hP, hK, hD0⟩ := hv
  have hx := B.exec
  have hb := B.bytes
  have hr := B.returns
  have hts := fun (w : Cond) (h : w ∈ pv_W) => atoms_spec (ws := Cond.code yX2_init cX2_init 1 none :: pv_W) B.pre w (List.mem_cons_of_mem _ h)
  have hg := fun {w : Cond} (h : w ∈ lw_tbl) (g : goodWord w = true) => hts w (pv_in h g)
  have hown : s.vm.findClass RX2 = some m.cls := findClass_of_methodNamed B.named
  have hlocks := B.notSynchronized
  have hin : meth.name = "<init>" := (name_of_methodNamed B.named B.method).1
  subst hsz
  have hD := hD0.self (sz := s.heap.size)
  generalize hAe : va_A [(h0, .inr (5, [.null, .null, .null, .null, .int 0, .null, .null]))] s.heap.size = A at hD hE ⊢
  have hA : ∀ q : Nat, s.heap.size ≤ q → A q := fun q h => by rw [← hAe]; exact Or.inr h
  have hS : va_S A s.heap s.heap [] := va_S.rf
  have hP : va_P D pv_cl [(h0, .inr (5, [.null, .null, .null, .null, .int 0, .null, .null]))] s.heap := hP
  have hl := lv_entry ([.ref h0]) (n := 1) (Nat.le_of_ble_eq_true rfl)
  rw [lg_entry_eq]
  generalize (lg_sl ([.ref h0]) ++ List.replicate (1 - (lg_sl ([.ref h0])).length) Slot.unset).toArray = ls at hl ⊢
  have hl : lv_has ls 1 [(0, .ref h0)] := hl
  refine lv_aload_n hx hb dX2_init_0 rfl (lv_at hl 0 rfl) ?_
  refine W.objInit (own := RX2) hx hb hown (hg w1_159 rfl) (hg w1_36 rfl) (hg w1_37 rfl) rfl (hl.1.trans hml.symm) (rest := []) rfl dX2_init_1 (Nat.le_of_ble_eq_true rfl) (Nat.le_of_ble_eq_true rfl) ?_
  refine lv_aload_n hx hb dX2_init_4 rfl (lv_at hl 0 rfl) ?_
  refine va_new (own := RX2) (ci := 6) (fs := [.null, .null, .null, .int 0, .int 0]) (C := RX3) (T := TX3) (N := 5) hx hb hts inF3 tyX3 tyX3_ok hown (hg w1_160 rfl) (hg w1_161 rfl) (hg w1_6 rfl) hK hP hD hS hA rfl (by decide +kernel) (Nat.le_of_ble_eq_true rfl) (Nat.le_of_ble_eq_true rfl) dX2_init_5 (fun q_1 H hP hD hS => ?_)
  have hP : va_P D pv_cl [(h0, .inr (5, [.null, .null, .null, .null, .int 0, .null, .null])), (q_1, .inr (6, [.null, .null, .null, .int 0, .int 0]))] _ := hP
  have hD : va_D A [(h0, .inr (5, [.null, .null, .null, .null, .int 0, .null, .null])), (q_1, .inr (6, [.null, .null, .null, .int 0, .int 0]))] := hD
  refine W.widen (k := 1) (n := 5) (Nat.le_of_ble_eq_true rfl) (Nat.le_of_ble_eq_true rfl) ?_
  refine lv_dup hx hb dX2_init_8 rfl ?_
  have hF := va_free (wc := [(q_1, .inr (6, [.null, .null, .null, .int 0, .int 0]))]) hD hS hA [1] rfl
  refine va_callv (va_runIN (As := []) (rest := [.ref q_1, .ref h0]) ⟨hx, hb, hml, hown, hts⟩ (c_X3_init l hfl D _ q_1) ⟨(va_cnB 0 hts (pv_gC w1_164) rfl rfl rfl (hE.2.2.1 _ (pv_ib w1_162 rfl)) (hg w1_6 rfl) (by decide +kernel) ⟨Nat.le_of_ble_eq_true rfl, Nat.le_of_ble_eq_true rfl⟩), rfl, hg w1_163 rfl⟩ (pv_ps hE hS hF (hP.sub [1] rfl) (hK.sub [] rfl) (hD.sub [1] (by decide) rfl)) rfl rfl hl.1 rfl (lv_room (Nat.le_of_ble_eq_true rfl)) dX2_init_9 ⟨Nat.le_of_ble_eq_true rfl, Nat.le_of_ble_eq_true rfl⟩) hS (fun q _ h => hF q h) hF (fun u t H1 locs1 ht hvm hw hB hz1 hk1 hS => ?_)
  refine W.widen (k := 18) (n := 232) (Nat.le_of_ble_eq_true rfl) (Nat.le_of_ble_eq_true rfl) ?_
  obtain ⟨hP, hD⟩ := va_join (wr := [(h0, .inr (5, [.null, .null, .null, .null, .int 0, .null, .null]))]) (w1 := []) hP hD [1] [0] rfl rfl (by decide) (by decide) hk1 hF pv_P0 pv_D0
  have hP : va_P D pv_cl [(h0, .inr (5, [.null, .null, .null, .null, .int 0, .null, .null]))] _ := hP
  have hD : va_D A [(h0, .inr (5, [.null, .null, .null, .null, .int 0, .null, .null]))] := hD
  refine va_putF (own := RX2) (D := D) (ci := 5) (v := .ref q_1) (ty := .object "Polyforge$Divider") (C := RX2) (T := TX2) (N := 7) hx hb hts inF2 tyX2 tyX2_ok nmX2 hown hK hP hD hS 0 rfl rfl 0 (by decide) (hg w2_14 rfl) (fun _ h9 => h9) rfl hin rfl (by decide +kernel) rfl rfl (Nat.le_of_ble_eq_true rfl) dX2_init_12 (fun H locs hP hD hS => ?_)
  have hP : va_P D pv_cl [(h0, .inr (5, [.ref q_1, .null, .null, .null, .int 0, .null, .null]))] _ := hP
  have hD : va_D A [(h0, .inr (5, [.ref q_1, .null, .null, .null, .int 0, .null, .null]))] := hD
  refine lv_aload_n hx hb dX2_init_15 rfl (lv_at hl 0 rfl) ?_
  refine va_new (own := RX2) (ci := 7) (fs := [.int 0, .int 0, .null, .null, .null, .null, .int 0]) (C := RX10) (T := TX10) (N := 7) hx hb hts inF10 tyX10 tyX10_ok hown (hg w1_215 rfl) (hg w1_216 rfl) (hg w1_8 rfl) hK hP hD hS hA rfl (by decide +kernel) (Nat.le_of_ble_eq_true rfl) (Nat.le_of_ble_eq_true rfl) dX2_init_16 (fun q_3 H hP hD hS => ?_)
  have hP : va_P D pv_cl [(h0, .inr (5, [.ref q_1, .null, .null, .null, .int 0, .null, .null])), (q_3, .inr (7, [.int 0, .int 0, .null, .null, .null, .null, .int 0]))] _ := hP
  have hD : va_D A [(h0, .inr (5, [.ref q_1, .null, .null, .null, .int 0, .null, .null])), (q_3, .inr (7, [.int 0, .int 0, .null, .null, .null, .null, .int 0]))] := hD
  refine W.widen (k := 19) (n := 239) (Nat.le_of_ble_eq_true rfl) (Nat.le_of_ble_eq_true rfl) ?_
  refine lv_dup hx hb dX2_init_19 rfl ?_
  refine lv_bipush (v := 16) hx hb dX2_init_20 (by decide) ?_
  refine pv_pc 22 rfl ?_
  refine lv_sipush (v := 256) hx hb dX2_init_22 (by decide) ?_
  have hF := va_free (wc := [(q_3, .inr (7, [.int 0, .int 0, .null, .null, .null, .null, .int 0]))]) hD hS hA [1] rfl
  refine va_callv (va_runI (As := [.int 16, .int 256]) (rest := [.ref q_3, .ref h0]) ⟨hx, hb, hml, hown, hts⟩ (c_X10_init l hfl D _ q_3) (cwI 2 hts (pv_gC w1_219) rfl rfl rfl (hg w1_8 rfl) (hg w1_217 rfl) (hg w1_218 rfl) rfl (by decide +kernel) ⟨Nat.le_of_ble_eq_true rfl, Nat.le_of_ble_eq_true rfl⟩) (pv_ps hE hS hF (hP.sub [1] rfl) (hK.sub [] rfl) (hD.sub [1] (by decide) rfl)) rfl rfl hl.1 rfl (lv_room (Nat.le_of_ble_eq_true rfl)) dX2_init_25 ⟨Nat.le_of_ble_eq_true rfl, Nat.le_of_ble_eq_true rfl⟩) hS (fun q _ h => hF q h) hF (fun u t H1 locs1 ht hvm hw hB hz1 hk1 hS => ?_)
  refine W.widen (k := 23) (n := 592) (Nat.le_of_ble_eq_true rfl) (Nat.le_of_ble_eq_true rfl) ?_
  obtain ⟨hP, hD⟩ := va_join (wr := [(h0, .inr (5, [.ref q_1, .null, .null, .null, .int 0, .null, .null]))]) (w1 := []) hP hD [1] [0] rfl rfl (by decide) (by decide) hk1 hF pv_P0 pv_D0
  have hP : va_P D pv_cl [(h0, .inr (5, [.ref q_1, .null, .null, .null, .int 0, .null, .null]))] _ := hP
  have hD : va_D A [(h0, .inr (5, [.ref q_1, .null, .null, .null, .int 0, .null, .null]))] := hD
  refine va_putF (own := RX2) (D := D) (ci := 5) (v := .ref q_3) (ty := .object "Polyforge$Stock") (C := RX2) (T := TX2) (N := 7) hx hb hts inF2 tyX2 tyX2_ok nmX2 hown hK hP hD hS 0 rfl rfl 1 (by decide) (hg w2_16 rfl) (fun _ h9 => h9) rfl hin rfl (by decide +kernel) rfl rfl (Nat.le_of_ble_eq_true rfl) dX2_init_28 (fun H locs hP hD hS => ?_)
  have hP : va_P D pv_cl [(h0, .inr (5, [.ref q_1, .ref q_3, .null, .null, .int 0, .null, .null]))] _ := hP
  have hD : va_D A [(h0, .inr (5, [.ref q_1, .ref q_3, .null, .null, .int 0, .null, .null]))] := hD
  refine lv_aload_n hx hb dX2_init_31 rfl (lv_at hl 0 rfl) ?_
  refine va_new (own := RX2) (ci := 7) (fs := [.int 0, .int 0, .null, .null, .null, .null, .int 0]) (C := RX10) (T := TX10) (N := 7) hx hb hts inF10 tyX10 tyX10_ok hown (hg w1_215 rfl) (hg w1_216 rfl) (hg w1_8 rfl) hK hP hD hS hA rfl (by decide +kernel) (Nat.le_of_ble_eq_true rfl) (Nat.le_of_ble_eq_true rfl) dX2_init_32 (fun q_5 H hP hD hS => ?_)
  have hP : va_P D pv_cl [(h0, .inr (5, [.ref q_1, .ref q_3, .null, .null, .int 0, .null, .null])), (q_5, .inr (7, [.int 0, .int 0, .null, .null, .null, .null, .int 0]))] _ := hP
  have hD : va_D A [(h0, .inr (5, [.ref q_1, .ref q_3, .null, .null, .int 0, .null, .null])), (q_5, .inr (7, [.int 0, .int 0, .null, .null, .null, .null, .int 0]))] := hD
  refine W.widen (k := 24) (n := 599) (Nat.le_of_ble_eq_true rfl) (Nat.le_of_ble_eq_true rfl) ?_
  refine lv_dup hx hb dX2_init_35 rfl ?_
  refine lv_bipush (v := 16) hx hb dX2_init_36 (by decide) ?_
  refine lv_sipush (v := 256) hx hb dX2_init_38 (by decide) ?_
  have hF := va_free (wc := [(q_5, .inr (7, [.int 0, .int 0, .null, .null, .null, .null, .int 0]))]) hD hS hA [1] rfl
  refine va_callv (va_runI (As := [.int 16, .int 256]) (rest := [.ref q_5, .ref h0]) ⟨hx, hb, hml, hown, hts⟩ (c_X10_init l hfl D _ q_5) (cwI 2 hts (pv_gC w1_219) rfl rfl rfl (hg w1_8 rfl) (hg w1_217 rfl) (hg w1_218 rfl) rfl (by decide +kernel) ⟨Nat.le_of_ble_eq_true rfl, Nat.le_of_ble_eq_true rfl⟩) (pv_ps hE hS hF (hP.sub [1] rfl) (hK.sub [] rfl) (hD.sub [1] (by decide) rfl)) rfl rfl hl.1 rfl (lv_room (Nat.le_of_ble_eq_true rfl)) dX2_init_41 ⟨Nat.le_of_ble_eq_true rfl, Nat.le_of_ble_eq_true rfl⟩) hS (fun q _ h => hF q h) hF (fun u t H1 locs1 ht hvm hw hB hz1 hk1 hS => ?_)
  refine W.widen (k := 28) (n := 952) (Nat.le_of_ble_eq_true rfl) (Nat.le_of_ble_eq_true rfl) ?_
  obtain ⟨hP, hD⟩ := va_join (wr := [(h0, .inr (5, [.ref q_1, .ref q_3, .null, .null, .int 0, .null, .null]))]) (w1 := []) hP hD [1] [0] rfl rfl (by decide) (by decide) hk1 hF pv_P0 pv_D0
  have hP : va_P D pv_cl [(h0, .inr (5, [.ref q_1, .ref q_3, .null, .null, .int 0, .null, .null]))] _ := hP
  have hD : va_D A [(h0, .inr (5, [.ref q_1, .ref q_3, .null, .null, .int 0, .null, .null]))] := hD
  refine va_putF (own := RX2) (D := D) (ci := 5) (v := .ref q_5) (ty := .object "Polyforge$Stock") (C := RX2) (T := TX2) (N := 7) hx hb hts inF2 tyX2 tyX2_ok nmX2 hown hK hP hD hS 0 rfl rfl 2 (by decide) (hg w2_17 rfl) (fun _ h9 => h9) rfl hin rfl (by decide +kernel) rfl rfl (Nat.le_of_ble_eq_true rfl) dX2_init_44 (fun H locs hP hD hS => ?_)
  have hP : va_P D pv_cl [(h0, .inr (5, [.ref q_1, .ref q_3, .ref q_5, .null, .int 0, .null, .null]))] _ := hP
  have hD : va_D A [(h0, .inr (5, [.ref q_1, .ref q_3, .ref q_5, .null, .int 0, .null, .null]))] := hD
  refine lv_aload_n hx hb dX2_init_47 rfl (lv_at hl 0 rfl) ?_
  refine lv_bipush (v := 112) hx hb dX2_init_48 (by decide) ?_
  refine pv_pc 50 rfl ?_
  refine va_newa (atype := .int) hx hb (hg w1_74 rfl) (ty := .int) rfl hK hP hD hS hA (a0 := (112, .inl (fun _ => 0))) (fun _ => rfl) (by decide) (by decide +kernel) (Nat.le_of_ble_eq_true rfl) (Nat.le_of_ble_eq_true rfl) (Nat.le_of_ble_eq_true rfl) dX2_init_50 (fun q_7 cA_8 H hK hP hD hS => ?_)
  have hP : va_P D pv_cl [(h0, .inr (5, [.ref q_1, .ref q_3, .ref q_5, .null, .int 0, .null, .null])), (q_7, .inl (cA_8, 112, .inl (fun _ => 0)))] _ := hP
  have hD : va_D A [(h0, .inr (5, [.ref q_1, .ref q_3, .ref q_5, .null, .int 0, .null, .null])), (q_7, .inl (cA_8, 112, .inl (fun _ => 0)))] := hD
  have hK : va_K D pv_cl [(cA_8, .int)] s := hK
  refine W.widen (k := 29) (n := 1064) (Nat.le_of_ble_eq_true rfl) (Nat.le_of_ble_eq_true rfl) ?_
  refine va_put (own := RX2) (D := D) (ci := 5) (v := .ref q_7) (ty := .array .int) (C := RX2) (T := TX2) (N := 7) hx hb hts inF2 tyX2 tyX2_ok nmX2 hown hK hP hD hS 0 rfl rfl 3 (by decide) (hg w2_18 rfl) (fun _ h9 => h9) rfl (by decide +kernel) rfl rfl (Nat.le_of_ble_eq_true rfl) dX2_init_52 (fun H locs hP hD hS => ?_)
  have hP : va_P D pv_cl [(h0, .inr (5, [.ref q_1, .ref q_3, .ref q_5, .ref q_7, .int 0, .null, .null])), (q_7, .inl (cA_8, 112, .inl (fun _ => 0)))] _ := hP
  have hD : va_D A [(h0, .inr (5, [.ref q_1, .ref q_3, .ref q_5, .ref q_7, .int 0, .null, .null])), (q_7, .inl (cA_8, 112, .inl (fun _ => 0)))] := hD
  have hP : va_P D pv_cl [(h0, .inr (5, [.ref q_1, .ref q_3, .ref q_5, .ref q_7, .int 0, .null, .null]))] _ := hP.sub [0] rfl
  have hD : va_D A [(h0, .inr (5, [.ref q_1, .ref q_3, .ref q_5, .ref q_7, .int 0, .null, .null]))] := hD.sub [0] (by decide) rfl
  have hK : va_K D pv_cl [] s := hK.sub [] rfl
  refine lv_aload_n hx hb dX2_init_55 rfl (lv_at hl 0 rfl) ?_
  refine lv_iconst (v := 0) hx hb dX2_init_56 (by decide) ?_
  refine va_put (own := RX2) (D := D) (ci := 5) (v := .int 0) (ty := .int) (C := RX2) (T := TX2) (N := 7) hx hb hts inF2 tyX2 tyX2_ok nmX2 hown hK hP hD hS 0 rfl rfl 4 (by decide) (hg w2_19 rfl) (fun _ h9 => h9) rfl (by decide +kernel) rfl rfl (Nat.le_of_ble_eq_true rfl) dX2_init_57 (fun H locs hP hD hS => ?_)
  have hP : va_P D pv_cl [(h0, .inr (5, [.ref q_1, .ref q_3, .ref q_5, .ref q_7, .int 0, .null, .null]))] _ := hP
  have hD : va_D A [(h0, .inr (5, [.ref q_1, .ref q_3, .ref q_5, .ref q_7, .int 0, .null, .null]))] := hD
  refine lv_aload_n hx hb dX2_init_60 rfl (lv_at hl 0 rfl) ?_
  refine lv_bipush (v := 64) hx hb dX2_init_61 (by decide) ?_
  refine va_newa (atype := .int) hx hb (hg w1_74 rfl) (ty := .int) rfl hK hP hD hS hA (a0 := (64, .inl (fun _ => 0))) (fun _ => rfl) (by decide) (by decide +kernel) (Nat.le_of_ble_eq_true rfl) (Nat.le_of_ble_eq_true rfl) (Nat.le_of_ble_eq_true rfl) dX2_init_63 (fun q_9 cA_10 H hK hP hD hS => ?_)
  have hP : va_P D pv_cl [(h0, .inr (5, [.ref q_1, .ref q_3, .ref q_5, .ref q_7, .int 0, .null, .null])), (q_9, .inl (cA_10, 64, .inl (fun _ => 0)))] _ := hP
  have hD : va_D A [(h0, .inr (5, [.ref q_1, .ref q_3, .ref q_5, .ref q_7, .int 0, .null, .null])), (q_9, .inl (cA_10, 64, .inl (fun _ => 0)))] := hD
  have hK : va_K D pv_cl [(cA_10, .int)] s := hK
  refine W.widen (k := 30) (n := 1128) (Nat.le_of_ble_eq_true rfl) (Nat.le_of_ble_eq_true rfl) ?_
  refine va_put (own := RX2) (D := D) (ci := 5) (v := .ref q_9) (ty := .array .int) (C := RX2) (T := TX2) (N := 7) hx hb hts inF2 tyX2 tyX2_ok nmX2 hown hK hP hD hS 0 rfl rfl 5 (by decide) (hg w2_20 rfl) (fun _ h9 => h9) rfl (by decide +kernel) rfl rfl (Nat.le_of_ble_eq_true rfl) dX2_init_65 (fun H locs hP hD hS => ?_)
  have hP : va_P D pv_cl [(h0, .inr (5, [.ref q_1, .ref q_3, .ref q_5, .ref q_7, .int 0, .ref q_9, .null])), (q_9, .inl (cA_10, 64, .inl (fun _ => 0)))] _ := hP
  have hD : va_D A [(h0, .inr (5, [.ref q_1, .ref q_3, .ref q_5, .ref q_7, .int 0, .ref q_9, .null])), (q_9, .inl (cA_10, 64, .inl (fun _ => 0)))] := hD
  have hP : va_P D pv_cl [(h0, .inr (5, [.ref q_1, .ref q_3, .ref q_5, .ref q_7, .int 0, .ref q_9, .null]))] _ := hP.sub [0] rfl
  have hD : va_D A [(h0, .inr (5, [.ref q_1, .ref q_3, .ref q_5, .ref q_7, .int 0, .ref q_9, .null]))] := hD.sub [0] (by decide) rfl
  have hK : va_K D pv_cl [] s := hK.sub [] rfl
  refine lv_aload_n hx hb dX2_init_68 rfl (lv_at hl 0 rfl) ?_
  refine lv_bipush (v := 16) hx hb dX2_init_69 (by decide) ?_
  refine va_newa (atype := .int) hx hb (hg w1_74 rfl) (ty := .int) rfl hK hP hD hS hA (a0 := (16, .inl (fun _ => 0))) (fun _ => rfl) (by decide) (by decide +kernel) (Nat.le_of_ble_eq_true rfl) (Nat.le_of_ble_eq_true rfl) (Nat.le_of_ble_eq_true rfl) dX2_init_71 (fun q_11 cA_12 H hK hP hD hS => ?_)
  have hP : va_P D pv_cl [(h0, .inr (5, [.ref q_1, .ref q_3, .ref q_5, .ref q_7, .int 0, .ref q_9, .null])), (q_11, .inl (cA_12, 16, .inl (fun _ => 0)))] _ := hP
  have hD : va_D A [(h0, .inr (5, [.ref q_1, .ref q_3, .ref q_5, .ref q_7, .int 0, .ref q_9, .null])), (q_11, .inl (cA_12, 16, .inl (fun _ => 0)))] := hD
  have hK : va_K D pv_cl [(cA_12, .int)] s := hK
  refine W.widen (k := 31) (n := 1144) (Nat.le_of_ble_eq_true rfl) (Nat.le_of_ble_eq_true rfl) ?_
  refine pv_pc 73 rfl ?_
  refine va_put (own := RX2) (D := D) (ci := 5) (v := .ref q_11) (ty := .array .int) (C := RX2) (T := TX2) (N := 7) hx hb hts inF2 tyX2 tyX2_ok nmX2 hown hK hP hD hS 0 rfl rfl 6 (by decide) (hg w2_21 rfl) (fun _ h9 => h9) rfl (by decide +kernel) rfl rfl (Nat.le_of_ble_eq_true rfl) dX2_init_73 (fun H locs hP hD hS => ?_)
  have hP : va_P D pv_cl [(h0, .inr (5, [.ref q_1, .ref q_3, .ref q_5, .ref q_7, .int 0, .ref q_9, .ref q_11])), (q_11, .inl (cA_12, 16, .inl (fun _ => 0)))] _ := hP
  have hD : va_D A [(h0, .inr (5, [.ref q_1, .ref q_3, .ref q_5, .ref q_7, .int 0, .ref q_9, .ref q_11])), (q_11, .inl (cA_12, 16, .inl (fun _ => 0)))] := hD
  have hP : va_P D pv_cl [(h0, .inr (5, [.ref q_1, .ref q_3, .ref q_5, .ref q_7, .int 0, .ref q_9, .ref q_11]))] _ := hP.sub [0] rfl
  have hD : va_D A [(h0, .inr (5, [.ref q_1, .ref q_3, .ref q_5, .ref q_7, .int 0, .ref q_9, .ref q_11]))] := hD.sub [0] (by decide) rfl
  have hK : va_K D pv_cl [] s := hK.sub [] rfl
  refine W.widen (k := 31) (n := 1144) (Nat.le_of_ble_eq_true rfl) (Nat.le_of_ble_eq_true rfl) ?_
  exact W.vret hx hb hr (fun t ht hW => ⟨⟨(), rfl, trivial, (fun k => ([q_1, q_3, q_5, q_7, q_9, q_11] : List Nat).getD k 0), (by rw [ht]; exact hP.sub [0] rfl), va_K.moved hW.alike (hK.sub [] rfl), hD.sub [0] (by decide) rfl⟩, hS.F ht⟩) hS.2.2 dX2_init_76

theorem dX11_init_0 : decode cX11_init 0 = .ok (.aload_n 0, 1) := by decide +kernel
theorem dX11_init_1 : decode cX11_init 1 = .ok (.invokespecial 1, 3) := by decide +kernel
theorem w1_35 : (Jvm.Cond.methodLink "Polyforge" (1 : Nat) ({ cls := "java/lang/Object", name := "<init>", desc := "()V" } : Jvm.MethodName)) ∈ lw_tbl := pv_t1 (pv_mg 35 rfl)
theorem dX11_init_4 : decode cX11_init 4 = .ok (.aload_n 0, 1) := by decide +kernel
theorem dX11_init_5 : decode cX11_init 5 = .ok (.bipush 60, 2) := by decide +kernel
theorem dX11_init_7 : decode cX11_init 7 = .ok (.anewarray 9, 3) := by decide +kernel
theorem dX11_init_10 : decode cX11_init 10 = .ok (.putfield 11, 3) := by decide +kernel
theorem dX11_init_13 : decode cX11_init 13 = .ok (.aload_n 0, 1) := by decide +kernel
theorem dX11_init_14 : decode cX11_init 14 = .ok (.iconst 0, 1) := by decide +kernel
theorem dX11_init_15 : decode cX11_init 15 = .ok (.putfield 15, 3) := by decide +kernel
theorem dX11_init_18 : decode cX11_init 18 = .ok (.aload_n 0, 1) := by decide +kernel
theorem dX11_init_19 : decode cX11_init 19 = .ok (.bipush 108, 2) := by decide +kernel
theorem dX11_init_21 : decode cX11_init 21 = .ok (.putfield 19, 3) := by decide +kernel
theorem dX11_init_24 : decode cX11_init 24 = .ok (.aload_n 0, 1) := by decide +kernel
theorem dX11_init_25 : decode cX11_init 25 = .ok (.iconst 5, 1) := by decide +kernel
theorem dX11_init_26 : decode cX11_init 26 = .ok (.anewarray 23, 3) := by decide +kernel
theorem dX11_init_29 : decode cX11_init 29 = .ok (.putfield 25, 3) := by decide +kernel
theorem dX11_init_32 : decode cX11_init 32 = .ok (.aload_n 0, 1) := by decide +kernel
theorem dX11_init_33 : decode cX11_init 33 = .ok (.iconst 0, 1) := by decide +kernel
theorem dX11_init_34 : decode cX11_init 34 = .ok (.putfield 29, 3) := by decide +kernel
theorem dX11_init_37 : decode cX11_init 37 = .ok (.aload_n 0, 1) := by decide +kernel
theorem dX11_init_38 : decode cX11_init 38 = .ok (.bipush 8, 2) := by decide +kernel
theorem dX11_init_40 : decode cX11_init 40 = .ok (.anewarray 32, 3) := by decide +kernel
theorem w1_42 : (Jvm.Cond.classLink "Polyforge" (32 : Nat) "Polyforge$Rule") ∈ lw_tbl := pv_t1 (pv_mg 42 rfl)
theorem dX11_init_43 : decode cX11_init 43 = .ok (.putfield 34, 3) := by decide +kernel
theorem w2_42 : (Jvm.Cond.fieldLink "Polyforge" (34 : Nat) "Polyforge" "rules" "[LPolyforge$Rule;") ∈ lw_tbl := pv_t2 (pv_mg 42 rfl)
theorem dX11_init_46 : decode cX11_init 46 = .ok (.aload_n 0, 1) := by decide +kernel
theorem dX11_init_47 : decode cX11_init 47 = .ok (.iconst 0, 1) := by decide +kernel
theorem dX11_init_48 : decode cX11_init 48 = .ok (.putfield 38, 3) := by decide +kernel
theorem w2_43 : (Jvm.Cond.fieldLink "Polyforge" (38 : Nat) "Polyforge" "ruleCount" "I") ∈ lw_tbl := pv_t2 (pv_mg 43 rfl)
theorem dX11_init_51 : decode cX11_init 51 = .ok (.aload_n 0, 1) := by decide +kernel
theorem dX11_init_52 : decode cX11_init 52 = .ok (.iconst 3, 1) := by decide +kernel
theorem dX11_init_53 : decode cX11_init 53 = .ok (.newarray .char, 2) := by decide +kernel
theorem w1_73 : (Jvm.Cond.arrayClass Jvm.ClassFile.FieldType.char) ∈ lw_tbl := pv_t1 (pv_mg 73 rfl)
theorem dX11_init_55 : decode cX11_init 55 = .ok (.dup, 1) := by decide +kernel
theorem dX11_init_56 : decode cX11_init 56 = .ok (.iconst 0, 1) := by decide +kernel
theorem dX11_init_57 : decode cX11_init 57 = .ok (.bipush 63, 2) := by decide +kernel
theorem dX11_init_59 : decode cX11_init 59 = .ok (.castore, 1) := by decide +kernel
theorem dX11_init_60 : decode cX11_init 60 = .ok (.dup, 1) := by decide +kernel
theorem dX11_init_61 : decode cX11_init 61 = .ok (.iconst 1, 1) := by decide +kernel
theorem dX11_init_62 : decode cX11_init 62 = .ok (.bipush 63, 2) := by decide +kernel
theorem dX11_init_64 : decode cX11_init 64 = .ok (.castore, 1) := by decide +kernel
theorem dX11_init_65 : decode cX11_init 65 = .ok (.dup, 1) := by decide +kernel
theorem dX11_init_66 : decode cX11_init 66 = .ok (.iconst 2, 1) := by decide +kernel
theorem dX11_init_67 : decode cX11_init 67 = .ok (.bipush 63, 2) := by decide +kernel
theorem dX11_init_69 : decode cX11_init 69 = .ok (.castore, 1) := by decide +kernel
theorem dX11_init_70 : decode cX11_init 70 = .ok (.putfield 41, 3) := by decide +kernel
theorem dX11_init_73 : decode cX11_init 73 = .ok (.aload_n 0, 1) := by decide +kernel
theorem dX11_init_74 : decode cX11_init 74 = .ok (.iconst 3, 1) := by decide +kernel
theorem dX11_init_75 : decode cX11_init 75 = .ok (.newarray .int, 2) := by decide +kernel
theorem dX11_init_77 : decode cX11_init 77 = .ok (.putfield 45, 3) := by decide +kernel
theorem dX11_init_80 : decode cX11_init 80 = .ok (.aload_n 0, 1) := by decide +kernel
theorem dX11_init_81 : decode cX11_init 81 = .ok (.iconst 1, 1) := by decide +kernel
theorem dX11_init_82 : decode cX11_init 82 = .ok (.putfield 49, 3) := by decide +kernel
theorem dX11_init_85 : decode cX11_init 85 = .ok (.aload_n 0, 1) := by decide +kernel
theorem dX11_init_86 : decode cX11_init 86 = .ok (.bipush 91, 2) := by decide +kernel
theorem dX11_init_88 : decode cX11_init 88 = .ok (.newarray .int, 2) := by decide +kernel
theorem dX11_init_90 : decode cX11_init 90 = .ok (.putfield 52, 3) := by decide +kernel
theorem w2_47 : (Jvm.Cond.fieldLink "Polyforge" (52 : Nat) "Polyforge" "tally" "[I") ∈ lw_tbl := pv_t2 (pv_mg 47 rfl)
theorem dX11_init_93 : decode cX11_init 93 = .ok (.aload_n 0, 1) := by decide +kernel
theorem dX11_init_94 : decode cX11_init 94 = .ok (.new 55, 3) := by decide +kernel
theorem w1_44 : (Jvm.Cond.classLink "Polyforge" (55 : Nat) "Polyforge$Slate") ∈ lw_tbl := pv_t1 (pv_mg 44 rfl)
theorem w1_45 : (Jvm.Cond.instantiable "Polyforge$Slate" (6 : Nat)) ∈ lw_tbl := pv_t1 (pv_mg 45 rfl)
theorem dX11_init_97 : decode cX11_init 97 = .ok (.dup, 1) := by decide +kernel
theorem dX11_init_98 : decode cX11_init 98 = .ok (.invokespecial 57, 3) := by decide +kernel
theorem w1_46 : (Jvm.Cond.methodLinkNest "Polyforge" (57 : Nat) ({ cls := "Polyforge$Slate", name := "<init>", desc := "()V" } : Jvm.MethodName) "Polyforge") ∈ lw_tbl := pv_t1 (pv_mg 46 rfl)
theorem w1_48 : (Jvm.Cond.code ({ cls := "Polyforge$Slate", name := "<init>", desc := "()V" } : Jvm.MethodName) prog_11_method_1_code (1 : Nat) (Option.none : Option Jvm.ClassFile.FieldType)) ∈ lw_tbl := pv_t1 (pv_mg 48 rfl)
theorem w1_47 : (Jvm.Cond.instanceMethod ({ cls := "Polyforge$Slate", name := "<init>", desc := "()V" } : Jvm.MethodName)) ∈ lw_tbl := pv_t1 (pv_mg 47 rfl)
theorem dX11_init_101 : decode cX11_init 101 = .ok (.putfield 58, 3) := by decide +kernel
theorem dX11_init_104 : decode cX11_init 104 = .ok (.aload_n 0, 1) := by decide +kernel
theorem dX11_init_105 : decode cX11_init 105 = .ok (.new 62, 3) := by decide +kernel
theorem w1_76 : (Jvm.Cond.classLink "Polyforge" (62 : Nat) "Polyforge$Bench") ∈ lw_tbl := pv_t1 (pv_mg 76 rfl)
theorem w1_77 : (Jvm.Cond.instantiable "Polyforge$Bench" (18 : Nat)) ∈ lw_tbl := pv_t1 (pv_mg 77 rfl)
theorem w1_3 : (Jvm.Cond.initialized "Polyforge$Bench") ∈ lw_tbl := pv_t1 (pv_mg 3 rfl)
theorem dX11_init_108 : decode cX11_init 108 = .ok (.dup, 1) := by decide +kernel
theorem dX11_init_109 : decode cX11_init 109 = .ok (.invokespecial 64, 3) := by decide +kernel
theorem w1_78 : (Jvm.Cond.methodLink "Polyforge" (64 : Nat) ({ cls := "Polyforge$Bench", name := "<init>", desc := "()V" } : Jvm.MethodName)) ∈ lw_tbl := pv_t1 (pv_mg 78 rfl)
theorem w1_80 : (Jvm.Cond.code ({ cls := "Polyforge$Bench", name := "<init>", desc := "()V" } : Jvm.MethodName) prog_2_method_1_code (2 : Nat) (Option.none : Option Jvm.ClassFile.FieldType)) ∈ lw_tbl := pv_t1 (pv_mg 80 rfl)
theorem w1_79 : (Jvm.Cond.instanceMethod ({ cls := "Polyforge$Bench", name := "<init>", desc := "()V" } : Jvm.MethodName)) ∈ lw_tbl := pv_t1 (pv_mg 79 rfl)
theorem dX11_init_112 : decode cX11_init 112 = .ok (.putfield 65, 3) := by decide +kernel
theorem w2_49 : (Jvm.Cond.fieldLink "Polyforge" (65 : Nat) "Polyforge" "bench" "LPolyforge$Bench;") ∈ lw_tbl := pv_t2 (pv_mg 49 rfl)
theorem dX11_init_115 : decode cX11_init 115 = .ok (.aload_n 0, 1) := by decide +kernel
theorem dX11_init_116 : decode cX11_init 116 = .ok (.new 69, 3) := by decide +kernel
theorem w1_154 : (Jvm.Cond.classLink "Polyforge" (69 : Nat) "Polyforge$Completion") ∈ lw_tbl := pv_t1 (pv_mg 154 rfl)
theorem w1_155 : (Jvm.Cond.instantiable "Polyforge$Completion" (7 : Nat)) ∈ lw_tbl := pv_t1 (pv_mg 155 rfl)
theorem w1_5 : (Jvm.Cond.initialized "Polyforge$Completion") ∈ lw_tbl := pv_t1 (pv_mg 5 rfl)
theorem dX11_init_119 : decode cX11_init 119 = .ok (.dup, 1) := by decide +kernel
theorem dX11_init_120 : decode cX11_init 120 = .ok (.invokespecial 71, 3) := by decide +kernel
theorem w1_156 : (Jvm.Cond.methodLinkNest "Polyforge" (71 : Nat) ({ cls := "Polyforge$Completion", name := "<init>", desc := "()V" } : Jvm.MethodName) "Polyforge") ∈ lw_tbl := pv_t1 (pv_mg 156 rfl)
theorem w1_158 : (Jvm.Cond.code ({ cls := "Polyforge$Completion", name := "<init>", desc := "()V" } : Jvm.MethodName) prog_4_method_1_code (1 : Nat) (Option.none : Option Jvm.ClassFile.FieldType)) ∈ lw_tbl := pv_t1 (pv_mg 158 rfl)
theorem w1_157 : (Jvm.Cond.instanceMethod ({ cls := "Polyforge$Completion", name := "<init>", desc := "()V" } : Jvm.MethodName)) ∈ lw_tbl := pv_t1 (pv_mg 157 rfl)
theorem dX11_init_123 : decode cX11_init 123 = .ok (.putfield 72, 3) := by decide +kernel
theorem w2_50 : (Jvm.Cond.fieldLink "Polyforge" (72 : Nat) "Polyforge" "completion" "LPolyforge$Completion;") ∈ lw_tbl := pv_t2 (pv_mg 50 rfl)
theorem dX11_init_126 : decode cX11_init 126 = .ok (.aload_n 0, 1) := by decide +kernel
theorem dX11_init_127 : decode cX11_init 127 = .ok (.aload_n 0, 1) := by decide +kernel
theorem dX11_init_128 : decode cX11_init 128 = .ok (.getfield 72, 3) := by decide +kernel
theorem dX11_init_131 : decode cX11_init 131 = .ok (.getfield 76, 3) := by decide +kernel
theorem w2_15 : (Jvm.Cond.fieldLinkNest "Polyforge" (76 : Nat) "Polyforge$Completion" "divider" "LPolyforge$Divider;" "Polyforge") ∈ lw_tbl := pv_t2 (pv_mg 15 rfl)
theorem dX11_init_134 : decode cX11_init 134 = .ok (.putfield 80, 3) := by decide +kernel
theorem w2_51 : (Jvm.Cond.fieldLink "Polyforge" (80 : Nat) "Polyforge" "divider" "LPolyforge$Divider;") ∈ lw_tbl := pv_t2 (pv_mg 51 rfl)
theorem dX11_init_137 : decode cX11_init 137 = .ok (.return_, 1) := by decide +kernel
set_option maxHeartbeats 4000000 in
set_option maxRecDepth 100000 in
/-- a new Polyforge -/
theorem c_X11_init (l : Launch) (hfl : l.stackTraces = false) (D : va_G) (sz : Nat) (h0 : Nat) : Met l yX11_init (Cond.code yX11_init cX11_init 1 none :: pv_W) ({ frames := 4, cells := 84, slots := 38499, locals := 100 } : Room) (va_Pc [.ref h0] (pv_P D [] [(h0, .inr (0, [.null, .int 0, .int 0, .null, .int 0, .null, .int 0, .null, .null, .int 0, .null, .null, .null, .null, .null]))] (va_A [(h0, .inr (0, [.null, .int 0, .int 0, .null, .int 0, .null, .int 0, .null, .null, .int 0, .null, .null, .null, .null, .null]))] sz) sz)) (va_Qv (fun (_ : Unit) => True) (fun _ t => ∃ (q w : Nat → Nat) (cJ cP cO cC cI : ClassId) (sg sf : Nat → Int32), (∀ j, j < 3 → sg j = 63) ∧ va_P D pv_cl [(h0, .inr (0, [.ref (q 0), .int 0, .int 108, .ref (q 1), .int 0, .ref (q 2), .int 0, .ref (q 3), .ref (q 4), .int 1, .ref (q 5), .ref (q 6), .ref (q 7), .ref (q 8), .ref (q 9)])), ((q 6), .inr (2, [.ref (w 0), .ref (w 1), .ref (w 2), .ref (w 3), .int 0, .int 0])), ((w 2), .inl (cJ, 64, .inr (.inl (fun _ => 0)))), ((q 0), .inl (cP, 60, .inr (.inr (.inr (.inr (fun _ => none)))))), ((q 1), .inl (cO, 5, .inr (.inr (.inr (.inr (fun _ => none)))))), ((q 3), .inl (cC, 3, .inl sg)), ((q 4), .inl (cI, 3, .inl sf))] t.heap ∧ va_K D pv_cl [(cJ, .long), (cP, .object "Polyforge$Polynomial"), (cO, .object "Polyforge$Ideal"), (cC, .char), (cI, .int)] t ∧ va_D (va_A [(h0, .inr (0, [.null, .int 0, .int 0, .null, .int 0, .null, .int 0, .null, .null, .int 0, .null, .null, .null, .null, .null]))] sz) [(h0, .inr (0, [.ref (q 0), .int 0, .int 108, .ref (q 1), .int 0, .ref (q 2), .int 0, .ref (q 3), .ref (q 4), .int 1, .ref (q 5), .ref (q 6), .ref (q 7), .ref (q 8), .ref (q 9)])), ((q 6), .inr (2, [.ref (w 0), .ref (w 1), .ref (w 2), .ref (w 3), .int 0, .int 0])), ((w 2), .inl (cJ, 64, .inr (.inl (fun _ => 0)))), ((q 0), .inl (cP, 60, .inr (.inr (.inr (.inr (fun _ => none)))))), ((q 1), .inl (cO, 5, .inr (.inr (.inr (.inr (fun _ => none)))))), ((q 3), .inl (cC, 3, .inl sg)), ((q 4), .inl (cI, 3, .inl sf))]) (va_A [(h0, .inr (0, [.null, .int 0, .int 0, .null, .int 0, .null, .int 0, .null, .null, .int 0, .null, .null, .null, .null, .null]))] sz)) 84 38499 (va_A [(h0, .inr (0, [.null, .int 0, .int 0, .null, .int 0, .null, .int 0, .null, .null, .int 0, .null, .null, .null, .null, .null]))] sz) := by
  refine Met.ofW (cc := cX11_init) (maxL := 1) (ret := none) (by decide) rfl ?_
  intro p e s m args below meth c s₁ B hml hv
  obtain ⟨rfl, hsz, hE, hP, hK, hD0⟩ := hv
  have hx := B.exec
  have hb := B.bytes
  have hr := B.returns
  have hts := fun (w : Cond) (h : w ∈ pv_W) => atoms_spec (ws := Cond.code yX11_init cX11_init 1 none :: pv_W) B.pre w (List.mem_cons_of_mem _ h)
  have hg := fun {w : Cond} (h : w ∈ lw_tbl) (g : goodWord w = true) => hts w (pv_in h g)
  have hown : s.vm.findClass RX11 = some m.cls := findClass_of_methodNamed B.named
  have hlocks := B.notSynchronized
  have hin : meth.name = "<init>" := (name_of_methodNamed B.named B.method).1
  subst hsz
  have hD := hD0.self (sz := s.heap.size)
  generalize hAe : va_A [(h0, .inr (0, [.null, .int 0, .int 0, .null, .int 0, .null, .int 0, .null, .null, .int 0, .null, .null, .null, .null, .null]))] s.heap.size = A at hD hE ⊢
  have hA : ∀ q : Nat, s.heap.size ≤ q → A q := fun q h => by rw [← hAe]; exact Or.inr h
  have hS : va_S A s.heap s.heap [] := va_S.rf
  have hP : va_P D pv_cl [(h0, .inr (0, [.null, .int 0, .int 0, .null, .int 0, .null, .int 0, .null, .null, .int 0, .null, .null, .null, .null, .null]))] s.heap := hP
  have hl := lv_entry ([.ref h0]) (n := 1) (Nat.le_of_ble_eq_true rfl)
  rw [lg_entry_eq]
  generalize (lg_sl ([.ref h0]) ++ List.replicate (1 - (lg_sl ([.ref h0])).length) Slot.unset).toArray = ls at hl ⊢
  have hl : lv_has ls 1 [(0, .ref h0)] := hl
  refine lv_aload_n hx hb dX11_init_0 rfl (lv_at hl 0 rfl) ?_
  refine W.objInit (own := RX11) hx hb hown (hg w1_35 rfl) (hg w1_36 rfl) (hg w1_37 rfl) rfl (hl.1.trans hml.symm) (rest := []) rfl dX11_init_1 (Nat.le_of_ble_eq_true rfl) (Nat.le_of_ble_eq_true rfl) ?_
  refine lv_aload_n hx hb dX11_init_4 rfl (lv_at hl 0 rfl) ?_
  refine lv_bipush (v := 60) hx hb dX11_init_5 (by decide) ?_
  refine va_newq (own := RX11) (C := "Polyforge$Polynomial") (N' := 60) hx hb hown (hg w1_38 rfl) (pv_ao (C := "Polyforge$Polynomial") hE (by simp [pv_ot])) hK hP hD hS hA (by decide) (by decide +kernel) (Nat.le_of_ble_eq_true rfl) (Nat.le_of_ble_eq_true rfl) (Nat.le_of_ble_eq_true rfl) dX11_init_7 (fun q_1 cA_2 H hK hP hD hS => ?_)
  have hP : va_P D pv_cl [(h0, .inr (0, [.null, .int 0, .int 0, .null, .int 0, .null, .int 0, .null, .null, .int 0, .null, .null, .null, .null, .null])), (q_1, .inl (cA_2, 60, .inr (.inr (.inr (.inr (fun _ => none))))))] _ := hP
  have hD : va_D A [(h0, .inr (0, [.null, .int 0, .int 0, .null, .int 0, .null, .int 0, .null, .null, .int 0, .null, .null, .null, .null, .null])), (q_1, .inl (cA_2, 60, .inr (.inr (.inr (.inr (fun _ => none))))))] := hD
  have hK : va_K D pv_cl [(cA_2, .object "Polyforge$Polynomial")] s := hK
  refine W.widen (k := 1) (n := 60) (Nat.le_of_ble_eq_true rfl) (Nat.le_of_ble_eq_true rfl) ?_
  refine va_putF (own := RX11) (D := D) (ci := 0) (v := .ref q_1) (ty := .array (.object "Polyforge$Polynomial")) (C := RX11) (T := TX11) (N := 15) hx hb hts inF11 tyX11 tyX11_ok nmX11 hown hK hP hD hS 0 rfl rfl 0 (by decide) (hg w2_37 rfl) (fun _ h9 => h9) rfl hin rfl (by decide +kernel) rfl rfl (Nat.le_of_ble_eq_true rfl) dX11_init_10 (fun H locs hP hD hS => ?_)
  have hP : va_P D pv_cl [(h0, .inr (0, [.ref q_1, .int 0, .int 0, .null, .int 0, .null, .int 0, .null, .null, .int 0, .null, .null, .null, .null, .null])), (q_1, .inl (cA_2, 60, .inr (.inr (.inr (.inr (fun _ => none))))))] _ := hP
  have hD : va_D A [(h0, .inr (0, [.ref q_1, .int 0, .int 0, .null, .int 0, .null, .int 0, .null, .null, .int 0, .null, .null, .null, .null, .null])), (q_1, .inl (cA_2, 60, .inr (.inr (.inr (.inr (fun _ => none))))))] := hD
  refine lv_aload_n hx hb dX11_init_13 rfl (lv_at hl 0 rfl) ?_
  refine lv_iconst (v := 0) hx hb dX11_init_14 (by decide) ?_
  refine va_put (own := RX11) (D := D) (ci := 0) (v := .int 0) (ty := .int) (C := RX11) (T := TX11) (N := 15) hx hb hts inF11 tyX11 tyX11_ok nmX11 hown hK hP hD hS 0 rfl rfl 1 (by decide) (hg w2_38 rfl) (fun _ h9 => h9) rfl (by decide +kernel) rfl rfl (Nat.le_of_ble_eq_true rfl) dX11_init_15 (fun H locs hP hD hS => ?_)
  have hP : va_P D pv_cl [(h0, .inr (0, [.ref q_1, .int 0, .int 0, .null, .int 0, .null, .int 0, .null, .null, .int 0, .null, .null, .null, .null, .null])), (q_1, .inl (cA_2, 60, .inr (.inr (.inr (.inr (fun _ => none))))))] _ := hP
  have hD : va_D A [(h0, .inr (0, [.ref q_1, .int 0, .int 0, .null, .int 0, .null, .int 0, .null, .null, .int 0, .null, .null, .null, .null, .null])), (q_1, .inl (cA_2, 60, .inr (.inr (.inr (.inr (fun _ => none))))))] := hD
  refine lv_aload_n hx hb dX11_init_18 rfl (lv_at hl 0 rfl) ?_
  refine lv_bipush (v := 108) hx hb dX11_init_19 (by decide) ?_
  refine pv_pc 21 rfl ?_
  refine va_put (own := RX11) (D := D) (ci := 0) (v := .int 108) (ty := .char) (C := RX11) (T := TX11) (N := 15) hx hb hts inF11 tyX11 tyX11_ok nmX11 hown hK hP hD hS 0 rfl rfl 2 (by decide) (hg w2_39 rfl) (fun _ h9 => h9) rfl (by decide +kernel) rfl rfl (Nat.le_of_ble_eq_true rfl) dX11_init_21 (fun H locs hP hD hS => ?_)
  have hP : va_P D pv_cl [(h0, .inr (0, [.ref q_1, .int 0, .int 108, .null, .int 0, .null, .int 0, .null, .null, .int 0, .null, .null, .null, .null, .null])), (q_1, .inl (cA_2, 60, .inr (.inr (.inr (.inr (fun _ => none))))))] _ := hP
  have hD : va_D A [(h0, .inr (0, [.ref q_1, .int 0, .int 108, .null, .int 0, .null, .int 0, .null, .null, .int 0, .null, .null, .null, .null, .null])), (q_1, .inl (cA_2, 60, .inr (.inr (.inr (.inr (fun _ => none))))))] := hD
  refine lv_aload_n hx hb dX11_init_24 rfl (lv_at hl 0 rfl) ?_
  refine lv_iconst (v := 5) hx hb dX11_init_25 (by decide) ?_
  refine va_newq (own := RX11) (C := "Polyforge$Ideal") (N' := 5) hx hb hown (hg w1_40 rfl) (pv_ao (C := "Polyforge$Ideal") hE (by simp [pv_ot])) hK hP hD hS hA (by decide) (by decide +kernel) (Nat.le_of_ble_eq_true rfl) (Nat.le_of_ble_eq_true rfl) (Nat.le_of_ble_eq_true rfl) dX11_init_26 (fun q_3 cA_4 H hK hP hD hS => ?_)
  have hP : va_P D pv_cl [(h0, .inr (0, [.ref q_1, .int 0, .int 108, .null, .int 0, .null, .int 0, .null, .null, .int 0, .null, .null, .null, .null, .null])), (q_1, .inl (cA_2, 60, .inr (.inr (.inr (.inr (fun _ => none)))))), (q_3, .inl (cA_4, 5, .inr (.inr (.inr (.inr (fun _ => none))))))] _ := hP
  have hD : va_D A [(h0, .inr (0, [.ref q_1, .int 0, .int 108, .null, .int 0, .null, .int 0, .null, .null, .int 0, .null, .null, .null, .null, .null])), (q_1, .inl (cA_2, 60, .inr (.inr (.inr (.inr (fun _ => none)))))), (q_3, .inl (cA_4, 5, .inr (.inr (.inr (.inr (fun _ => none))))))] := hD
  have hK : va_K D pv_cl [(cA_2, .object "Polyforge$Polynomial"), (cA_4, .object "Polyforge$Ideal")] s := hK
  refine W.widen (k := 2) (n := 65) (Nat.le_of_ble_eq_true rfl) (Nat.le_of_ble_eq_true rfl) ?_
  refine va_putF (own := RX11) (D := D) (ci := 0) (v := .ref q_3) (ty := .array (.object "Polyforge$Ideal")) (C := RX11) (T := TX11) (N := 15) hx hb hts inF11 tyX11 tyX11_ok nmX11 hown hK hP hD hS 0 rfl rfl 3 (by decide) (hg w2_40 rfl) (fun _ h9 => h9) rfl hin rfl (by decide +kernel) rfl rfl (Nat.le_of_ble_eq_true rfl) dX11_init_29 (fun H locs hP hD hS => ?_)
  have hP : va_P D pv_cl [(h0, .inr (0, [.ref q_1, .int 0, .int 108, .ref q_3, .int 0, .null, .int 0, .null, .null, .int 0, .null, .null, .null, .null, .null])), (q_1, .inl (cA_2, 60, .inr (.inr (.inr (.inr (fun _ => none)))))), (q_3, .inl (cA_4, 5, .inr (.inr (.inr (.inr (fun _ => none))))))] _ := hP
  have hD : va_D A [(h0, .inr (0, [.ref q_1, .int 0, .int 108, .ref q_3, .int 0, .null, .int 0, .null, .null, .int 0, .null, .null, .null, .null, .null])), (q_1, .inl (cA_2, 60, .inr (.inr (.inr (.inr (fun _ => none)))))), (q_3, .inl (cA_4, 5, .inr (.inr (.inr (.inr (fun _ => none))))))] := hD
  refine lv_aload_n hx hb dX11_init_32 rfl (lv_at hl 0 rfl) ?_
  refine lv_iconst (v := 0) hx hb dX11_init_33 (by decide) ?_
  refine va_put (own := RX11) (D := D) (ci := 0) (v := .int 0) (ty := .int) (C := RX11) (T := TX11) (N := 15) hx hb hts inF11 tyX11 tyX11_ok nmX11 hown hK hP hD hS 0 rfl rfl 4 (by decide) (hg w2_41 rfl) (fun _ h9 => h9) rfl (by decide +kernel) rfl rfl (Nat.le_of_ble_eq_true rfl) dX11_init_34 (fun H locs hP hD hS => ?_)
  have hP : va_P D pv_cl [(h0, .inr (0, [.ref q_1, .int 0, .int 108, .ref q_3, .int 0, .null, .int 0, .null, .null, .int 0, .null, .null, .null, .null, .null])), (q_1, .inl (cA_2, 60, .inr (.inr (.inr (.inr (fun _ => none)))))), (q_3, .inl (cA_4, 5, .inr (.inr (.inr (.inr (fun _ => none))))))] _ := hP
  have hD : va_D A [(h0, .inr (0, [.ref q_1, .int 0, .int 108, .ref q_3, .int 0, .null, .int 0, .null, .null, .int 0, .null, .null, .null, .null, .null])), (q_1, .inl (cA_2, 60, .inr (.inr (.inr (.inr (fun _ => none)))))), (q_3, .inl (cA_4, 5, .inr (.inr (.inr (.inr (fun _ => none))))))] := hD
  refine lv_aload_n hx hb dX11_init_37 rfl (lv_at hl 0 rfl) ?_
  refine lv_bipush (v := 8) hx hb dX11_init_38 (by decide) ?_
  refine va_newq (own := RX11) (C := "Polyforge$Rule") (N' := 8) hx hb hown (hg w1_42 rfl) (pv_ao (C := "Polyforge$Rule") hE (by simp [pv_ot])) hK hP hD hS hA (by decide) (by decide +kernel) (Nat.le_of_ble_eq_true rfl) (Nat.le_of_ble_eq_true rfl) (Nat.le_of_ble_eq_true rfl) dX11_init_40 (fun q_5 cA_6 H hK hP hD hS => ?_)
  have hP : va_P D pv_cl [(h0, .inr (0, [.ref q_1, .int 0, .int 108, .ref q_3, .int 0, .null, .int 0, .null, .null, .int 0, .null, .null, .null, .null, .null])), (q_1, .inl (cA_2, 60, .inr (.inr (.inr (.inr (fun _ => none)))))), (q_3, .inl (cA_4, 5, .inr (.inr (.inr (.inr (fun _ => none)))))), (q_5, .inl (cA_6, 8, .inr (.inr (.inr (.inr (fun _ => none))))))] _ := hP
  have hD : va_D A [(h0, .inr (0, [.ref q_1, .int 0, .int 108, .ref q_3, .int 0, .null, .int 0, .null, .null, .int 0, .null, .null, .null, .null, .null])), (q_1, .inl (cA_2, 60, .inr (.inr (.inr (.inr (fun _ => none)))))), (q_3, .inl (cA_4, 5, .inr (.inr (.inr (.inr (fun _ => none)))))), (q_5, .inl (cA_6, 8, .inr (.inr (.inr (.inr (fun _ => none))))))] := hD
  have hK : va_K D pv_cl [(cA_2, .object "Polyforge$Polynomial"), (cA_4, .object "Polyforge$Ideal"), (cA_6, .object "Polyforge$Rule")] s := hK
  refine W.widen (k := 3) (n := 73) (Nat.le_of_ble_eq_true rfl) (Nat.le_of_ble_eq_true rfl) ?_
  refine va_putF (own := RX11) (D := D) (ci := 0) (v := .ref q_5) (ty := .array (.object "Polyforge$Rule")) (C := RX11) (T := TX11) (N := 15) hx hb hts inF11 tyX11 tyX11_ok nmX11 hown hK hP hD hS 0 rfl rfl 5 (by decide) (hg w2_42 rfl) (fun _ h9 => h9) rfl hin rfl (by decide +kernel) rfl rfl (Nat.le_of_ble_eq_true rfl) dX11_init_43 (fun H locs hP hD hS => ?_)
  have hP : va_P D pv_cl [(h0, .inr (0, [.ref q_1, .int 0, .int 108, .ref q_3, .int 0, .ref q_5, .int 0, .null, .null, .int 0, .null, .null, .null, .null, .null])), (q_1, .inl (cA_2, 60, .inr (.inr (.inr (.inr (fun _ => none)))))), (q_3, .inl (cA_4, 5, .inr (.inr (.inr (.inr (fun _ => none)))))), (q_5, .inl (cA_6, 8, .inr (.inr (.inr (.inr (fun _ => none))))))] _ := hP
  have hD : va_D A [(h0, .inr (0, [.ref q_1, .int 0, .int 108, .ref q_3, .int 0, .ref q_5, .int 0, .null, .null, .int 0, .null, .null, .null, .null, .null])), (q_1, .inl (cA_2, 60, .inr (.inr (.inr (.inr (fun _ => none)))))), (q_3, .inl (cA_4, 5, .inr (.inr (.inr (.inr (fun _ => none)))))), (q_5, .inl (cA_6, 8, .inr (.inr (.inr (.inr (fun _ => none))))))] := hD
  have hP : va_P D pv_cl [(h0, .inr (0, [.ref q_1, .int 0, .int 108, .ref q_3, .int 0, .ref q_5, .int 0, .null, .null, .int 0, .null, .null, .null, .null, .null])), (q_1, .inl (cA_2, 60, .inr (.inr (.inr (.inr (fun _ => none)))))), (q_3, .inl (cA_4, 5, .inr (.inr (.inr (.inr (fun _ => none))))))] _ := hP.sub [0, 1, 2] rfl
  have hD : va_D A [(h0, .inr (0, [.ref q_1, .int 0, .int 108, .ref q_3, .int 0, .ref q_5, .int 0, .null, .null, .int 0, .null, .null, .null, .null, .null])), (q_1, .inl (cA_2, 60, .inr (.inr (.inr (.inr (fun _ => none)))))), (q_3, .inl (cA_4, 5, .inr (.inr (.inr (.inr (fun _ => none))))))] := hD.sub [0, 1, 2] (by decide) rfl
  have hK : va_K D pv_cl [(cA_2, .object "Polyforge$Polynomial"), (cA_4, .object "Polyforge$Ideal")] s := hK.sub [0, 1] rfl
  refine pv_pc 46 rfl ?_
  refine lv_aload_n hx hb dX11_init_46 rfl (lv_at hl 0 rfl) ?_
  refine lv_iconst (v := 0) hx hb dX11_init_47 (by decide) ?_
  refine va_put (own := RX11) (D := D) (ci := 0) (v := .int 0) (ty := .int) (C := RX11) (T := TX11) (N := 15) hx hb hts inF11 tyX11 tyX11_ok nmX11 hown hK hP hD hS 0 rfl rfl 6 (by decide) (hg w2_43 rfl) (fun _ h9 => h9) rfl (by decide +kernel) rfl rfl (Nat.le_of_ble_eq_true rfl) dX11_init_48 (fun H locs hP hD hS => ?_)
  have hP : va_P D pv_cl [(h0, .inr (0, [.ref q_1, .int 0, .int 108, .ref q_3, .int 0, .ref q_5, .int 0, .null, .null, .int 0, .null, .null, .null, .null, .null])), (q_1, .inl (cA_2, 60, .inr (.inr (.inr (.inr (fun _ => none)))))), (q_3, .inl (cA_4, 5, .inr (.inr (.inr (.inr (fun _ => none))))))] _ := hP
  have hD : va_D A [(h0, .inr (0, [.ref q_1, .int 0, .int 108, .ref q_3, .int 0, .ref q_5, .int 0, .null, .null, .int 0, .null, .null, .null, .null, .null])), (q_1, .inl (cA_2, 60, .inr (.inr (.inr (.inr (fun _ => none)))))), (q_3, .inl (cA_4, 5, .inr (.inr (.inr (.inr (fun _ => none))))))] := hD
  refine lv_aload_n hx hb dX11_init_51 rfl (lv_at hl 0 rfl) ?_
  refine lv_iconst (v := 3) hx hb dX11_init_52 (by decide) ?_
  refine va_newa (atype := .char) hx hb (hg w1_73 rfl) (ty := .char) rfl hK hP hD hS hA (a0 := (3, .inl (fun _ => 0))) (fun _ => rfl) (by decide) (by decide +kernel) (Nat.le_of_ble_eq_true rfl) (Nat.le_of_ble_eq_true rfl) (Nat.le_of_ble_eq_true rfl) dX11_init_53 (fun q_7 cA_8 H hK hP hD hS => ?_)
  have hP : va_P D pv_cl [(h0, .inr (0, [.ref q_1, .int 0, .int 108, .ref q_3, .int 0, .ref q_5, .int 0, .null, .null, .int 0, .null, .null, .null, .null, .null])), (q_1, .inl (cA_2, 60, .inr (.inr (.inr (.inr (fun _ => none)))))), (q_3, .inl (cA_4, 5, .inr (.inr (.inr (.inr (fun _ => none)))))), (q_7, .inl (cA_8, 3, .inl (fun _ => 0)))] _ := hP
  have hD : va_D A [(h0, .inr (0, [.ref q_1, .int 0, .int 108, .ref q_3, .int 0, .ref q_5, .int 0, .null, .null, .int 0, .null, .null, .null, .null, .null])), (q_1, .inl (cA_2, 60, .inr (.inr (.inr (.inr (fun _ => none)))))), (q_3, .inl (cA_4, 5, .inr (.inr (.inr (.inr (fun _ => none)))))), (q_7, .inl (cA_8, 3, .inl (fun _ => 0)))] := hD
  have hK : va_K D pv_cl [(cA_2, .object "Polyforge$Polynomial"), (cA_4, .object "Polyforge$Ideal"), (cA_8, .char)] s := hK
  refine W.widen (k := 4) (n := 76) (Nat.le_of_ble_eq_true rfl) (Nat.le_of_ble_eq_true rfl) ?_
  refine lv_dup hx hb dX11_init_55 rfl ?_
  refine lv_iconst (v := 0) hx hb dX11_init_56 (by decide) ?_
  refine lv_bipush (v := 63) hx hb dX11_init_57 (by decide) ?_
  refine va_cast hx hb hK hP hD hS 3 2 rfl rfl (by unfold vp_in; decide) dX11_init_59 (fun H locs hP hD hS => ?_)
  have hP : va_P D pv_cl [(h0, .inr (0, [.ref q_1, .int 0, .int 108, .ref q_3, .int 0, .ref q_5, .int 0, .null, .null, .int 0, .null, .null, .null, .null, .null])), (q_1, .inl (cA_2, 60, .inr (.inr (.inr (.inr (fun _ => none)))))), (q_3, .inl (cA_4, 5, .inr (.inr (.inr (.inr (fun _ => none)))))), (q_7, .inl (cA_8, 3, .inl (upd (fun _ => 0) (0 : Int32).toNatClampNeg (vp_nar .char 63))))] _ := hP
  have hD : va_D A [(h0, .inr (0, [.ref q_1, .int 0, .int 108, .ref q_3, .int 0, .ref q_5, .int 0, .null, .null, .int 0, .null, .null, .null, .null, .null])), (q_1, .inl (cA_2, 60, .inr (.inr (.inr (.inr (fun _ => none)))))), (q_3, .inl (cA_4, 5, .inr (.inr (.inr (.inr (fun _ => none)))))), (q_7, .inl (cA_8, 3, .inl (upd (fun _ => 0) (0 : Int32).toNatClampNeg (vp_nar .char 63))))] := hD
  refine lv_dup hx hb dX11_init_60 rfl ?_
  refine lv_iconst (v := 1) hx hb dX11_init_61 (by decide) ?_
  refine pv_pc 62 rfl ?_
  refine lv_bipush (v := 63) hx hb dX11_init_62 (by decide) ?_
  refine va_cast hx hb hK hP hD hS 3 2 rfl rfl (by unfold vp_in; decide) dX11_init_64 (fun H locs hP hD hS => ?_)
  have hP : va_P D pv_cl [(h0, .inr (0, [.ref q_1, .int 0, .int 108, .ref q_3, .int 0, .ref q_5, .int 0, .null, .null, .int 0, .null, .null, .null, .null, .null])), (q_1, .inl (cA_2, 60, .inr (.inr (.inr (.inr (fun _ => none)))))), (q_3, .inl (cA_4, 5, .inr (.inr (.inr (.inr (fun _ => none)))))), (q_7, .inl (cA_8, 3, .inl (upd (upd (fun _ => 0) (0 : Int32).toNatClampNeg (vp_nar .char 63)) (1 : Int32).toNatClampNeg (vp_nar .char 63))))] _ := hP
  have hD : va_D A [(h0, .inr (0, [.ref q_1, .int 0, .int 108, .ref q_3, .int 0, .ref q_5, .int 0, .null, .null, .int 0, .null, .null, .null, .null, .null])), (q_1, .inl (cA_2, 60, .inr (.inr (.inr (.inr (fun _ => none)))))), (q_3, .inl (cA_4, 5, .inr (.inr (.inr (.inr (fun _ => none)))))), (q_7, .inl (cA_8, 3, .inl (upd (upd (fun _ => 0) (0 : Int32).toNatClampNeg (vp_nar .char 63)) (1 : Int32).toNatClampNeg (vp_nar .char 63))))] := hD
  refine lv_dup hx hb dX11_init_65 rfl ?_
  refine lv_iconst (v := 2) hx hb dX11_init_66 (by decide) ?_
  refine lv_bipush (v := 63) hx hb dX11_init_67 (by decide) ?_
  refine va_cast hx hb hK hP hD hS 3 2 rfl rfl (by unfold vp_in; decide) dX11_init_69 (fun H locs hP hD hS => ?_)
  have hP : va_P D pv_cl [(h0, .inr (0, [.ref q_1, .int 0, .int 108, .ref q_3, .int 0, .ref q_5, .int 0, .null, .null, .int 0, .null, .null, .null, .null, .null])), (q_1, .inl (cA_2, 60, .inr (.inr (.inr (.inr (fun _ => none)))))), (q_3, .inl (cA_4, 5, .inr (.inr (.inr (.inr (fun _ => none)))))), (q_7, .inl (cA_8, 3, .inl (upd (upd (upd (fun _ => 0) (0 : Int32).toNatClampNeg (vp_nar .char 63)) (1 : Int32).toNatClampNeg (vp_nar .char 63)) (2 : Int32).toNatClampNeg (vp_nar .char 63))))] _ := hP
  have hD : va_D A [(h0, .inr (0, [.ref q_1, .int 0, .int 108, .ref q_3, .int 0, .ref q_5, .int 0, .null, .null, .int 0, .null, .null, .null, .null, .null])), (q_1, .inl (cA_2, 60, .inr (.inr (.inr (.inr (fun _ => none)))))), (q_3, .inl (cA_4, 5, .inr (.inr (.inr (.inr (fun _ => none)))))), (q_7, .inl (cA_8, 3, .inl (upd (upd (upd (fun _ => 0) (0 : Int32).toNatClampNeg (vp_nar .char 63)) (1 : Int32).toNatClampNeg (vp_nar .char 63)) (2 : Int32).toNatClampNeg (vp_nar .char 63))))] := hD
  refine va_putF (own := RX11) (D := D) (ci := 0) (v := .ref q_7) (ty := .array .char) (C := RX11) (T := TX11) (N := 15) hx hb hts inF11 tyX11 tyX11_ok nmX11 hown hK hP hD hS 0 rfl rfl 7 (by decide) (hg w2_44 rfl) (fun _ h9 => h9) rfl hin rfl (by decide +kernel) rfl rfl (Nat.le_of_ble_eq_true rfl) dX11_init_70 (fun H locs hP hD hS => ?_)
  have hP : va_P D pv_cl [(h0, .inr (0, [.ref q_1, .int 0, .int 108, .ref q_3, .int 0, .ref q_5, .int 0, .ref q_7, .null, .int 0, .null, .null, .null, .null, .null])), (q_1, .inl (cA_2, 60, .inr (.inr (.inr (.inr (fun _ => none)))))), (q_3, .inl (cA_4, 5, .inr (.inr (.inr (.inr (fun _ => none)))))), (q_7, .inl (cA_8, 3, .inl (upd (upd (upd (fun _ => 0) (0 : Int32).toNatClampNeg (vp_nar .char 63)) (1 : Int32).toNatClampNeg (vp_nar .char 63)) (2 : Int32).toNatClampNeg (vp_nar .char 63))))] _ := hP
  have hD : va_D A [(h0, .inr (0, [.ref q_1, .int 0, .int 108, .ref q_3, .int 0, .ref q_5, .int 0, .ref q_7, .null, .int 0, .null, .null, .null, .null, .null])), (q_1, .inl (cA_2, 60, .inr (.inr (.inr (.inr (fun _ => none)))))), (q_3, .inl (cA_4, 5, .inr (.inr (.inr (.inr (fun _ => none)))))), (q_7, .inl (cA_8, 3, .inl (upd (upd (upd (fun _ => 0) (0 : Int32).toNatClampNeg (vp_nar .char 63)) (1 : Int32).toNatClampNeg (vp_nar .char 63)) (2 : Int32).toNatClampNeg (vp_nar .char 63))))] := hD
  refine lv_aload_n hx hb dX11_init_73 rfl (lv_at hl 0 rfl) ?_
  refine lv_iconst (v := 3) hx hb dX11_init_74 (by decide) ?_
  refine va_newa (atype := .int) hx hb (hg w1_74 rfl) (ty := .int) rfl hK hP hD hS hA (a0 := (3, .inl (fun _ => 0))) (fun _ => rfl) (by decide) (by decide +kernel) (Nat.le_of_ble_eq_true rfl) (Nat.le_of_ble_eq_true rfl) (Nat.le_of_ble_eq_true rfl) dX11_init_75 (fun q_9 cA_10 H hK hP hD hS => ?_)
  have hP : va_P D pv_cl [(h0, .inr (0, [.ref q_1, .int 0, .int 108, .ref q_3, .int 0, .ref q_5, .int 0, .ref q_7, .null, .int 0, .null, .null, .null, .null, .null])), (q_1, .inl (cA_2, 60, .inr (.inr (.inr (.inr (fun _ => none)))))), (q_3, .inl (cA_4, 5, .inr (.inr (.inr (.inr (fun _ => none)))))), (q_7, .inl (cA_8, 3, .inl (upd (upd (upd (fun _ => 0) (0 : Int32).toNatClampNeg (vp_nar .char 63)) (1 : Int32).toNatClampNeg (vp_nar .char 63)) (2 : Int32).toNatClampNeg (vp_nar .char 63)))), (q_9, .inl (cA_10, 3, .inl (fun _ => 0)))] _ := hP
  have hD : va_D A [(h0, .inr (0, [.ref q_1, .int 0, .int 108, .ref q_3, .int 0, .ref q_5, .int 0, .ref q_7, .null, .int 0, .null, .null, .null, .null, .null])), (q_1, .inl (cA_2, 60, .inr (.inr (.inr (.inr (fun _ => none)))))), (q_3, .inl (cA_4, 5, .inr (.inr (.inr (.inr (fun _ => none)))))), (q_7, .inl (cA_8, 3, .inl (upd (upd (upd (fun _ => 0) (0 : Int32).toNatClampNeg (vp_nar .char 63)) (1 : Int32).toNatClampNeg (vp_nar .char 63)) (2 : Int32).toNatClampNeg (vp_nar .char 63)))), (q_9, .inl (cA_10, 3, .inl (fun _ => 0)))] := hD
  have hK : va_K D pv_cl [(cA_2, .object "Polyforge$Polynomial"), (cA_4, .object "Polyforge$Ideal"), (cA_8, .char), (cA_10, .int)] s := hK
  refine W.widen (k := 5) (n := 79) (Nat.le_of_ble_eq_true rfl) (Nat.le_of_ble_eq_true rfl) ?_
  refine va_putF (own := RX11) (D := D) (ci := 0) (v := .ref q_9) (ty := .array .int) (C := RX11) (T := TX11) (N := 15) hx hb hts inF11 tyX11 tyX11_ok nmX11 hown hK hP hD hS 0 rfl rfl 8 (by decide) (hg w2_45 rfl) (fun _ h9 => h9) rfl hin rfl (by decide +kernel) rfl rfl (Nat.le_of_ble_eq_true rfl) dX11_init_77 (fun H locs hP hD hS => ?_)
  have hP : va_P D pv_cl [(h0, .inr (0, [.ref q_1, .int 0, .int 108, .ref q_3, .int 0, .ref q_5, .int 0, .ref q_7, .ref q_9, .int 0, .null, .null, .null, .null, .null])), (q_1, .inl (cA_2, 60, .inr (.inr (.inr (.inr (fun _ => none)))))), (q_3, .inl (cA_4, 5, .inr (.inr (.inr (.inr (fun _ => none)))))), (q_7, .inl (cA_8, 3, .inl (upd (upd (upd (fun _ => 0) (0 : Int32).toNatClampNeg (vp_nar .char 63)) (1 : Int32).toNatClampNeg (vp_nar .char 63)) (2 : Int32).toNatClampNeg (vp_nar .char 63)))), (q_9, .inl (cA_10, 3, .inl (fun _ => 0)))] _ := hP
  have hD : va_D A [(h0, .inr (0, [.ref q_1, .int 0, .int 108, .ref q_3, .int 0, .ref q_5, .int 0, .ref q_7, .ref q_9, .int 0, .null, .null, .null, .null, .null])), (q_1, .inl (cA_2, 60, .inr (.inr (.inr (.inr (fun _ => none)))))), (q_3, .inl (cA_4, 5, .inr (.inr (.inr (.inr (fun _ => none)))))), (q_7, .inl (cA_8, 3, .inl (upd (upd (upd (fun _ => 0) (0 : Int32).toNatClampNeg (vp_nar .char 63)) (1 : Int32).toNatClampNeg (vp_nar .char 63)) (2 : Int32).toNatClampNeg (vp_nar .char 63)))), (q_9, .inl (cA_10, 3, .inl (fun _ => 0)))] := hD
  refine lv_aload_n hx hb dX11_init_80 rfl (lv_at hl 0 rfl) ?_
  refine pv_pc 81 rfl ?_
  refine lv_iconst (v := 1) hx hb dX11_init_81 (by decide) ?_
  refine va_put (own := RX11) (D := D) (ci := 0) (v := .int 1) (ty := .int) (C := RX11) (T := TX11) (N := 15) hx hb hts inF11 tyX11 tyX11_ok nmX11 hown hK hP hD hS 0 rfl rfl 9 (by decide) (hg w2_46 rfl) (fun _ h9 => h9) rfl (by decide +kernel) rfl rfl (Nat.le_of_ble_eq_true rfl) dX11_init_82 (fun H locs hP hD hS => ?_)
  have hP : va_P D pv_cl [(h0, .inr (0, [.ref q_1, .int 0, .int 108, .ref q_3, .int 0, .ref q_5, .int 0, .ref q_7, .ref q_9, .int 1, .null, .null, .null, .null, .null])), (q_1, .inl (cA_2, 60, .inr (.inr (.inr (.inr (fun _ => none)))))), (q_3, .inl (cA_4, 5, .inr (.inr (.inr (.inr (fun _ => none)))))), (q_7, .inl (cA_8, 3, .inl (upd (upd (upd (fun _ => 0) (0 : Int32).toNatClampNeg (vp_nar .char 63)) (1 : Int32).toNatClampNeg (vp_nar .char 63)) (2 : Int32).toNatClampNeg (vp_nar .char 63)))), (q_9, .inl (cA_10, 3, .inl (fun _ => 0)))] _ := hP
  have hD : va_D A [(h0, .inr (0, [.ref q_1, .int 0, .int 108, .ref q_3, .int 0, .ref q_5, .int 0, .ref q_7, .ref q_9, .int 1, .null, .null, .null, .null, .null])), (q_1, .inl (cA_2, 60, .inr (.inr (.inr (.inr (fun _ => none)))))), (q_3, .inl (cA_4, 5, .inr (.inr (.inr (.inr (fun _ => none)))))), (q_7, .inl (cA_8, 3, .inl (upd (upd (upd (fun _ => 0) (0 : Int32).toNatClampNeg (vp_nar .char 63)) (1 : Int32).toNatClampNeg (vp_nar .char 63)) (2 : Int32).toNatClampNeg (vp_nar .char 63)))), (q_9, .inl (cA_10, 3, .inl (fun _ => 0)))] := hD
  refine lv_aload_n hx hb dX11_init_85 rfl (lv_at hl 0 rfl) ?_
  refine lv_bipush (v := 91) hx hb dX11_init_86 (by decide) ?_
  refine va_newa (atype := .int) hx hb (hg w1_74 rfl) (ty := .int) rfl hK hP hD hS hA (a0 := (91, .inl (fun _ => 0))) (fun _ => rfl) (by decide) (by decide +kernel) (Nat.le_of_ble_eq_true rfl) (Nat.le_of_ble_eq_true rfl) (Nat.le_of_ble_eq_true rfl) dX11_init_88 (fun q_11 cA_12 H hK hP hD hS => ?_)
  have hP : va_P D pv_cl [(h0, .inr (0, [.ref q_1, .int 0, .int 108, .ref q_3, .int 0, .ref q_5, .int 0, .ref q_7, .ref q_9, .int 1, .null, .null, .null, .null, .null])), (q_1, .inl (cA_2, 60, .inr (.inr (.inr (.inr (fun _ => none)))))), (q_3, .inl (cA_4, 5, .inr (.inr (.inr (.inr (fun _ => none)))))), (q_7, .inl (cA_8, 3, .inl (upd (upd (upd (fun _ => 0) (0 : Int32).toNatClampNeg (vp_nar .char 63)) (1 : Int32).toNatClampNeg (vp_nar .char 63)) (2 : Int32).toNatClampNeg (vp_nar .char 63)))), (q_9, .inl (cA_10, 3, .inl (fun _ => 0))), (q_11, .inl (cA_12, 91, .inl (fun _ => 0)))] _ := hP
  have hD : va_D A [(h0, .inr (0, [.ref q_1, .int 0, .int 108, .ref q_3, .int 0, .ref q_5, .int 0, .ref q_7, .ref q_9, .int 1, .null, .null, .null, .null, .null])), (q_1, .inl (cA_2, 60, .inr (.inr (.inr (.inr (fun _ => none)))))), (q_3, .inl (cA_4, 5, .inr (.inr (.inr (.inr (fun _ => none)))))), (q_7, .inl (cA_8, 3, .inl (upd (upd (upd (fun _ => 0) (0 : Int32).toNatClampNeg (vp_nar .char 63)) (1 : Int32).toNatClampNeg (vp_nar .char 63)) (2 : Int32).toNatClampNeg (vp_nar .char 63)))), (q_9, .inl (cA_10, 3, .inl (fun _ => 0))), (q_11, .inl (cA_12, 91, .inl (fun _ => 0)))] := hD
  have hK : va_K D pv_cl [(cA_2, .object "Polyforge$Polynomial"), (cA_4, .object "Polyforge$Ideal"), (cA_8, .char), (cA_10, .int), (cA_12, .int)] s := hK
  refine W.widen (k := 6) (n := 170) (Nat.le_of_ble_eq_true rfl) (Nat.le_of_ble_eq_true rfl) ?_
  refine va_putF (own := RX11) (D := D) (ci := 0) (v := .ref q_11) (ty := .array .int) (C := RX11) (T := TX11) (N := 15) hx hb hts inF11 tyX11 tyX11_ok nmX11 hown hK hP hD hS 0 rfl rfl 10 (by decide) (hg w2_47 rfl) (fun _ h9 => h9) rfl hin rfl (by decide +kernel) rfl rfl (Nat.le_of_ble_eq_true rfl) dX11_init_90 (fun H locs hP hD hS => ?_)
  have hP : va_P D pv_cl [(h0, .inr (0, [.ref q_1, .int 0, .int 108, .ref q_3, .int 0, .ref q_5, .int 0, .ref q_7, .ref q_9, .int 1, .ref q_11, .null, .null, .null, .null])), (q_1, .inl (cA_2, 60, .inr (.inr (.inr (.inr (fun _ => none)))))), (q_3, .inl (cA_4, 5, .inr (.inr (.inr (.inr (fun _ => none)))))), (q_7, .inl (cA_8, 3, .inl (upd (upd (upd (fun _ => 0) (0 : Int32).toNatClampNeg (vp_nar .char 63)) (1 : Int32).toNatClampNeg (vp_nar .char 63)) (2 : Int32).toNatClampNeg (vp_nar .char 63)))), (q_9, .inl (cA_10, 3, .inl (fun _ => 0))), (q_11, .inl (cA_12, 91, .inl (fun _ => 0)))] _ := hP
  have hD : va_D A [(h0, .inr (0, [.ref q_1, .int 0, .int 108, .ref q_3, .int 0, .ref q_5, .int 0, .ref q_7, .ref q_9, .int 1, .ref q_11, .null, .null, .null, .null])), (q_1, .inl (cA_2, 60, .inr (.inr (.inr (.inr (fun _ => none)))))), (q_3, .inl (cA_4, 5, .inr (.inr (.inr (.inr (fun _ => none)))))), (q_7, .inl (cA_8, 3, .inl (upd (upd (upd (fun _ => 0) (0 : Int32).toNatClampNeg (vp_nar .char 63)) (1 : Int32).toNatClampNeg (vp_nar .char 63)) (2 : Int32).toNatClampNeg (vp_nar .char 63)))), (q_9, .inl (cA_10, 3, .inl (fun _ => 0))), (q_11, .inl (cA_12, 91, .inl (fun _ => 0)))] := hD
  have hP : va_P D pv_cl [(h0, .inr (0, [.ref q_1, .int 0, .int 108, .ref q_3, .int 0, .ref q_5, .int 0, .ref q_7, .ref q_9, .int 1, .ref q_11, .null, .null, .null, .null])), (q_1, .inl (cA_2, 60, .inr (.inr (.inr (.inr (fun _ => none)))))), (q_3, .inl (cA_4, 5, .inr (.inr (.inr (.inr (fun _ => none)))))), (q_7, .inl (cA_8, 3, .inl (upd (upd (upd (fun _ => 0) (0 : Int32).toNatClampNeg (vp_nar .char 63)) (1 : Int32).toNatClampNeg (vp_nar .char 63)) (2 : Int32).toNatClampNeg (vp_nar .char 63)))), (q_9, .inl (cA_10, 3, .inl (fun _ => 0)))] _ := hP.sub [0, 1, 2, 3, 4] rfl
  have hD : va_D A [(h0, .inr (0, [.ref q_1, .int 0, .int 108, .ref q_3, .int 0, .ref q_5, .int 0, .ref q_7, .ref q_9, .int 1, .ref q_11, .null, .null, .null, .null])), (q_1, .inl (cA_2, 60, .inr (.inr (.inr (.inr (fun _ => none)))))), (q_3, .inl (cA_4, 5, .inr (.inr (.inr (.inr (fun _ => none)))))), (q_7, .inl (cA_8, 3, .inl (upd (upd (upd (fun _ => 0) (0 : Int32).toNatClampNeg (vp_nar .char 63)) (1 : Int32).toNatClampNeg (vp_nar .char 63)) (2 : Int32).toNatClampNeg (vp_nar .char 63)))), (q_9, .inl (cA_10, 3, .inl (fun _ => 0)))] := hD.sub [0, 1, 2, 3, 4] (by decide) rfl
  have hK : va_K D pv_cl [(cA_2, .object "Polyforge$Polynomial"), (cA_4, .object "Polyforge$Ideal"), (cA_8, .char), (cA_10, .int)] s := hK.sub [0, 1, 2, 3] rfl
  refine lv_aload_n hx hb dX11_init_93 rfl (lv_at hl 0 rfl) ?_
  refine va_new (own := RX11) (ci := 2) (fs := [.null, .null, .null, .null, .int 0, .int 0]) (C := RX9) (T := TX9) (N := 6) hx hb hts inF9 tyX9 tyX9_ok hown (hg w1_44 rfl) (hg w1_45 rfl) (hg w1_2 rfl) hK hP hD hS hA rfl (by decide +kernel) (Nat.le_of_ble_eq_true rfl) (Nat.le_of_ble_eq_true rfl) dX11_init_94 (fun q_13 H hP hD hS => ?_)
  have hP : va_P D pv_cl [(h0, .inr (0, [.ref q_1, .int 0, .int 108, .ref q_3, .int 0, .ref q_5, .int 0, .ref q_7, .ref q_9, .int 1, .ref q_11, .null, .null, .null, .null])), (q_1, .inl (cA_2, 60, .inr (.inr (.inr (.inr (fun _ => none)))))), (q_3, .inl (cA_4, 5, .inr (.inr (.inr (.inr (fun _ => none)))))), (q_7, .inl (cA_8, 3, .inl (upd (upd (upd (fun _ => 0) (0 : Int32).toNatClampNeg (vp_nar .char 63)) (1 : Int32).toNatClampNeg (vp_nar .char 63)) (2 : Int32).toNatClampNeg (vp_nar .char 63)))), (q_9, .inl (cA_10, 3, .inl (fun _ => 0))), (q_13, .inr (2, [.null, .null, .null, .null, .int 0, .int 0]))] _ := hP
  have hD : va_D A [(h0, .inr (0, [.ref q_1, .int 0, .int 108, .ref q_3, .int 0, .ref q_5, .int 0, .ref q_7, .ref q_9, .int 1, .ref q_11, .null, .null, .null, .null])), (q_1, .inl (cA_2, 60, .inr (.inr (.inr (.inr (fun _ => none)))))), (q_3, .inl (cA_4, 5, .inr (.inr (.inr (.inr (fun _ => none)))))), (q_7, .inl (cA_8, 3, .inl (upd (upd (upd (fun _ => 0) (0 : Int32).toNatClampNeg (vp_nar .char 63)) (1 : Int32).toNatClampNeg (vp_nar .char 63)) (2 : Int32).toNatClampNeg (vp_nar .char 63)))), (q_9, .inl (cA_10, 3, .inl (fun _ => 0))), (q_13, .inr (2, [.null, .null, .null, .null, .int 0, .int 0]))] := hD
  refine W.widen (k := 7) (n := 176) (Nat.le_of_ble_eq_true rfl) (Nat.le_of_ble_eq_true rfl) ?_
  refine lv_dup hx hb dX11_init_97 rfl ?_
  have hF := va_free (wc := [(q_13, .inr (2, [.null, .null, .null, .null, .int 0, .int 0]))]) hD hS hA [5] rfl
  refine va_callv (va_runIN (As := []) (rest := [.ref q_13, .ref h0]) ⟨hx, hb, hml, hown, hts⟩ (c_X9_init l hfl D _ q_13) ⟨(va_cnB 0 hts (pv_gC w1_48) rfl rfl rfl (hE.2.2.1 _ (pv_ib w1_46 rfl)) (hg w1_2 rfl) (by decide +kernel) ⟨Nat.le_of_ble_eq_true rfl, Nat.le_of_ble_eq_true rfl⟩), rfl, hg w1_47 rfl⟩ (pv_ps hE hS hF (hP.sub [5] rfl) (hK.sub [] rfl) (hD.sub [5] (by decide) rfl)) rfl rfl hl.1 rfl (lv_room (Nat.le_of_ble_eq_true rfl)) dX11_init_98 ⟨Nat.le_of_ble_eq_true rfl, Nat.le_of_ble_eq_true rfl⟩) hS (fun q _ h => hF q h) hF (fun u t H1 locs1 ht hvm hw hB hz1 hk1 hS => ?_)
  refine W.widen (k := 11) (n := 33075) (Nat.le_of_ble_eq_true rfl) (Nat.le_of_ble_eq_true rfl) ?_
  obtain ⟨w_15, cJ_16, hP1, hK1, hD1⟩ := hB
  rw [ht] at hP1
  have hK1 := va_K.moved hvm.symm hK1
  obtain ⟨hP, hD⟩ := va_join (wr := [(h0, .inr (0, [.ref q_1, .int 0, .int 108, .ref q_3, .int 0, .ref q_5, .int 0, .ref q_7, .ref q_9, .int 1, .ref q_11, .null, .null, .null, .null])), (q_1, .inl (cA_2, 60, .inr (.inr (.inr (.inr (fun _ => none)))))), (q_3, .inl (cA_4, 5, .inr (.inr (.inr (.inr (fun _ => none)))))), (q_7, .inl (cA_8, 3, .inl (upd (upd (upd (fun _ => 0) (0 : Int32).toNatClampNeg (vp_nar .char 63)) (1 : Int32).toNatClampNeg (vp_nar .char 63)) (2 : Int32).toNatClampNeg (vp_nar .char 63)))), (q_9, .inl (cA_10, 3, .inl (fun _ => 0)))]) (w1 := [(q_13, .inr (2, [.ref (w_15 0), .ref (w_15 1), .ref (w_15 2), .ref (w_15 3), .int 0, .int 0])), ((w_15 2), .inl (cJ_16, 64, .inr (.inl (fun _ => 0))))]) hP hD [5] [0, 1, 2, 3, 4] rfl rfl (by decide) (by decide) hk1 hF hP1 hD1
  have hP : va_P D pv_cl [(h0, .inr (0, [.ref q_1, .int 0, .int 108, .ref q_3, .int 0, .ref q_5, .int 0, .ref q_7, .ref q_9, .int 1, .ref q_11, .null, .null, .null, .null])), (q_1, .inl (cA_2, 60, .inr (.inr (.inr (.inr (fun _ => none)))))), (q_3, .inl (cA_4, 5, .inr (.inr (.inr (.inr (fun _ => none)))))), (q_7, .inl (cA_8, 3, .inl (upd (upd (upd (fun _ => 0) (0 : Int32).toNatClampNeg (vp_nar .char 63)) (1 : Int32).toNatClampNeg (vp_nar .char 63)) (2 : Int32).toNatClampNeg (vp_nar .char 63)))), (q_9, .inl (cA_10, 3, .inl (fun _ => 0))), (q_13, .inr (2, [.ref (w_15 0), .ref (w_15 1), .ref (w_15 2), .ref (w_15 3), .int 0, .int 0])), ((w_15 2), .inl (cJ_16, 64, .inr (.inl (fun _ => 0))))] _ := hP
  have hD : va_D A [(h0, .inr (0, [.ref q_1, .int 0, .int 108, .ref q_3, .int 0, .ref q_5, .int 0, .ref q_7, .ref q_9, .int 1, .ref q_11, .null, .null, .null, .null])), (q_1, .inl (cA_2, 60, .inr (.inr (.inr (.inr (fun _ => none)))))), (q_3, .inl (cA_4, 5, .inr (.inr (.inr (.inr (fun _ => none)))))), (q_7, .inl (cA_8, 3, .inl (upd (upd (upd (fun _ => 0) (0 : Int32).toNatClampNeg (vp_nar .char 63)) (1 : Int32).toNatClampNeg (vp_nar .char 63)) (2 : Int32).toNatClampNeg (vp_nar .char 63)))), (q_9, .inl (cA_10, 3, .inl (fun _ => 0))), (q_13, .inr (2, [.ref (w_15 0), .ref (w_15 1), .ref (w_15 2), .ref (w_15 3), .int 0, .int 0])), ((w_15 2), .inl (cJ_16, 64, .inr (.inl (fun _ => 0))))] := hD
  have hK := (hK.sub [0, 1, 2, 3] rfl).app hK1
  have hK : va_K D pv_cl [(cA_2, .object "Polyforge$Polynomial"), (cA_4, .object "Polyforge$Ideal"), (cA_8, .char), (cA_10, .int), (cJ_16, .long)] s := hK
  refine va_putF (own := RX11) (D := D) (ci := 0) (v := .ref q_13) (ty := .object "Polyforge$Slate") (C := RX11) (T := TX11) (N := 15) hx hb hts inF11 tyX11 tyX11_ok nmX11 hown hK hP hD hS 0 rfl rfl 11 (by decide) (hg w2_48 rfl) (fun _ h9 => h9) rfl hin rfl (by decide +kernel) rfl rfl (Nat.le_of_ble_eq_true rfl) dX11_init_101 (fun H locs hP hD hS => ?_)
  have hP : va_P D pv_cl [(h0, .inr (0, [.ref q_1, .int 0, .int 108, .ref q_3, .int 0, .ref q_5, .int 0, .ref q_7, .ref q_9, .int 1, .ref q_11, .ref q_13, .null, .null, .null])), (q_1, .inl (cA_2, 60, .inr (.inr (.inr (.inr (fun _ => none)))))), (q_3, .inl (cA_4, 5, .inr (.inr (.inr (.inr (fun _ => none)))))), (q_7, .inl (cA_8, 3, .inl (upd (upd (upd (fun _ => 0) (0 : Int32).toNatClampNeg (vp_nar .char 63)) (1 : Int32).toNatClampNeg (vp_nar .char 63)) (2 : Int32).toNatClampNeg (vp_nar .char 63)))), (q_9, .inl (cA_10, 3, .inl (fun _ => 0))), (q_13, .inr (2, [.ref (w_15 0), .ref (w_15 1), .ref (w_15 2), .ref (w_15 3), .int 0, .int 0])), ((w_15 2), .inl (cJ_16, 64, .inr (.inl (fun _ => 0))))] _ := hP
  have hD : va_D A [(h0, .inr (0, [.ref q_1, .int 0, .int 108, .ref q_3, .int 0, .ref q_5, .int 0, .ref q_7, .ref q_9, .int 1, .ref q_11, .ref q_13, .null, .null, .null])), (q_1, .inl (cA_2, 60, .inr (.inr (.inr (.inr (fun _ => none)))))), (q_3, .inl (cA_4, 5, .inr (.inr (.inr (.inr (fun _ => none)))))), (q_7, .inl (cA_8, 3, .inl (upd (upd (upd (fun _ => 0) (0 : Int32).toNatClampNeg (vp_nar .char 63)) (1 : Int32).toNatClampNeg (vp_nar .char 63)) (2 : Int32).toNatClampNeg (vp_nar .char 63)))), (q_9, .inl (cA_10, 3, .inl (fun _ => 0))), (q_13, .inr (2, [.ref (w_15 0), .ref (w_15 1), .ref (w_15 2), .ref (w_15 3), .int 0, .int 0])), ((w_15 2), .inl (cJ_16, 64, .inr (.inl (fun _ => 0))))] := hD
  refine lv_aload_n hx hb dX11_init_104 rfl (lv_at hl 0 rfl) ?_
  refine pv_pc 105 rfl ?_
  refine va_new (own := RX11) (ci := 4) (fs := [.int 0, .null, .null, .null, .null, .null, .null, .null, .null, .null, .null, .null, .null, .null, .null, .int 0, .null, .null]) (C := RX0) (T := TX0) (N := 18) hx hb hts inF0 tyX0 tyX0_ok hown (hg w1_76 rfl) (hg w1_77 rfl) (hg w1_3 rfl) hK hP hD hS hA rfl (by decide +kernel) (Nat.le_of_ble_eq_true rfl) (Nat.le_of_ble_eq_true rfl) dX11_init_105 (fun q_17 H hP hD hS => ?_)
  have hP : va_P D pv_cl [(h0, .inr (0, [.ref q_1, .int 0, .int 108, .ref q_3, .int 0, .ref q_5, .int 0, .ref q_7, .ref q_9, .int 1, .ref q_11, .ref q_13, .null, .null, .null])), (q_1, .inl (cA_2, 60, .inr (.inr (.inr (.inr (fun _ => none)))))), (q_3, .inl (cA_4, 5, .inr (.inr (.inr (.inr (fun _ => none)))))), (q_7, .inl (cA_8, 3, .inl (upd (upd (upd (fun _ => 0) (0 : Int32).toNatClampNeg (vp_nar .char 63)) (1 : Int32).toNatClampNeg (vp_nar .char 63)) (2 : Int32).toNatClampNeg (vp_nar .char 63)))), (q_9, .inl (cA_10, 3, .inl (fun _ => 0))), (q_13, .inr (2, [.ref (w_15 0), .ref (w_15 1), .ref (w_15 2), .ref (w_15 3), .int 0, .int 0])), ((w_15 2), .inl (cJ_16, 64, .inr (.inl (fun _ => 0)))), (q_17, .inr (4, [.int 0, .null, .null, .null, .null, .null, .null, .null, .null, .null, .null, .null, .null, .null, .null, .int 0, .null, .null]))] _ := hP
  have hD : va_D A [(h0, .inr (0, [.ref q_1, .int 0, .int 108, .ref q_3, .int 0, .ref q_5, .int 0, .ref q_7, .ref q_9, .int 1, .ref q_11, .ref q_13, .null, .null, .null])), (q_1, .inl (cA_2, 60, .inr (.inr (.inr (.inr (fun _ => none)))))), (q_3, .inl (cA_4, 5, .inr (.inr (.inr (.inr (fun _ => none)))))), (q_7, .inl (cA_8, 3, .inl (upd (upd (upd (fun _ => 0) (0 : Int32).toNatClampNeg (vp_nar .char 63)) (1 : Int32).toNatClampNeg (vp_nar .char 63)) (2 : Int32).toNatClampNeg (vp_nar .char 63)))), (q_9, .inl (cA_10, 3, .inl (fun _ => 0))), (q_13, .inr (2, [.ref (w_15 0), .ref (w_15 1), .ref (w_15 2), .ref (w_15 3), .int 0, .int 0])), ((w_15 2), .inl (cJ_16, 64, .inr (.inl (fun _ => 0)))), (q_17, .inr (4, [.int 0, .null, .null, .null, .null, .null, .null, .null, .null, .null, .null, .null, .null, .null, .null, .int 0, .null, .null]))] := hD
  refine W.widen (k := 12) (n := 33093) (Nat.le_of_ble_eq_true rfl) (Nat.le_of_ble_eq_true rfl) ?_
  refine lv_dup hx hb dX11_init_108 rfl ?_
  have hF := va_free (wc := [(q_17, .inr (4, [.int 0, .null, .null, .null, .null, .null, .null, .null, .null, .null, .null, .null, .null, .null, .null, .int 0, .null, .null]))]) hD hS hA [7] rfl
  refine va_callv (va_runI (As := []) (rest := [.ref q_17, .ref h0]) ⟨hx, hb, hml, hown, hts⟩ (c_X0_init l hfl D _ q_17) (cwI 0 hts (pv_gC w1_80) rfl rfl rfl (hg w1_3 rfl) (hg w1_78 rfl) (hg w1_79 rfl) rfl (by decide +kernel) ⟨Nat.le_of_ble_eq_true rfl, Nat.le_of_ble_eq_true rfl⟩) (pv_ps hE hS hF (hP.sub [7] rfl) (hK.sub [] rfl) (hD.sub [7] (by decide) rfl)) rfl rfl hl.1 rfl (lv_room (Nat.le_of_ble_eq_true rfl)) dX11_init_109 ⟨Nat.le_of_ble_eq_true rfl, Nat.le_of_ble_eq_true rfl⟩) hS (fun q _ h => hF q h) hF (fun u t H1 locs1 ht hvm hw hB hz1 hk1 hS => ?_)
  refine W.widen (k := 52) (n := 37348) (Nat.le_of_ble_eq_true rfl) (Nat.le_of_ble_eq_true rfl) ?_
  obtain ⟨hP, hD⟩ := va_join (wr := [(h0, .inr (0, [.ref q_1, .int 0, .int 108, .ref q_3, .int 0, .ref q_5, .int 0, .ref q_7, .ref q_9, .int 1, .ref q_11, .ref q_13, .null, .null, .null])), (q_1, .inl (cA_2, 60, .inr (.inr (.inr (.inr (fun _ => none)))))), (q_3, .inl (cA_4, 5, .inr (.inr (.inr (.inr (fun _ => none)))))), (q_7, .inl (cA_8, 3, .inl (upd (upd (upd (fun _ => 0) (0 : Int32).toNatClampNeg (vp_nar .char 63)) (1 : Int32).toNatClampNeg (vp_nar .char 63)) (2 : Int32).toNatClampNeg (vp_nar .char 63)))), (q_9, .inl (cA_10, 3, .inl (fun _ => 0))), (q_13, .inr (2, [.ref (w_15 0), .ref (w_15 1), .ref (w_15 2), .ref (w_15 3), .int 0, .int 0])), ((w_15 2), .inl (cJ_16, 64, .inr (.inl (fun _ => 0))))]) (w1 := []) hP hD [7] [0, 1, 2, 3, 4, 5, 6] rfl rfl (by decide) (by decide) hk1 hF pv_P0 pv_D0
  have hP : va_P D pv_cl [(h0, .inr (0, [.ref q_1, .int 0, .int 108, .ref q_3, .int 0, .ref q_5, .int 0, .ref q_7, .ref q_9, .int 1, .ref q_11, .ref q_13, .null, .null, .null])), (q_1, .inl (cA_2, 60, .inr (.inr (.inr (.inr (fun _ => none)))))), (q_3, .inl (cA_4, 5, .inr (.inr (.inr (.inr (fun _ => none)))))), (q_7, .inl (cA_8, 3, .inl (upd (upd (upd (fun _ => 0) (0 : Int32).toNatClampNeg (vp_nar .char 63)) (1 : Int32).toNatClampNeg (vp_nar .char 63)) (2 : Int32).toNatClampNeg (vp_nar .char 63)))), (q_9, .inl (cA_10, 3, .inl (fun _ => 0))), (q_13, .inr (2, [.ref (w_15 0), .ref (w_15 1), .ref (w_15 2), .ref (w_15 3), .int 0, .int 0])), ((w_15 2), .inl (cJ_16, 64, .inr (.inl (fun _ => 0))))] _ := hP
  have hD : va_D A [(h0, .inr (0, [.ref q_1, .int 0, .int 108, .ref q_3, .int 0, .ref q_5, .int 0, .ref q_7, .ref q_9, .int 1, .ref q_11, .ref q_13, .null, .null, .null])), (q_1, .inl (cA_2, 60, .inr (.inr (.inr (.inr (fun _ => none)))))), (q_3, .inl (cA_4, 5, .inr (.inr (.inr (.inr (fun _ => none)))))), (q_7, .inl (cA_8, 3, .inl (upd (upd (upd (fun _ => 0) (0 : Int32).toNatClampNeg (vp_nar .char 63)) (1 : Int32).toNatClampNeg (vp_nar .char 63)) (2 : Int32).toNatClampNeg (vp_nar .char 63)))), (q_9, .inl (cA_10, 3, .inl (fun _ => 0))), (q_13, .inr (2, [.ref (w_15 0), .ref (w_15 1), .ref (w_15 2), .ref (w_15 3), .int 0, .int 0])), ((w_15 2), .inl (cJ_16, 64, .inr (.inl (fun _ => 0))))] := hD
  refine va_putF (own := RX11) (D := D) (ci := 0) (v := .ref q_17) (ty := .object "Polyforge$Bench") (C := RX11) (T := TX11) (N := 15) hx hb hts inF11 tyX11 tyX11_ok nmX11 hown hK hP hD hS 0 rfl rfl 12 (by decide) (hg w2_49 rfl) (fun _ h9 => h9) rfl hin rfl (by decide +kernel) rfl rfl (Nat.le_of_ble_eq_true rfl) dX11_init_112 (fun H locs hP hD hS => ?_)
  have hP : va_P D pv_cl [(h0, .inr (0, [.ref q_1, .int 0, .int 108, .ref q_3, .int 0, .ref q_5, .int 0, .ref q_7, .ref q_9, .int 1, .ref q_11, .ref q_13, .ref q_17, .null, .null])), (q_1, .inl (cA_2, 60, .inr (.inr (.inr (.inr (fun _ => none)))))), (q_3, .inl (cA_4, 5, .inr (.inr (.inr (.inr (fun _ => none)))))), (q_7, .inl (cA_8, 3, .inl (upd (upd (upd (fun _ => 0) (0 : Int32).toNatClampNeg (vp_nar .char 63)) (1 : Int32).toNatClampNeg (vp_nar .char 63)) (2 : Int32).toNatClampNeg (vp_nar .char 63)))), (q_9, .inl (cA_10, 3, .inl (fun _ => 0))), (q_13, .inr (2, [.ref (w_15 0), .ref (w_15 1), .ref (w_15 2), .ref (w_15 3), .int 0, .int 0])), ((w_15 2), .inl (cJ_16, 64, .inr (.inl (fun _ => 0))))] _ := hP
  have hD : va_D A [(h0, .inr (0, [.ref q_1, .int 0, .int 108, .ref q_3, .int 0, .ref q_5, .int 0, .ref q_7, .ref q_9, .int 1, .ref q_11, .ref q_13, .ref q_17, .null, .null])), (q_1, .inl (cA_2, 60, .inr (.inr (.inr (.inr (fun _ => none)))))), (q_3, .inl (cA_4, 5, .inr (.inr (.inr (.inr (fun _ => none)))))), (q_7, .inl (cA_8, 3, .inl (upd (upd (upd (fun _ => 0) (0 : Int32).toNatClampNeg (vp_nar .char 63)) (1 : Int32).toNatClampNeg (vp_nar .char 63)) (2 : Int32).toNatClampNeg (vp_nar .char 63)))), (q_9, .inl (cA_10, 3, .inl (fun _ => 0))), (q_13, .inr (2, [.ref (w_15 0), .ref (w_15 1), .ref (w_15 2), .ref (w_15 3), .int 0, .int 0])), ((w_15 2), .inl (cJ_16, 64, .inr (.inl (fun _ => 0))))] := hD
  refine lv_aload_n hx hb dX11_init_115 rfl (lv_at hl 0 rfl) ?_
  refine va_new (own := RX11) (ci := 5) (fs := [.null, .null, .null, .null, .int 0, .null, .null]) (C := RX2) (T := TX2) (N := 7) hx hb hts inF2 tyX2 tyX2_ok hown (hg w1_154 rfl) (hg w1_155 rfl) (hg w1_5 rfl) hK hP hD hS hA rfl (by decide +kernel) (Nat.le_of_ble_eq_true rfl) (Nat.le_of_ble_eq_true rfl) dX11_init_116 (fun q_19 H hP hD hS => ?_)
  have hP : va_P D pv_cl [(h0, .inr (0, [.ref q_1, .int 0, .int 108, .ref q_3, .int 0, .ref q_5, .int 0, .ref q_7, .ref q_9, .int 1, .ref q_11, .ref q_13, .ref q_17, .null, .null])), (q_1, .inl (cA_2, 60, .inr (.inr (.inr (.inr (fun _ => none)))))), (q_3, .inl (cA_4, 5, .inr (.inr (.inr (.inr (fun _ => none)))))), (q_7, .inl (cA_8, 3, .inl (upd (upd (upd (fun _ => 0) (0 : Int32).toNatClampNeg (vp_nar .char 63)) (1 : Int32).toNatClampNeg (vp_nar .char 63)) (2 : Int32).toNatClampNeg (vp_nar .char 63)))), (q_9, .inl (cA_10, 3, .inl (fun _ => 0))), (q_13, .inr (2, [.ref (w_15 0), .ref (w_15 1), .ref (w_15 2), .ref (w_15 3), .int 0, .int 0])), ((w_15 2), .inl (cJ_16, 64, .inr (.inl (fun _ => 0)))), (q_19, .inr (5, [.null, .null, .null, .null, .int 0, .null, .null]))] _ := hP
  have hD : va_D A [(h0, .inr (0, [.ref q_1, .int 0, .int 108, .ref q_3, .int 0, .ref q_5, .int 0, .ref q_7, .ref q_9, .int 1, .ref q_11, .ref q_13, .ref q_17, .null, .null])), (q_1, .inl (cA_2, 60, .inr (.inr (.inr (.inr (fun _ => none)))))), (q_3, .inl (cA_4, 5, .inr (.inr (.inr (.inr (fun _ => none)))))), (q_7, .inl (cA_8, 3, .inl (upd (upd (upd (fun _ => 0) (0 : Int32).toNatClampNeg (vp_nar .char 63)) (1 : Int32).toNatClampNeg (vp_nar .char 63)) (2 : Int32).toNatClampNeg (vp_nar .char 63)))), (q_9, .inl (cA_10, 3, .inl (fun _ => 0))), (q_13, .inr (2, [.ref (w_15 0), .ref (w_15 1), .ref (w_15 2), .ref (w_15 3), .int 0, .int 0])), ((w_15 2), .inl (cJ_16, 64, .inr (.inl (fun _ => 0)))), (q_19, .inr (5, [.null, .null, .null, .null, .int 0, .null, .null]))] := hD
  refine W.widen (k := 53) (n := 37355) (Nat.le_of_ble_eq_true rfl) (Nat.le_of_ble_eq_true rfl) ?_
  refine lv_dup hx hb dX11_init_119 rfl ?_
  have hF := va_free (wc := [(q_19, .inr (5, [.null, .null, .null, .null, .int 0, .null, .null]))]) hD hS hA [7] rfl
  refine va_callv (va_runIN (As := []) (rest := [.ref q_19, .ref h0]) ⟨hx, hb, hml, hown, hts⟩ (c_X2_init l hfl D _ q_19) ⟨(va_cnB 0 hts (pv_gC w1_158) rfl rfl rfl (hE.2.2.1 _ (pv_ib w1_156 rfl)) (hg w1_5 rfl) (by decide +kernel) ⟨Nat.le_of_ble_eq_true rfl, Nat.le_of_ble_eq_true rfl⟩), rfl, hg w1_157 rfl⟩ (pv_ps hE hS hF (hP.sub [7] rfl) (hK.sub [] rfl) (hD.sub [7] (by decide) rfl)) rfl rfl hl.1 rfl (lv_room (Nat.le_of_ble_eq_true rfl)) dX11_init_120 ⟨Nat.le_of_ble_eq_true rfl, Nat.le_of_ble_eq_true rfl⟩) hS (fun q _ h => hF q h) hF (fun u t H1 locs1 ht hvm hw hB hz1 hk1 hS => ?_)
  refine W.widen (k := 84) (n := 38499) (Nat.le_of_ble_eq_true rfl) (Nat.le_of_ble_eq_true rfl) ?_
  obtain ⟨a_21, hP1, hK1, hD1⟩ := hB
  rw [ht] at hP1
  have hK1 := va_K.moved hvm.symm hK1
  obtain ⟨hP, hD⟩ := va_join (wr := [(h0, .inr (0, [.ref q_1, .int 0, .int 108, .ref q_3, .int 0, .ref q_5, .int 0, .ref q_7, .ref q_9, .int 1, .ref q_11, .ref q_13, .ref q_17, .null, .null])), (q_1, .inl (cA_2, 60, .inr (.inr (.inr (.inr (fun _ => none)))))), (q_3, .inl (cA_4, 5, .inr (.inr (.inr (.inr (fun _ => none)))))), (q_7, .inl (cA_8, 3, .inl (upd (upd (upd (fun _ => 0) (0 : Int32).toNatClampNeg (vp_nar .char 63)) (1 : Int32).toNatClampNeg (vp_nar .char 63)) (2 : Int32).toNatClampNeg (vp_nar .char 63)))), (q_9, .inl (cA_10, 3, .inl (fun _ => 0))), (q_13, .inr (2, [.ref (w_15 0), .ref (w_15 1), .ref (w_15 2), .ref (w_15 3), .int 0, .int 0])), ((w_15 2), .inl (cJ_16, 64, .inr (.inl (fun _ => 0))))]) (w1 := [(q_19, .inr (5, [.ref (a_21 0), .ref (a_21 1), .ref (a_21 2), .ref (a_21 3), .int 0, .ref (a_21 4), .ref (a_21 5)]))]) hP hD [7] [0, 1, 2, 3, 4, 5, 6] rfl rfl (by decide) (by decide) hk1 hF hP1 hD1
  have hP : va_P D pv_cl [(h0, .inr (0, [.ref q_1, .int 0, .int 108, .ref q_3, .int 0, .ref q_5, .int 0, .ref q_7, .ref q_9, .int 1, .ref q_11, .ref q_13, .ref q_17, .null, .null])), (q_1, .inl (cA_2, 60, .inr (.inr (.inr (.inr (fun _ => none)))))), (q_3, .inl (cA_4, 5, .inr (.inr (.inr (.inr (fun _ => none)))))), (q_7, .inl (cA_8, 3, .inl (upd (upd (upd (fun _ => 0) (0 : Int32).toNatClampNeg (vp_nar .char 63)) (1 : Int32).toNatClampNeg (vp_nar .char 63)) (2 : Int32).toNatClampNeg (vp_nar .char 63)))), (q_9, .inl (cA_10, 3, .inl (fun _ => 0))), (q_13, .inr (2, [.ref (w_15 0), .ref (w_15 1), .ref (w_15 2), .ref (w_15 3), .int 0, .int 0])), ((w_15 2), .inl (cJ_16, 64, .inr (.inl (fun _ => 0)))), (q_19, .inr (5, [.ref (a_21 0), .ref (a_21 1), .ref (a_21 2), .ref (a_21 3), .int 0, .ref (a_21 4), .ref (a_21 5)]))] _ := hP
  have hD : va_D A [(h0, .inr (0, [.ref q_1, .int 0, .int 108, .ref q_3, .int 0, .ref q_5, .int 0, .ref q_7, .ref q_9, .int 1, .ref q_11, .ref q_13, .ref q_17, .null, .null])), (q_1, .inl (cA_2, 60, .inr (.inr (.inr (.inr (fun _ => none)))))), (q_3, .inl (cA_4, 5, .inr (.inr (.inr (.inr (fun _ => none)))))), (q_7, .inl (cA_8, 3, .inl (upd (upd (upd (fun _ => 0) (0 : Int32).toNatClampNeg (vp_nar .char 63)) (1 : Int32).toNatClampNeg (vp_nar .char 63)) (2 : Int32).toNatClampNeg (vp_nar .char 63)))), (q_9, .inl (cA_10, 3, .inl (fun _ => 0))), (q_13, .inr (2, [.ref (w_15 0), .ref (w_15 1), .ref (w_15 2), .ref (w_15 3), .int 0, .int 0])), ((w_15 2), .inl (cJ_16, 64, .inr (.inl (fun _ => 0)))), (q_19, .inr (5, [.ref (a_21 0), .ref (a_21 1), .ref (a_21 2), .ref (a_21 3), .int 0, .ref (a_21 4), .ref (a_21 5)]))] := hD
  refine va_putF (own := RX11) (D := D) (ci := 0) (v := .ref q_19) (ty := .object "Polyforge$Completion") (C := RX11) (T := TX11) (N := 15) hx hb hts inF11 tyX11 tyX11_ok nmX11 hown hK hP hD hS 0 rfl rfl 13 (by decide) (hg w2_50 rfl) (fun _ h9 => h9) rfl hin rfl (by decide +kernel) rfl rfl (Nat.le_of_ble_eq_true rfl) dX11_init_123 (fun H locs hP hD hS => ?_)
  have hP : va_P D pv_cl [(h0, .inr (0, [.ref q_1, .int 0, .int 108, .ref q_3, .int 0, .ref q_5, .int 0, .ref q_7, .ref q_9, .int 1, .ref q_11, .ref q_13, .ref q_17, .ref q_19, .null])), (q_1, .inl (cA_2, 60, .inr (.inr (.inr (.inr (fun _ => none)))))), (q_3, .inl (cA_4, 5, .inr (.inr (.inr (.inr (fun _ => none)))))), (q_7, .inl (cA_8, 3, .inl (upd (upd (upd (fun _ => 0) (0 : Int32).toNatClampNeg (vp_nar .char 63)) (1 : Int32).toNatClampNeg (vp_nar .char 63)) (2 : Int32).toNatClampNeg (vp_nar .char 63)))), (q_9, .inl (cA_10, 3, .inl (fun _ => 0))), (q_13, .inr (2, [.ref (w_15 0), .ref (w_15 1), .ref (w_15 2), .ref (w_15 3), .int 0, .int 0])), ((w_15 2), .inl (cJ_16, 64, .inr (.inl (fun _ => 0)))), (q_19, .inr (5, [.ref (a_21 0), .ref (a_21 1), .ref (a_21 2), .ref (a_21 3), .int 0, .ref (a_21 4), .ref (a_21 5)]))] _ := hP
  have hD : va_D A [(h0, .inr (0, [.ref q_1, .int 0, .int 108, .ref q_3, .int 0, .ref q_5, .int 0, .ref q_7, .ref q_9, .int 1, .ref q_11, .ref q_13, .ref q_17, .ref q_19, .null])), (q_1, .inl (cA_2, 60, .inr (.inr (.inr (.inr (fun _ => none)))))), (q_3, .inl (cA_4, 5, .inr (.inr (.inr (.inr (fun _ => none)))))), (q_7, .inl (cA_8, 3, .inl (upd (upd (upd (fun _ => 0) (0 : Int32).toNatClampNeg (vp_nar .char 63)) (1 : Int32).toNatClampNeg (vp_nar .char 63)) (2 : Int32).toNatClampNeg (vp_nar .char 63)))), (q_9, .inl (cA_10, 3, .inl (fun _ => 0))), (q_13, .inr (2, [.ref (w_15 0), .ref (w_15 1), .ref (w_15 2), .ref (w_15 3), .int 0, .int 0])), ((w_15 2), .inl (cJ_16, 64, .inr (.inl (fun _ => 0)))), (q_19, .inr (5, [.ref (a_21 0), .ref (a_21 1), .ref (a_21 2), .ref (a_21 3), .int 0, .ref (a_21 4), .ref (a_21 5)]))] := hD
  refine lv_aload_n hx hb dX11_init_126 rfl (lv_at hl 0 rfl) ?_
  refine lv_aload_n hx hb dX11_init_127 rfl (lv_at hl 0 rfl) ?_
  refine va_get (own := RX11) (D := D) (ci := 0) (v := .ref q_19) (C := RX11) (T := TX11) (N := 15) hx hb hts inF11 hown hK hP 0 rfl rfl 13 (by decide) (hg w2_50 rfl) (fun _ h9 => h9) rfl dX11_init_128 ?_
  refine pv_pc 131 rfl ?_
  refine va_getN (own := RX11) (D := D) (ci := 5) (v := .ref (a_21 0)) (C := RX2) (T := TX2) (N := 7) hx hb hts inF2 hown hK hP 7 rfl rfl 0 (by decide) (va_Nw.use rfl (hE.2.2.1 _ (pv_ib w2_15 rfl))) (fun _ h9 => h9) rfl dX11_init_131 ?_
  refine va_putF (own := RX11) (D := D) (ci := 0) (v := .ref (a_21 0)) (ty := .object "Polyforge$Divider") (C := RX11) (T := TX11) (N := 15) hx hb hts inF11 tyX11 tyX11_ok nmX11 hown hK hP hD hS 0 rfl rfl 14 (by decide) (hg w2_51 rfl) (fun _ h9 => h9) rfl hin rfl (by decide +kernel) rfl rfl (Nat.le_of_ble_eq_true rfl) dX11_init_134 (fun H locs hP hD hS => ?_)
  have hP : va_P D pv_cl [(h0, .inr (0, [.ref q_1, .int 0, .int 108, .ref q_3, .int 0, .ref q_5, .int 0, .ref q_7, .ref q_9, .int 1, .ref q_11, .ref q_13, .ref q_17, .ref q_19, .ref (a_21 0)])), (q_1, .inl (cA_2, 60, .inr (.inr (.inr (.inr (fun _ => none)))))), (q_3, .inl (cA_4, 5, .inr (.inr (.inr (.inr (fun _ => none)))))), (q_7, .inl (cA_8, 3, .inl (upd (upd (upd (fun _ => 0) (0 : Int32).toNatClampNeg (vp_nar .char 63)) (1 : Int32).toNatClampNeg (vp_nar .char 63)) (2 : Int32).toNatClampNeg (vp_nar .char 63)))), (q_9, .inl (cA_10, 3, .inl (fun _ => 0))), (q_13, .inr (2, [.ref (w_15 0), .ref (w_15 1), .ref (w_15 2), .ref (w_15 3), .int 0, .int 0])), ((w_15 2), .inl (cJ_16, 64, .inr (.inl (fun _ => 0)))), (q_19, .inr (5, [.ref (a_21 0), .ref (a_21 1), .ref (a_21 2), .ref (a_21 3), .int 0, .ref (a_21 4), .ref (a_21 5)]))] _ := hP
  have hD : va_D A [(h0, .inr (0, [.ref q_1, .int 0, .int 108, .ref q_3, .int 0, .ref q_5, .int 0, .ref q_7, .ref q_9, .int 1, .ref q_11, .ref q_13, .ref q_17, .ref q_19, .ref (a_21 0)])), (q_1, .inl (cA_2, 60, .inr (.inr (.inr (.inr (fun _ => none)))))), (q_3, .inl (cA_4, 5, .inr (.inr (.inr (.inr (fun _ => none)))))), (q_7, .inl (cA_8, 3, .inl (upd (upd (upd (fun _ => 0) (0 : Int32).toNatClampNeg (vp_nar .char 63)) (1 : Int32).toNatClampNeg (vp_nar .char 63)) (2 : Int32).toNatClampNeg (vp_nar .char 63)))), (q_9, .inl (cA_10, 3, .inl (fun _ => 0))), (q_13, .inr (2, [.ref (w_15 0), .ref (w_15 1), .ref (w_15 2), .ref (w_15 3), .int 0, .int 0])), ((w_15 2), .inl (cJ_16, 64, .inr (.inl (fun _ => 0)))), (q_19, .inr (5, [.ref (a_21 0), .ref (a_21 1), .ref (a_21 2), .ref (a_21 3), .int 0, .ref (a_21 4), .ref (a_21 5)]))] := hD
  have hP : va_P D pv_cl [(h0, .inr (0, [.ref q_1, .int 0, .int 108, .ref q_3, .int 0, .ref q_5, .int 0, .ref q_7, .ref q_9, .int 1, .ref q_11, .ref q_13, .ref q_17, .ref q_19, .ref (a_21 0)])), (q_1, .inl (cA_2, 60, .inr (.inr (.inr (.inr (fun _ => none)))))), (q_3, .inl (cA_4, 5, .inr (.inr (.inr (.inr (fun _ => none)))))), (q_7, .inl (cA_8, 3, .inl (upd (upd (upd (fun _ => 0) (0 : Int32).toNatClampNeg (vp_nar .char 63)) (1 : Int32).toNatClampNeg (vp_nar .char 63)) (2 : Int32).toNatClampNeg (vp_nar .char 63)))), (q_9, .inl (cA_10, 3, .inl (fun _ => 0))), (q_13, .inr (2, [.ref (w_15 0), .ref (w_15 1), .ref (w_15 2), .ref (w_15 3), .int 0, .int 0])), ((w_15 2), .inl (cJ_16, 64, .inr (.inl (fun _ => 0))))] _ := hP.sub [0, 1, 2, 3, 4, 5, 6] rfl
  have hD : va_D A [(h0, .inr (0, [.ref q_1, .int 0, .int 108, .ref q_3, .int 0, .ref q_5, .int 0, .ref q_7, .ref q_9, .int 1, .ref q_11, .ref q_13, .ref q_17, .ref q_19, .ref (a_21 0)])), (q_1, .inl (cA_2, 60, .inr (.inr (.inr (.inr (fun _ => none)))))), (q_3, .inl (cA_4, 5, .inr (.inr (.inr (.inr (fun _ => none)))))), (q_7, .inl (cA_8, 3, .inl (upd (upd (upd (fun _ => 0) (0 : Int32).toNatClampNeg (vp_nar .char 63)) (1 : Int32).toNatClampNeg (vp_nar .char 63)) (2 : Int32).toNatClampNeg (vp_nar .char 63)))), (q_9, .inl (cA_10, 3, .inl (fun _ => 0))), (q_13, .inr (2, [.ref (w_15 0), .ref (w_15 1), .ref (w_15 2), .ref (w_15 3), .int 0, .int 0])), ((w_15 2), .inl (cJ_16, 64, .inr (.inl (fun _ => 0))))] := hD.sub [0, 1, 2, 3, 4, 5, 6] (by decide) rfl
  refine W.widen (k := 84) (n := 38499) (Nat.le_of_ble_eq_true rfl) (Nat.le_of_ble_eq_true rfl) ?_
  exact W.vret hx hb hr (fun t ht hW => ⟨⟨(), rfl, trivial, (fun k => ([q_1, q_3, q_5, q_7, q_9, q_11, q_13, q_17, q_19, (a_21 0)] : List Nat).getD k 0), w_15, cJ_16, cA_2, cA_4, cA_8, cA_10, upd (upd (upd (fun _ => 0) (0 : Int32).toNatClampNeg (vp_nar .char 63)) (1 : Int32).toNatClampNeg (vp_nar .char 63)) (2 : Int32).toNatClampNeg (vp_nar .char 63), fun _ => 0, pv_sg3, (by rw [ht]; exact hP.sub [0, 5, 6, 1, 2, 3, 4] rfl), va_K.moved hW.alike (hK.sub [4, 0, 1, 2, 3] rfl), hD.sub [0, 5, 6, 1, 2, 3, 4] (by decide) rfl⟩, hS.F ht⟩) hS.2.2 dX11_init_137

theorem dX13_init_0 : decode cX13_init 0 = .ok (.aload_n 0, 1) := by decide +kernel
theorem dX13_init_1 : decode cX13_init 1 = .ok (.invokespecial 1, 3) := by decide +kernel
theorem w8_197 : (Jvm.Cond.methodLink "PolyforgeModel" (1 : Nat) ({ cls := "java/lang/Object", name := "<init>", desc := "()V" } : Jvm.MethodName)) ∈ lw_tbl := pv_t8 (pv_mg 197 rfl)
theorem dX13_init_4 : decode cX13_init 4 = .ok (.aload_n 0, 1) := by decide +kernel
theorem dX13_init_5 : decode cX13_init 5 = .ok (.bipush 108, 2) := by decide +kernel
theorem dX13_init_7 : decode cX13_init 7 = .ok (.putfield 7, 3) := by decide +kernel
theorem dX13_init_10 : decode cX13_init 10 = .ok (.aload_n 0, 1) := by decide +kernel
theorem dX13_init_11 : decode cX13_init 11 = .ok (.bipush 60, 2) := by decide +kernel
theorem dX13_init_13 : decode cX13_init 13 = .ok (.newarray .int, 2) := by decide +kernel
theorem dX13_init_15 : decode cX13_init 15 = .ok (.putfield 13, 3) := by decide +kernel
theorem dX13_init_18 : decode cX13_init 18 = .ok (.aload_n 0, 1) := by decide +kernel
theorem dX13_init_19 : decode cX13_init 19 = .ok (.bipush 60, 2) := by decide +kernel
theorem dX13_init_21 : decode cX13_init 21 = .ok (.anewarray 17, 3) := by decide +kernel
theorem dX13_init_24 : decode cX13_init 24 = .ok (.putfield 19, 3) := by decide +kernel
theorem dX13_init_27 : decode cX13_init 27 = .ok (.aload_n 0, 1) := by decide +kernel
theorem dX13_init_28 : decode cX13_init 28 = .ok (.iconst 5, 1) := by decide +kernel
theorem dX13_init_29 : decode cX13_init 29 = .ok (.newarray .int, 2) := by decide +kernel
theorem dX13_init_31 : decode cX13_init 31 = .ok (.putfield 23, 3) := by decide +kernel
theorem dX13_init_34 : decode cX13_init 34 = .ok (.aload_n 0, 1) := by decide +kernel
theorem dX13_init_35 : decode cX13_init 35 = .ok (.iconst 5, 1) := by decide +kernel
theorem dX13_init_36 : decode cX13_init 36 = .ok (.newarray .int, 2) := by decide +kernel
theorem dX13_init_38 : decode cX13_init 38 = .ok (.putfield 26, 3) := by decide +kernel
theorem w8_213 : (Jvm.Cond.fieldLink "PolyforgeModel" (26 : Nat) "PolyforgeModel" "generators" "[I") ∈ lw_tbl := pv_t8 (pv_mg 213 rfl)
theorem dX13_init_41 : decode cX13_init 41 = .ok (.aload_n 0, 1) := by decide +kernel
theorem dX13_init_42 : decode cX13_init 42 = .ok (.bipush 15, 2) := by decide +kernel
theorem dX13_init_44 : decode cX13_init 44 = .ok (.newarray .int, 2) := by decide +kernel
theorem dX13_init_46 : decode cX13_init 46 = .ok (.putfield 29, 3) := by decide +kernel
theorem w8_214 : (Jvm.Cond.fieldLink "PolyforgeModel" (29 : Nat) "PolyforgeModel" "generatorAt" "[I") ∈ lw_tbl := pv_t8 (pv_mg 214 rfl)
theorem dX13_init_49 : decode cX13_init 49 = .ok (.aload_n 0, 1) := by decide +kernel
theorem dX13_init_50 : decode cX13_init 50 = .ok (.bipush 8, 2) := by decide +kernel
theorem dX13_init_52 : decode cX13_init 52 = .ok (.newarray .int, 2) := by decide +kernel
theorem dX13_init_54 : decode cX13_init 54 = .ok (.putfield 32, 3) := by decide +kernel
theorem w8_216 : (Jvm.Cond.fieldLink "PolyforgeModel" (32 : Nat) "PolyforgeModel" "ruleMonomial" "[I") ∈ lw_tbl := pv_t8 (pv_mg 216 rfl)
theorem dX13_init_57 : decode cX13_init 57 = .ok (.aload_n 0, 1) := by decide +kernel
theorem dX13_init_58 : decode cX13_init 58 = .ok (.bipush 8, 2) := by decide +kernel
theorem dX13_init_60 : decode cX13_init 60 = .ok (.newarray .int, 2) := by decide +kernel
theorem dX13_init_62 : decode cX13_init 62 = .ok (.putfield 35, 3) := by decide +kernel
theorem w8_217 : (Jvm.Cond.fieldLink "PolyforgeModel" (35 : Nat) "PolyforgeModel" "rulePolynomial" "[I") ∈ lw_tbl := pv_t8 (pv_mg 217 rfl)
theorem dX13_init_65 : decode cX13_init 65 = .ok (.aload_n 0, 1) := by decide +kernel
theorem dX13_init_66 : decode cX13_init 66 = .ok (.bipush 8, 2) := by decide +kernel
theorem dX13_init_68 : decode cX13_init 68 = .ok (.newarray .int, 2) := by decide +kernel
theorem dX13_init_70 : decode cX13_init 70 = .ok (.putfield 38, 3) := by decide +kernel
theorem w8_218 : (Jvm.Cond.fieldLink "PolyforgeModel" (38 : Nat) "PolyforgeModel" "ruleVariable" "[I") ∈ lw_tbl := pv_t8 (pv_mg 218 rfl)
theorem dX13_init_73 : decode cX13_init 73 = .ok (.aload_n 0, 1) := by decide +kernel
theorem dX13_init_74 : decode cX13_init 74 = .ok (.bipush 8, 2) := by decide +kernel
theorem dX13_init_76 : decode cX13_init 76 = .ok (.newarray .char, 2) := by decide +kernel
theorem dX13_init_78 : decode cX13_init 78 = .ok (.putfield 41, 3) := by decide +kernel
theorem w8_219 : (Jvm.Cond.fieldLink "PolyforgeModel" (41 : Nat) "PolyforgeModel" "ruleSign" "[C") ∈ lw_tbl := pv_t8 (pv_mg 219 rfl)
theorem dX13_init_81 : decode cX13_init 81 = .ok (.aload_n 0, 1) := by decide +kernel
theorem dX13_init_82 : decode cX13_init 82 = .ok (.iconst 1, 1) := by decide +kernel
theorem dX13_init_83 : decode cX13_init 83 = .ok (.putfield 45, 3) := by decide +kernel
theorem dX13_init_86 : decode cX13_init 86 = .ok (.aload_n 0, 1) := by decide +kernel
theorem dX13_init_87 : decode cX13_init 87 = .ok (.iconst 3, 1) := by decide +kernel
theorem dX13_init_88 : decode cX13_init 88 = .ok (.newarray .char, 2) := by decide +kernel
theorem dX13_init_90 : decode cX13_init 90 = .ok (.putfield 49, 3) := by decide +kernel
theorem dX13_init_93 : decode cX13_init 93 = .ok (.aload_n 0, 1) := by decide +kernel
theorem dX13_init_94 : decode cX13_init 94 = .ok (.iconst 3, 1) := by decide +kernel
theorem dX13_init_95 : decode cX13_init 95 = .ok (.newarray .int, 2) := by decide +kernel
theorem dX13_init_97 : decode cX13_init 97 = .ok (.putfield 52, 3) := by decide +kernel
theorem dX13_init_100 : decode cX13_init 100 = .ok (.aload_n 0, 1) := by decide +kernel
theorem dX13_init_101 : decode cX13_init 101 = .ok (.bipush 7, 2) := by decide +kernel
theorem dX13_init_103 : decode cX13_init 103 = .ok (.bipush 64, 2) := by decide +kernel
theorem dX13_init_105 : decode cX13_init 105 = .ok (.multianewarray 55 2, 4) := by decide +kernel
theorem w8_200 : (Jvm.Cond.classLink "PolyforgeModel" (55 : Nat) "[[I") ∈ lw_tbl := pv_t8 (pv_mg 200 rfl)
theorem dX13_init_109 : decode cX13_init 109 = .ok (.putfield 57, 3) := by decide +kernel
theorem w8_225 : (Jvm.Cond.fieldLink "PolyforgeModel" (57 : Nat) "PolyforgeModel" "factorOf" "[[I") ∈ lw_tbl := pv_t8 (pv_mg 225 rfl)
theorem dX13_init_112 : decode cX13_init 112 = .ok (.aload_n 0, 1) := by decide +kernel
theorem dX13_init_113 : decode cX13_init 113 = .ok (.bipush 7, 2) := by decide +kernel
theorem dX13_init_115 : decode cX13_init 115 = .ok (.newarray .int, 2) := by decide +kernel
theorem dX13_init_117 : decode cX13_init 117 = .ok (.putfield 60, 3) := by decide +kernel
theorem w8_226 : (Jvm.Cond.fieldLink "PolyforgeModel" (60 : Nat) "PolyforgeModel" "factorTimes" "[I") ∈ lw_tbl := pv_t8 (pv_mg 226 rfl)
theorem dX13_init_120 : decode cX13_init 120 = .ok (.aload_n 0, 1) := by decide +kernel
theorem dX13_init_121 : decode cX13_init 121 = .ok (.sipush 29791, 3) := by decide +kernel
theorem dX13_init_124 : decode cX13_init 124 = .ok (.newarray .long, 2) := by decide +kernel
theorem dX13_init_126 : decode cX13_init 126 = .ok (.putfield 63, 3) := by decide +kernel
theorem w8_227 : (Jvm.Cond.fieldLink "PolyforgeModel" (63 : Nat) "PolyforgeModel" "row" "[J") ∈ lw_tbl := pv_t8 (pv_mg 227 rfl)
theorem dX13_init_129 : decode cX13_init 129 = .ok (.aload_n 0, 1) := by decide +kernel
theorem dX13_init_130 : decode cX13_init 130 = .ok (.sipush 29791, 3) := by decide +kernel
theorem dX13_init_133 : decode cX13_init 133 = .ok (.newarray .long, 2) := by decide +kernel
theorem dX13_init_135 : decode cX13_init 135 = .ok (.putfield 67, 3) := by decide +kernel
theorem w8_228 : (Jvm.Cond.fieldLink "PolyforgeModel" (67 : Nat) "PolyforgeModel" "power" "[J") ∈ lw_tbl := pv_t8 (pv_mg 228 rfl)
theorem dX13_init_138 : decode cX13_init 138 = .ok (.aload_n 0, 1) := by decide +kernel
theorem dX13_init_139 : decode cX13_init 139 = .ok (.sipush 29791, 3) := by decide +kernel
theorem dX13_init_142 : decode cX13_init 142 = .ok (.newarray .long, 2) := by decide +kernel
theorem dX13_init_144 : decode cX13_init 144 = .ok (.putfield 70, 3) := by decide +kernel
theorem w8_229 : (Jvm.Cond.fieldLink "PolyforgeModel" (70 : Nat) "PolyforgeModel" "product" "[J") ∈ lw_tbl := pv_t8 (pv_mg 229 rfl)
theorem dX13_init_147 : decode cX13_init 147 = .ok (.aload_n 0, 1) := by decide +kernel
theorem dX13_init_148 : decode cX13_init 148 = .ok (.bipush 12, 2) := by decide +kernel
theorem dX13_init_150 : decode cX13_init 150 = .ok (.bipush 64, 2) := by decide +kernel
theorem dX13_init_152 : decode cX13_init 152 = .ok (.multianewarray 55 2, 4) := by decide +kernel
theorem dX13_init_156 : decode cX13_init 156 = .ok (.putfield 73, 3) := by decide +kernel
theorem w8_230 : (Jvm.Cond.fieldLink "PolyforgeModel" (73 : Nat) "PolyforgeModel" "scratch" "[[I") ∈ lw_tbl := pv_t8 (pv_mg 230 rfl)
theorem dX13_init_159 : decode cX13_init 159 = .ok (.aload_n 0, 1) := by decide +kernel
theorem dX13_init_160 : decode cX13_init 160 = .ok (.bipush 60, 2) := by decide +kernel
theorem dX13_init_162 : decode cX13_init 162 = .ok (.bipush 60, 2) := by decide +kernel
theorem dX13_init_164 : decode cX13_init 164 = .ok (.multianewarray 55 2, 4) := by decide +kernel
theorem dX13_init_168 : decode cX13_init 168 = .ok (.putfield 76, 3) := by decide +kernel
theorem w8_231 : (Jvm.Cond.fieldLink "PolyforgeModel" (76 : Nat) "PolyforgeModel" "matrix" "[[I") ∈ lw_tbl := pv_t8 (pv_mg 231 rfl)
theorem dX13_init_171 : decode cX13_init 171 = .ok (.aload_n 0, 1) := by decide +kernel
theorem dX13_init_172 : decode cX13_init 172 = .ok (.iconst (-1), 1) := by decide +kernel
theorem dX13_init_173 : decode cX13_init 173 = .ok (.putfield 79, 3) := by decide +kernel
theorem w8_232 : (Jvm.Cond.fieldLink "PolyforgeModel" (79 : Nat) "PolyforgeModel" "basisIdeal" "I") ∈ lw_tbl := pv_t8 (pv_mg 232 rfl)
theorem dX13_init_176 : decode cX13_init 176 = .ok (.aload_n 0, 1) := by decide +kernel
theorem dX13_init_177 : decode cX13_init 177 = .ok (.sipush 201, 3) := by decide +kernel
theorem dX13_init_180 : decode cX13_init 180 = .ok (.newarray .int, 2) := by decide +kernel
theorem dX13_init_182 : decode cX13_init 182 = .ok (.putfield 82, 3) := by decide +kernel
theorem w8_236 : (Jvm.Cond.fieldLink "PolyforgeModel" (82 : Nat) "PolyforgeModel" "poolAt" "[I") ∈ lw_tbl := pv_t8 (pv_mg 236 rfl)
theorem dX13_init_185 : decode cX13_init 185 = .ok (.aload_n 0, 1) := by decide +kernel
theorem dX13_init_186 : decode cX13_init 186 = .ok (.ldc 85, 2) := by decide +kernel
theorem w8_202 : (Jvm.Cond.constant "PolyforgeModel" (85 : Nat) (60000 : Int32)) ∈ lw_tbl := pv_t8 (pv_mg 202 rfl)
theorem dX13_init_188 : decode cX13_init 188 = .ok (.newarray .int, 2) := by decide +kernel
theorem dX13_init_190 : decode cX13_init 190 = .ok (.putfield 86, 3) := by decide +kernel
theorem w8_237 : (Jvm.Cond.fieldLink "PolyforgeModel" (86 : Nat) "PolyforgeModel" "poolMonomials" "[I") ∈ lw_tbl := pv_t8 (pv_mg 237 rfl)
theorem dX13_init_193 : decode cX13_init 193 = .ok (.aload_n 0, 1) := by decide +kernel
theorem dX13_init_194 : decode cX13_init 194 = .ok (.ldc 85, 2) := by decide +kernel
theorem dX13_init_196 : decode cX13_init 196 = .ok (.newarray .int, 2) := by decide +kernel
theorem dX13_init_198 : decode cX13_init 198 = .ok (.putfield 89, 3) := by decide +kernel
theorem w8_238 : (Jvm.Cond.fieldLink "PolyforgeModel" (89 : Nat) "PolyforgeModel" "poolCoefficients" "[I") ∈ lw_tbl := pv_t8 (pv_mg 238 rfl)
theorem dX13_init_201 : decode cX13_init 201 = .ok (.aload_n 0, 1) := by decide +kernel
theorem dX13_init_202 : decode cX13_init 202 = .ok (.sipush 200, 3) := by decide +kernel
theorem dX13_init_205 : decode cX13_init 205 = .ok (.newarray .boolean, 2) := by decide +kernel
theorem w9_101 : (Jvm.Cond.arrayClass Jvm.ClassFile.FieldType.boolean) ∈ lw_tbl := pv_t9 (pv_mg 101 rfl)
theorem dX13_init_207 : decode cX13_init 207 = .ok (.putfield 92, 3) := by decide +kernel
theorem w8_239 : (Jvm.Cond.fieldLink "PolyforgeModel" (92 : Nat) "PolyforgeModel" "isOut" "[Z") ∈ lw_tbl := pv_t8 (pv_mg 239 rfl)
theorem dX13_init_210 : decode cX13_init 210 = .ok (.aload_n 0, 1) := by decide +kernel
theorem dX13_init_211 : decode cX13_init 211 = .ok (.sipush 201, 3) := by decide +kernel
theorem dX13_init_214 : decode cX13_init 214 = .ok (.newarray .int, 2) := by decide +kernel
theorem dX13_init_216 : decode cX13_init 216 = .ok (.putfield 96, 3) := by decide +kernel
theorem w9_0 : (Jvm.Cond.fieldLink "PolyforgeModel" (96 : Nat) "PolyforgeModel" "starts" "[I") ∈ lw_tbl := pv_t9 (pv_mg 0 rfl)
theorem dX13_init_219 : decode cX13_init 219 = .ok (.aload_n 0, 1) := by decide +kernel
theorem dX13_init_220 : decode cX13_init 220 = .ok (.sipush 200, 3) := by decide +kernel
theorem dX13_init_223 : decode cX13_init 223 = .ok (.sipush 200, 3) := by decide +kernel
theorem dX13_init_226 : decode cX13_init 226 = .ok (.multianewarray 99 2, 4) := by decide +kernel
theorem w8_203 : (Jvm.Cond.classLink "PolyforgeModel" (99 : Nat) "[[Z") ∈ lw_tbl := pv_t8 (pv_mg 203 rfl)
theorem dX13_init_230 : decode cX13_init 230 = .ok (.putfield 101, 3) := by decide +kernel
theorem w9_1 : (Jvm.Cond.fieldLink "PolyforgeModel" (101 : Nat) "PolyforgeModel" "isDone" "[[Z") ∈ lw_tbl := pv_t9 (pv_mg 1 rfl)
theorem dX13_init_233 : decode cX13_init 233 = .ok (.aload_n 0, 1) := by decide +kernel
theorem dX13_init_234 : decode cX13_init 234 = .ok (.ldc 85, 2) := by decide +kernel
theorem dX13_init_236 : decode cX13_init 236 = .ok (.newarray .int, 2) := by decide +kernel
theorem dX13_init_238 : decode cX13_init 238 = .ok (.putfield 104, 3) := by decide +kernel
theorem w9_3 : (Jvm.Cond.fieldLink "PolyforgeModel" (104 : Nat) "PolyforgeModel" "workMonomials" "[I") ∈ lw_tbl := pv_t9 (pv_mg 3 rfl)
theorem dX13_init_241 : decode cX13_init 241 = .ok (.aload_n 0, 1) := by decide +kernel
theorem dX13_init_242 : decode cX13_init 242 = .ok (.ldc 85, 2) := by decide +kernel
theorem dX13_init_244 : decode cX13_init 244 = .ok (.newarray .int, 2) := by decide +kernel
theorem dX13_init_246 : decode cX13_init 246 = .ok (.putfield 107, 3) := by decide +kernel
theorem w9_4 : (Jvm.Cond.fieldLink "PolyforgeModel" (107 : Nat) "PolyforgeModel" "workCoefficients" "[I") ∈ lw_tbl := pv_t9 (pv_mg 4 rfl)
theorem dX13_init_249 : decode cX13_init 249 = .ok (.aload_n 0, 1) := by decide +kernel
theorem dX13_init_250 : decode cX13_init 250 = .ok (.ldc 85, 2) := by decide +kernel
theorem dX13_init_252 : decode cX13_init 252 = .ok (.newarray .int, 2) := by decide +kernel
theorem dX13_init_254 : decode cX13_init 254 = .ok (.putfield 110, 3) := by decide +kernel
theorem w9_5 : (Jvm.Cond.fieldLink "PolyforgeModel" (110 : Nat) "PolyforgeModel" "nextMonomials" "[I") ∈ lw_tbl := pv_t9 (pv_mg 5 rfl)
theorem dX13_init_257 : decode cX13_init 257 = .ok (.aload_n 0, 1) := by decide +kernel
theorem dX13_init_258 : decode cX13_init 258 = .ok (.ldc 85, 2) := by decide +kernel
theorem dX13_init_260 : decode cX13_init 260 = .ok (.newarray .int, 2) := by decide +kernel
theorem dX13_init_262 : decode cX13_init 262 = .ok (.putfield 113, 3) := by decide +kernel
theorem w9_6 : (Jvm.Cond.fieldLink "PolyforgeModel" (113 : Nat) "PolyforgeModel" "nextCoefficients" "[I") ∈ lw_tbl := pv_t9 (pv_mg 6 rfl)
theorem dX13_init_265 : decode cX13_init 265 = .ok (.aload_n 0, 1) := by decide +kernel
theorem dX13_init_266 : decode cX13_init 266 = .ok (.ldc 85, 2) := by decide +kernel
theorem dX13_init_268 : decode cX13_init 268 = .ok (.newarray .int, 2) := by decide +kernel
theorem dX13_init_270 : decode cX13_init 270 = .ok (.putfield 116, 3) := by decide +kernel
theorem w9_8 : (Jvm.Cond.fieldLink "PolyforgeModel" (116 : Nat) "PolyforgeModel" "outMonomials" "[I") ∈ lw_tbl := pv_t9 (pv_mg 8 rfl)
theorem dX13_init_273 : decode cX13_init 273 = .ok (.aload_n 0, 1) := by decide +kernel
theorem dX13_init_274 : decode cX13_init 274 = .ok (.ldc 85, 2) := by decide +kernel
theorem dX13_init_276 : decode cX13_init 276 = .ok (.newarray .int, 2) := by decide +kernel
theorem dX13_init_278 : decode cX13_init 278 = .ok (.putfield 119, 3) := by decide +kernel
theorem w9_9 : (Jvm.Cond.fieldLink "PolyforgeModel" (119 : Nat) "PolyforgeModel" "outCoefficients" "[I") ∈ lw_tbl := pv_t9 (pv_mg 9 rfl)
theorem dX13_init_281 : decode cX13_init 281 = .ok (.iconst 0, 1) := by decide +kernel
theorem dX13_init_282 : decode cX13_init 282 = .ok (.istore_n 1, 1) := by decide +kernel
theorem dX13_init_283 : decode cX13_init 283 = .ok (.iload_n 1, 1) := by decide +kernel
theorem dX13_init_284 : decode cX13_init 284 = .ok (.iconst 3, 1) := by decide +kernel
theorem dX13_init_285 : decode cX13_init 285 = .ok (.if_icmp .ge 17, 3) := by decide +kernel
theorem dX13_init_288 : decode cX13_init 288 = .ok (.aload_n 0, 1) := by decide +kernel
theorem dX13_init_289 : decode cX13_init 289 = .ok (.getfield 49, 3) := by decide +kernel
theorem dX13_init_292 : decode cX13_init 292 = .ok (.iload_n 1, 1) := by decide +kernel
theorem dX13_init_293 : decode cX13_init 293 = .ok (.bipush 63, 2) := by decide +kernel
theorem dX13_init_295 : decode cX13_init 295 = .ok (.castore, 1) := by decide +kernel
theorem dX13_init_296 : decode cX13_init 296 = .ok (.iinc 1 1, 3) := by decide +kernel
theorem dX13_init_299 : decode cX13_init 299 = .ok (.goto (-16), 3) := by decide +kernel
theorem dX13_init_302 : decode cX13_init 302 = .ok (.return_, 1) := by decide +kernel
set_option maxHeartbeats 4000000 in
set_option maxRecDepth 100000 in
/-- a new PolyforgeModel -/
theorem c_X13_init (l : Launch) (hfl : l.stackTraces = false) (D : va_G) (sz : Nat) (h0 : Nat) : Met l yX13_init (Cond.code yX13_init cX13_init 2 none :: pv_W) ({ frames := 1, cells := 309, slots := 615260, locals := 40 } : Room) (va_Pc [.ref h0] (pv_P D [] [(h0, .inr (1, [.int 0, .int 0, .int 0, .null, .null, .int 0, .int 0, .null, .null, .null, .int 0, .null, .null, .null, .null, .int 0, .null, .null, .int 0, .int 0, .null, .null, .null, .null, .null, .null, .null, .int 0, .int 0, .int 0, .int 0, .null, .null, .null, .null, .null, .null, .int 0, .null, .null, .null, .null, .int 0, .null, .null]))] (va_A [(h0, .inr (1, [.int 0, .int 0, .int 0, .null, .null, .int 0, .int 0, .null, .null, .null, .int 0, .null, .null, .null, .null, .int 0, .null, .null, .int 0, .int 0, .null, .null, .null, .null, .null, .null, .null, .int 0, .int 0, .int 0, .int 0, .null, .null, .null, .null, .null, .null, .int 0, .null, .null, .null, .null, .int 0, .null, .null]))] sz) sz)) (va_Qv (fun (_ : Unit) => True) (fun _ t => ∃ (q : Nat → Nat) (cI cI2 cI3 cT cC : ClassId) (sg sf : Nat → Int32), (∀ j, j < 3 → sg j = 63) ∧ va_P D pv_cl [(h0, .inr (1, pv_m 0 q)), ((q 0), .inl (cI, 60, .inl (fun _ => 0))), ((q 1), .inl (cT, 60, .inr (.inr (.inr (.inr (fun _ => none)))))), ((q 2), .inl (cI2, 5, .inl (fun _ => 0))), ((q 9), .inl (cC, 3, .inl sg)), ((q 10), .inl (cI3, 3, .inl sf))] t.heap ∧ va_K D pv_cl [(cI, .int), (cT, .object "PolyforgeModel$Terms"), (cI2, .int), (cC, .char), (cI3, .int)] t ∧ va_D (va_A [(h0, .inr (1, [.int 0, .int 0, .int 0, .null, .null, .int 0, .int 0, .null, .null, .null, .int 0, .null, .null, .null, .null, .int 0, .null, .null, .int 0, .int 0, .null, .null, .null, .null, .null, .null, .null, .int 0, .int 0, .int 0, .int 0, .null, .null, .null, .null, .null, .null, .int 0, .null, .null, .null, .null, .int 0, .null, .null]))] sz) [(h0, .inr (1, pv_m 0 q)), ((q 0), .inl (cI, 60, .inl (fun _ => 0))), ((q 1), .inl (cT, 60, .inr (.inr (.inr (.inr (fun _ => none)))))), ((q 2), .inl (cI2, 5, .inl (fun _ => 0))), ((q 9), .inl (cC, 3, .inl sg)), ((q 10), .inl (cI3, 3, .inl sf))]) (va_A [(h0, .inr (1, [.int 0, .int 0, .int 0, .null, .null, .int 0, .int 0, .null, .null, .null, .int 0, .null, .null, .null, .null, .int 0, .null, .null, .int 0, .int 0, .null, .null, .null, .null, .null, .null, .null, .int 0, .int 0, .int 0, .int 0, .null, .null, .null, .null, .null, .null, .int 0, .null, .null, .null, .null, .int 0, .null, .null]))] sz)) 309 615260 (va_A [(h0, .inr (1, [.int 0, .int 0, .int 0, .null, .null, .int 0, .int 0, .null, .null, .null, .int 0, .null, .null, .null, .null, .int 0, .null, .null, .int 0, .int 0, .null, .null, .null, .null, .null, .null, .null, .int 0, .int 0, .int 0, .int 0, .null, .null, .null, .null, .null, .null, .int 0, .null, .null, .null, .null, .int 0, .null, .null]))] sz) := by
  refine Met.ofW (cc := cX13_init) (maxL := 2) (ret := none) (by decide) rfl ?_
  intro p e s m args below meth c s₁ B hml hv
  obtain ⟨rfl, hsz, hE, hP, hK, hD0⟩ := hv
  have hx := B.exec
  have hb := B.bytes
  have hr := B.returns
  have hts := fun (w : Cond) (h : w ∈ pv_W) => atoms_spec (ws := Cond.code yX13_init cX13_init 2 none :: pv_W) B.pre w (List.mem_cons_of_mem _ h)
  have hg := fun {w : Cond} (h : w ∈ lw_tbl) (g : goodWord w = true) => hts w (pv_in h g)
  have hown : s.vm.findClass RX13 = some m.cls := findClass_of_methodNamed B.named
  have hlocks := B.notSynchronized
  have hin : meth.name = "<init>" := (name_of_methodNamed B.named B.method).1
  subst hsz
  have hD := hD0.self (sz := s.heap.size)
  generalize hAe : va_A [(h0, .inr (1, [.int 0, .int 0, .int 0, .null, .null, .int 0, .int 0, .null, .null, .null, .int 0, .null, .null, .null, .null, .int 0, .null, .null, .int 0, .int 0, .null, .null, .null, .null, .null, .null, .null, .int 0, .int 0, .int 0, .int 0, .null, .null, .null, .null, .null, .null, .int 0, .null, .null, .null, .null, .int 0, .null, .null]))] s.heap.size = A at hD hE ⊢
  have hA : ∀ q : Nat, s.heap.size ≤ q → A q := fun q h => by rw [← hAe]; exact Or.inr h
  have hS : va_S A s.heap s.heap [] := va_S.rf
  have hP : va_P D pv_cl [(h0, .inr (1, [.int 0, .int 0, .int 0, .null, .null, .int 0, .int 0, .null, .null, .null, .int 0, .null, .null, .null, .null, .int 0, .null, .null, .int 0, .int 0, .null, .null, .null, .null, .null, .null, .null, .int 0, .int 0, .int 0, .int 0, .null, .null, .null, .null, .null, .null, .int 0, .null, .null, .null, .null, .int 0, .null, .null]))] s.heap := hP
  have hl := lv_entry ([.ref h0]) (n := 2) (Nat.le_of_ble_eq_true rfl)
  rw [lg_entry_eq]
  generalize (lg_sl ([.ref h0]) ++ List.replicate (2 - (lg_sl ([.ref h0])).length) Slot.unset).toArray = ls at hl ⊢
  have hl : lv_has ls 2 [(0, .ref h0)] := hl
  refine lv_aload_n hx hb dX13_init_0 rfl (lv_at hl 0 rfl) ?_
  refine W.objInit (own := RX13) hx hb hown (hg w8_197 rfl) (hg w1_36 rfl) (hg w1_37 rfl) rfl (hl.1.trans hml.symm) (rest := []) rfl dX13_init_1 (Nat.le_of_ble_eq_true rfl) (Nat.le_of_ble_eq_true rfl) ?_
  refine lv_aload_n hx hb dX13_init_4 rfl (lv_at hl 0 rfl) ?_
  refine lv_bipush (v := 108) hx hb dX13_init_5 (by decide) ?_
  refine va_put (own := RX13) (D := D) (ci := 1) (v := .int 108) (ty := .char) (C := RX13) (T := TX13) (N := 45) hx hb hts inF13 tyX13 tyX13_ok nmX13 hown hK hP hD hS 0 rfl rfl 1 (by decide) (hg w8_206 rfl) (fun _ h9 => h9) rfl (by decide +kernel) rfl rfl (Nat.le_of_ble_eq_true rfl) dX13_init_7 (fun H locs hP hD hS => ?_)
  have hP : va_P D pv_cl [(h0, .inr (1, [.int 0, .int 108, .int 0, .null, .null, .int 0, .int 0, .null, .null, .null, .int 0, .null, .null, .null, .null, .int 0, .null, .null, .int 0, .int 0, .null, .null, .null, .null, .null, .null, .null, .int 0, .int 0, .int 0, .int 0, .null, .null, .null, .null, .null, .null, .int 0, .null, .null, .null, .null, .int 0, .null, .null]))] _ := hP
  have hD : va_D A [(h0, .inr (1, [.int 0, .int 108, .int 0, .null, .null, .int 0, .int 0, .null, .null, .null, .int 0, .null, .null, .null, .null, .int 0, .null, .null, .int 0, .int 0, .null, .null, .null, .null, .null, .null, .null, .int 0, .int 0, .int 0, .int 0, .null, .null, .null, .null, .null, .null, .int 0, .null, .null, .null, .null, .int 0, .null, .null]))] := hD
  refine lv_aload_n hx hb dX13_init_10 rfl (lv_at hl 0 rfl) ?_
  refine lv_bipush (v := 60) hx hb dX13_init_11 (by decide) ?_
  refine va_newa (atype := .int) hx hb (hg w1_74 rfl) (ty := .int) rfl hK hP hD hS hA (a0 := (60, .inl (fun _ => 0))) (fun _ => rfl) (by decide) (by decide +kernel) (Nat.le_of_ble_eq_true rfl) (Nat.le_of_ble_eq_true rfl) (Nat.le_of_ble_eq_true rfl) dX13_init_13 (fun q_1 cA_2 H hK hP hD hS => ?_)
  have hP : va_P D pv_cl [(h0, .inr (1, [.int 0, .int 108, .int 0, .null, .null, .int 0, .int 0, .null, .null, .null, .int 0, .null, .null, .null, .null, .int 0, .null, .null, .int 0, .int 0, .null, .null, .null, .null, .null, .null, .null, .int 0, .int 0, .int 0, .int 0, .null, .null, .null, .null, .null, .null, .int 0, .null, .null, .null, .null, .int 0, .null, .null])), (q_1, .inl (cA_2, 60, .inl (fun _ => 0)))] _ := hP
  have hD : va_D A [(h0, .inr (1, [.int 0, .int 108, .int 0, .null, .null, .int 0, .int 0, .null, .null, .null, .int 0, .null, .null, .null, .null, .int 0, .null, .null, .int 0, .int 0, .null, .null, .null, .null, .null, .null, .null, .int 0, .int 0, .int 0, .int 0, .null, .null, .null, .null, .null, .null, .int 0, .null, .null, .null, .null, .int 0, .null, .null])), (q_1, .inl (cA_2, 60, .inl (fun _ => 0)))] := hD
  have hK : va_K D pv_cl [(cA_2, .int)] s := hK
  refine W.widen (k := 1) (n := 60) (Nat.le_of_ble_eq_true rfl) (Nat.le_of_ble_eq_true rfl) ?_
  refine va_putF (own := RX13) (D := D) (ci := 1) (v := .ref q_1) (ty := .array .int) (C := RX13) (T := TX13) (N := 45) hx hb hts inF13 tyX13 tyX13_ok nmX13 hown hK hP hD hS 0 rfl rfl 3 (by decide) (hg w8_208 rfl) (fun _ h9 => h9) rfl hin rfl (by decide +kernel) rfl rfl (Nat.le_of_ble_eq_true rfl) dX13_init_15 (fun H locs hP hD hS => ?_)
  have hP : va_P D pv_cl [(h0, .inr (1, [.int 0, .int 108, .int 0, .ref q_1, .null, .int 0, .int 0, .null, .null, .null, .int 0, .null, .null, .null, .null, .int 0, .null, .null, .int 0, .int 0, .null, .null, .null, .null, .null, .null, .null, .int 0, .int 0, .int 0, .int 0, .null, .null, .null, .null, .null, .null, .int 0, .null, .null, .null, .null, .int 0, .null, .null])), (q_1, .inl (cA_2, 60, .inl (fun _ => 0)))] _ := hP
  have hD : va_D A [(h0, .inr (1, [.int 0, .int 108, .int 0, .ref q_1, .null, .int 0, .int 0, .null, .null, .null, .int 0, .null, .null, .null, .null, .int 0, .null, .null, .int 0, .int 0, .null, .null, .null, .null, .null, .null, .null, .int 0, .int 0, .int 0, .int 0, .null, .null, .null, .null, .null, .null, .int 0, .null, .null, .null, .null, .int 0, .null, .null])), (q_1, .inl (cA_2, 60, .inl (fun _ => 0)))] := hD
  refine lv_aload_n hx hb dX13_init_18 rfl (lv_at hl 0 rfl) ?_
  refine lv_bipush (v := 60) hx hb dX13_init_19 (by decide) ?_
  refine pv_pc 21 rfl ?_
  refine va_newq (own := RX13) (C := "PolyforgeModel$Terms") (N' := 60) hx hb hown (hg w8_198 rfl) (pv_ao (C := "PolyforgeModel$Terms") hE (by simp [pv_ot])) hK hP hD hS hA (by decide) (by decide +kernel) (Nat.le_of_ble_eq_true rfl) (Nat.le_of_ble_eq_true rfl) (Nat.le_of_ble_eq_true rfl) dX13_init_21 (fun q_3 cA_4 H hK hP hD hS => ?_)
  have hP : va_P D pv_cl [(h0, .inr (1, [.int 0, .int 108, .int 0, .ref q_1, .null, .int 0, .int 0, .null, .null, .null, .int 0, .null, .null, .null, .null, .int 0, .null, .null, .int 0, .int 0, .null, .null, .null, .null, .null, .null, .null, .int 0, .int 0, .int 0, .int 0, .null, .null, .null, .null, .null, .null, .int 0, .null, .null, .null, .null, .int 0, .null, .null])), (q_1, .inl (cA_2, 60, .inl (fun _ => 0))), (q_3, .inl (cA_4, 60, .inr (.inr (.inr (.inr (fun _ => none))))))] _ := hP
  have hD : va_D A [(h0, .inr (1, [.int 0, .int 108, .int 0, .ref q_1, .null, .int 0, .int 0, .null, .null, .null, .int 0, .null, .null, .null, .null, .int 0, .null, .null, .int 0, .int 0, .null, .null, .null, .null, .null, .null, .null, .int 0, .int 0, .int 0, .int 0, .null, .null, .null, .null, .null, .null, .int 0, .null, .null, .null, .null, .int 0, .null, .null])), (q_1, .inl (cA_2, 60, .inl (fun _ => 0))), (q_3, .inl (cA_4, 60, .inr (.inr (.inr (.inr (fun _ => none))))))] := hD
  have hK : va_K D pv_cl [(cA_2, .int), (cA_4, .object "PolyforgeModel$Terms")] s := hK
  refine W.widen (k := 2) (n := 120) (Nat.le_of_ble_eq_true rfl) (Nat.le_of_ble_eq_true rfl) ?_
  refine va_putF (own := RX13) (D := D) (ci := 1) (v := .ref q_3) (ty := .array (.object "PolyforgeModel$Terms")) (C := RX13) (T := TX13) (N := 45) hx hb hts inF13 tyX13 tyX13_ok nmX13 hown hK hP hD hS 0 rfl rfl 4 (by decide) (hg w8_209 rfl) (fun _ h9 => h9) rfl hin rfl (by decide +kernel) rfl rfl (Nat.le_of_ble_eq_true rfl) dX13_init_24 (fun H locs hP hD hS => ?_)
  have hP : va_P D pv_cl [(h0, .inr (1, [.int 0, .int 108, .int 0, .ref q_1, .ref q_3, .int 0, .int 0, .null, .null, .null, .int 0, .null, .null, .null, .null, .int 0, .null, .null, .int 0, .int 0, .null, .null, .null, .null, .null, .null, .null, .int 0, .int 0, .int 0, .int 0, .null, .null, .null, .null, .null, .null, .int 0, .null, .null, .null, .null, .int 0, .null, .null])), (q_1, .inl (cA_2, 60, .inl (fun _ => 0))), (q_3, .inl (cA_4, 60, .inr (.inr (.inr (.inr (fun _ => none))))))] _ := hP
  have hD : va_D A [(h0, .inr (1, [.int 0, .int 108, .int 0, .ref q_1, .ref q_3, .int 0, .int 0, .null, .null, .null, .int 0, .null, .null, .null, .null, .int 0, .null, .null, .int 0, .int 0, .null, .null, .null, .null, .null, .null, .null, .int 0, .int 0, .int 0, .int 0, .null, .null, .null, .null, .null, .null, .int 0, .null, .null, .null, .null, .int 0, .null, .null])), (q_1, .inl (cA_2, 60, .inl (fun _ => 0))), (q_3, .inl (cA_4, 60, .inr (.inr (.inr (.inr (fun _ => none))))))] := hD
  refine lv_aload_n hx hb dX13_init_27 rfl (lv_at hl 0 rfl) ?_
  refine lv_iconst (v := 5) hx hb dX13_init_28 (by decide) ?_
  refine va_newa (atype := .int) hx hb (hg w1_74 rfl) (ty := .int) rfl hK hP hD hS hA (a0 := (5, .inl (fun _ => 0))) (fun _ => rfl) (by decide) (by decide +kernel) (Nat.le_of_ble_eq_true rfl) (Nat.le_of_ble_eq_true rfl) (Nat.le_of_ble_eq_true rfl) dX13_init_29 (fun q_5 cA_6 H hK hP hD hS => ?_)
  have hP : va_P D pv_cl [(h0, .inr (1, [.int 0, .int 108, .int 0, .ref q_1, .ref q_3, .int 0, .int 0, .null, .null, .null, .int 0, .null, .null, .null, .null, .int 0, .null, .null, .int 0, .int 0, .null, .null, .null, .null, .null, .null, .null, .int 0, .int 0, .int 0, .int 0, .null, .null, .null, .null, .null, .null, .int 0, .null, .null, .null, .null, .int 0, .null, .null])), (q_1, .inl (cA_2, 60, .inl (fun _ => 0))), (q_3, .inl (cA_4, 60, .inr (.inr (.inr (.inr (fun _ => none)))))), (q_5, .inl (cA_6, 5, .inl (fun _ => 0)))] _ := hP
  have hD : va_D A [(h0, .inr (1, [.int 0, .int 108, .int 0, .ref q_1, .ref q_3, .int 0, .int 0, .null, .null, .null, .int 0, .null, .null, .null, .null, .int 0, .null, .null, .int 0, .int 0, .null, .null, .null, .null, .null, .null, .null, .int 0, .int 0, .int 0, .int 0, .null, .null, .null, .null, .null, .null, .int 0, .null, .null, .null, .null, .int 0, .null, .null])), (q_1, .inl (cA_2, 60, .inl (fun _ => 0))), (q_3, .inl (cA_4, 60, .inr (.inr (.inr (.inr (fun _ => none)))))), (q_5, .inl (cA_6, 5, .inl (fun _ => 0)))] := hD
  have hK : va_K D pv_cl [(cA_2, .int), (cA_4, .object "PolyforgeModel$Terms"), (cA_6, .int)] s := hK
  refine W.widen (k := 3) (n := 125) (Nat.le_of_ble_eq_true rfl) (Nat.le_of_ble_eq_true rfl) ?_
  refine va_putF (own := RX13) (D := D) (ci := 1) (v := .ref q_5) (ty := .array .int) (C := RX13) (T := TX13) (N := 45) hx hb hts inF13 tyX13 tyX13_ok nmX13 hown hK hP hD hS 0 rfl rfl 7 (by decide) (hg w8_212 rfl) (fun _ h9 => h9) rfl hin rfl (by decide +kernel) rfl rfl (Nat.le_of_ble_eq_true rfl) dX13_init_31 (fun H locs hP hD hS => ?_)
  have hP : va_P D pv_cl [(h0, .inr (1, [.int 0, .int 108, .int 0, .ref q_1, .ref q_3, .int 0, .int 0, .ref q_5, .null, .null, .int 0, .null, .null, .null, .null, .int 0, .null, .null, .int 0, .int 0, .null, .null, .null, .null, .null, .null, .null, .int 0, .int 0, .int 0, .int 0, .null, .null, .null, .null, .null, .null, .int 0, .null, .null, .null, .null, .int 0, .null, .null])), (q_1, .inl (cA_2, 60, .inl (fun _ => 0))), (q_3, .inl (cA_4, 60, .inr (.inr (.inr (.inr (fun _ => none)))))), (q_5, .inl (cA_6, 5, .inl (fun _ => 0)))] _ := hP
  have hD : va_D A [(h0, .inr (1, [.int 0, .int 108, .int 0, .ref q_1, .ref q_3, .int 0, .int 0, .ref q_5, .null, .null, .int 0, .null, .null, .null, .null, .int 0, .null, .null, .int 0, .int 0, .null, .null, .null, .null, .null, .null, .null, .int 0, .int 0, .int 0, .int 0, .null, .null, .null, .null, .null, .null, .int 0, .null, .null, .null, .null, .int 0, .null, .null])), (q_1, .inl (cA_2, 60, .inl (fun _ => 0))), (q_3, .inl (cA_4, 60, .inr (.inr (.inr (.inr (fun _ => none)))))), (q_5, .inl (cA_6, 5, .inl (fun _ => 0)))] := hD
  refine lv_aload_n hx hb dX13_init_34 rfl (lv_at hl 0 rfl) ?_
  refine lv_iconst (v := 5) hx hb dX13_init_35 (by decide) ?_
  refine va_newa (atype := .int) hx hb (hg w1_74 rfl) (ty := .int) rfl hK hP hD hS hA (a0 := (5, .inl (fun _ => 0))) (fun _ => rfl) (by decide) (by decide +kernel) (Nat.le_of_ble_eq_true rfl) (Nat.le_of_ble_eq_true rfl) (Nat.le_of_ble_eq_true rfl) dX13_init_36 (fun q_7 cA_8 H hK hP hD hS => ?_)
  have hP : va_P D pv_cl [(h0, .inr (1, [.int 0, .int 108, .int 0, .ref q_1, .ref q_3, .int 0, .int 0, .ref q_5, .null, .null, .int 0, .null, .null, .null, .null, .int 0, .null, .null, .int 0, .int 0, .null, .null, .null, .null, .null, .null, .null, .int 0, .int 0, .int 0, .int 0, .null, .null, .null, .null, .null, .null, .int 0, .null, .null, .null, .null, .int 0, .null, .null])), (q_1, .inl (cA_2, 60, .inl (fun _ => 0))), (q_3, .inl (cA_4, 60, .inr (.inr (.inr (.inr (fun _ => none)))))), (q_5, .inl (cA_6, 5, .inl (fun _ => 0))), (q_7, .inl (cA_8, 5, .inl (fun _ => 0)))] _ := hP
  have hD : va_D A [(h0, .inr (1, [.int 0, .int 108, .int 0, .ref q_1, .ref q_3, .int 0, .int 0, .ref q_5, .null, .null, .int 0, .null, .null, .null, .null, .int 0, .null, .null, .int 0, .int 0, .null, .null, .null, .null, .null, .null, .null, .int 0, .int 0, .int 0, .int 0, .null, .null, .null, .null, .null, .null, .int 0, .null, .null, .null, .null, .int 0, .null, .null])), (q_1, .inl (cA_2, 60, .inl (fun _ => 0))), (q_3, .inl (cA_4, 60, .inr (.inr (.inr (.inr (fun _ => none)))))), (q_5, .inl (cA_6, 5, .inl (fun _ => 0))), (q_7, .inl (cA_8, 5, .inl (fun _ => 0)))] := hD
  have hK : va_K D pv_cl [(cA_2, .int), (cA_4, .object "PolyforgeModel$Terms"), (cA_6, .int), (cA_8, .int)] s := hK
  refine W.widen (k := 4) (n := 130) (Nat.le_of_ble_eq_true rfl) (Nat.le_of_ble_eq_true rfl) ?_
  refine va_putF (own := RX13) (D := D) (ci := 1) (v := .ref q_7) (ty := .array .int) (C := RX13) (T := TX13) (N := 45) hx hb hts inF13 tyX13 tyX13_ok nmX13 hown hK hP hD hS 0 rfl rfl 8 (by decide) (hg w8_213 rfl) (fun _ h9 => h9) rfl hin rfl (by decide +kernel) rfl rfl (Nat.le_of_ble_eq_true rfl) dX13_init_38 (fun H locs hP hD hS => ?_)
  have hP : va_P D pv_cl [(h0, .inr (1, [.int 0, .int 108, .int 0, .ref q_1, .ref q_3, .int 0, .int 0, .ref q_5, .ref q_7, .null, .int 0, .null, .null, .null, .null, .int 0, .null, .null, .int 0, .int 0, .null, .null, .null, .null, .null, .null, .null, .int 0, .int 0, .int 0, .int 0, .null, .null, .null, .null, .null, .null, .int 0, .null, .null, .null, .null, .int 0, .null, .null])), (q_1, .inl (cA_2, 60, .inl (fun _ => 0))), (q_3, .inl (cA_4, 60, .inr (.inr (.inr (.inr (fun _ => none)))))), (q_5, .inl (cA_6, 5, .inl (fun _ => 0))), (q_7, .inl (cA_8, 5, .inl (fun _ => 0)))] _ := hP
  have hD : va_D A [(h0, .inr (1, [.int 0, .int 108, .int 0, .ref q_1, .ref q_3, .int 0, .int 0, .ref q_5, .ref q_7, .null, .int 0, .null, .null, .null, .null, .int 0, .null, .null, .int 0, .int 0, .null, .null, .null, .null, .null, .null, .null, .int 0, .int 0, .int 0, .int 0, .null, .null, .null, .null, .null, .null, .int 0, .null, .null, .null, .null, .int 0, .null, .null])), (q_1, .inl (cA_2, 60, .inl (fun _ => 0))), (q_3, .inl (cA_4, 60, .inr (.inr (.inr (.inr (fun _ => none)))))), (q_5, .inl (cA_6, 5, .inl (fun _ => 0))), (q_7, .inl (cA_8, 5, .inl (fun _ => 0)))] := hD
  have hP : va_P D pv_cl [(h0, .inr (1, [.int 0, .int 108, .int 0, .ref q_1, .ref q_3, .int 0, .int 0, .ref q_5, .ref q_7, .null, .int 0, .null, .null, .null, .null, .int 0, .null, .null, .int 0, .int 0, .null, .null, .null, .null, .null, .null, .null, .int 0, .int 0, .int 0, .int 0, .null, .null, .null, .null, .null, .null, .int 0, .null, .null, .null, .null, .int 0, .null, .null])), (q_1, .inl (cA_2, 60, .inl (fun _ => 0))), (q_3, .inl (cA_4, 60, .inr (.inr (.inr (.inr (fun _ => none)))))), (q_5, .inl (cA_6, 5, .inl (fun _ => 0)))] _ := hP.sub [0, 1, 2, 3] rfl
  have hD : va_D A [(h0, .inr (1, [.int 0, .int 108, .int 0, .ref q_1, .ref q_3, .int 0, .int 0, .ref q_5, .ref q_7, .null, .int 0, .null, .null, .null, .null, .int 0, .null, .null, .int 0, .int 0, .null, .null, .null, .null, .null, .null, .null, .int 0, .int 0, .int 0, .int 0, .null, .null, .null, .null, .null, .null, .int 0, .null, .null, .null, .null, .int 0, .null, .null])), (q_1, .inl (cA_2, 60, .inl (fun _ => 0))), (q_3, .inl (cA_4, 60, .inr (.inr (.inr (.inr (fun _ => none)))))), (q_5, .inl (cA_6, 5, .inl (fun _ => 0)))] := hD.sub [0, 1, 2, 3] (by decide) rfl
  have hK : va_K D pv_cl [(cA_2, .int), (cA_4, .object "PolyforgeModel$Terms"), (cA_6, .int)] s := hK.sub [0, 1, 2] rfl
  refine lv_aload_n hx hb dX13_init_41 rfl (lv_at hl 0 rfl) ?_
  refine lv_bipush (v := 15) hx hb dX13_init_42 (by decide) ?_
  refine pv_pc 44 rfl ?_
  refine va_newa (atype := .int) hx hb (hg w1_74 rfl) (ty := .int) rfl hK hP hD hS hA (a0 := (15, .inl (fun _ => 0))) (fun _ => rfl) (by decide) (by decide +kernel) (Nat.le_of_ble_eq_true rfl) (Nat.le_of_ble_eq_true rfl) (Nat.le_of_ble_eq_true rfl) dX13_init_44 (fun q_9 cA_10 H hK hP hD hS => ?_)
  have hP : va_P D pv_cl [(h0, .inr (1, [.int 0, .int 108, .int 0, .ref q_1, .ref q_3, .int 0, .int 0, .ref q_5, .ref q_7, .null, .int 0, .null, .null, .null, .null, .int 0, .null, .null, .int 0, .int 0, .null, .null, .null, .null, .null, .null, .null, .int 0, .int 0, .int 0, .int 0, .null, .null, .null, .null, .null, .null, .int 0, .null, .null, .null, .null, .int 0, .null, .null])), (q_1, .inl (cA_2, 60, .inl (fun _ => 0))), (q_3, .inl (cA_4, 60, .inr (.inr (.inr (.inr (fun _ => none)))))), (q_5, .inl (cA_6, 5, .inl (fun _ => 0))), (q_9, .inl (cA_10, 15, .inl (fun _ => 0)))] _ := hP
  have hD : va_D A [(h0, .inr (1, [.int 0, .int 108, .int 0, .ref q_1, .ref q_3, .int 0, .int 0, .ref q_5, .ref q_7, .null, .int 0, .null, .null, .null, .null, .int 0, .null, .null, .int 0, .int 0, .null, .null, .null, .null, .null, .null, .null, .int 0, .int 0, .int 0, .int 0, .null, .null, .null, .null, .null, .null, .int 0, .null, .null, .null, .null, .int 0, .null, .null])), (q_1, .inl (cA_2, 60, .inl (fun _ => 0))), (q_3, .inl (cA_4, 60, .inr (.inr (.inr (.inr (fun _ => none)))))), (q_5, .inl (cA_6, 5, .inl (fun _ => 0))), (q_9, .inl (cA_10, 15, .inl (fun _ => 0)))] := hD
  have hK : va_K D pv_cl [(cA_2, .int), (cA_4, .object "PolyforgeModel$Terms"), (cA_6, .int), (cA_10, .int)] s := hK
  refine W.widen (k := 5) (n := 145) (Nat.le_of_ble_eq_true rfl) (Nat.le_of_ble_eq_true rfl) ?_
  refine va_putF (own := RX13) (D := D) (ci := 1) (v := .ref q_9) (ty := .array .int) (C := RX13) (T := TX13) (N := 45) hx hb hts inF13 tyX13 tyX13_ok nmX13 hown hK hP hD hS 0 rfl rfl 9 (by decide) (hg w8_214 rfl) (fun _ h9 => h9) rfl hin rfl (by decide +kernel) rfl rfl (Nat.le_of_ble_eq_true rfl) dX13_init_46 (fun H locs hP hD hS => ?_)
  have hP : va_P D pv_cl [(h0, .inr (1, [.int 0, .int 108, .int 0, .ref q_1, .ref q_3, .int 0, .int 0, .ref q_5, .ref q_7, .ref q_9, .int 0, .null, .null, .null, .null, .int 0, .null, .null, .int 0, .int 0, .null, .null, .null, .null, .null, .null, .null, .int 0, .int 0, .int 0, .int 0, .null, .null, .null, .null, .null, .null, .int 0, .null, .null, .null, .null, .int 0, .null, .null])), (q_1, .inl (cA_2, 60, .inl (fun _ => 0))), (q_3, .inl (cA_4, 60, .inr (.inr (.inr (.inr (fun _ => none)))))), (q_5, .inl (cA_6, 5, .inl (fun _ => 0))), (q_9, .inl (cA_10, 15, .inl (fun _ => 0)))] _ := hP
  have hD : va_D A [(h0, .inr (1, [.int 0, .int 108, .int 0, .ref q_1, .ref q_3, .int 0, .int 0, .ref q_5, .ref q_7, .ref q_9, .int 0, .null, .null, .null, .null, .int 0, .null, .null, .int 0, .int 0, .null, .null, .null, .null, .null, .null, .null, .int 0, .int 0, .int 0, .int 0, .null, .null, .null, .null, .null, .null, .int 0, .null, .null, .null, .null, .int 0, .null, .null])), (q_1, .inl (cA_2, 60, .inl (fun _ => 0))), (q_3, .inl (cA_4, 60, .inr (.inr (.inr (.inr (fun _ => none)))))), (q_5, .inl (cA_6, 5, .inl (fun _ => 0))), (q_9, .inl (cA_10, 15, .inl (fun _ => 0)))] := hD
  have hP : va_P D pv_cl [(h0, .inr (1, [.int 0, .int 108, .int 0, .ref q_1, .ref q_3, .int 0, .int 0, .ref q_5, .ref q_7, .ref q_9, .int 0, .null, .null, .null, .null, .int 0, .null, .null, .int 0, .int 0, .null, .null, .null, .null, .null, .null, .null, .int 0, .int 0, .int 0, .int 0, .null, .null, .null, .null, .null, .null, .int 0, .null, .null, .null, .null, .int 0, .null, .null])), (q_1, .inl (cA_2, 60, .inl (fun _ => 0))), (q_3, .inl (cA_4, 60, .inr (.inr (.inr (.inr (fun _ => none)))))), (q_5, .inl (cA_6, 5, .inl (fun _ => 0)))] _ := hP.sub [0, 1, 2, 3] rfl
  have hD : va_D A [(h0, .inr (1, [.int 0, .int 108, .int 0, .ref q_1, .ref q_3, .int 0, .int 0, .ref q_5, .ref q_7, .ref q_9, .int 0, .null, .null, .null, .null, .int 0, .null, .null, .int 0, .int 0, .null, .null, .null, .null, .null, .null, .null, .int 0, .int 0, .int 0, .int 0, .null, .null, .null, .null, .null, .null, .int 0, .null, .null, .null, .null, .int 0, .null, .null])), (q_1, .inl (cA_2, 60, .inl (fun _ => 0))), (q_3, .inl (cA_4, 60, .inr (.inr (.inr (.inr (fun _ => none)))))), (q_5, .inl (cA_6, 5, .inl (fun _ => 0)))] := hD.sub [0, 1, 2, 3] (by decide) rfl
  have hK : va_K D pv_cl [(cA_2, .int), (cA_4, .object "PolyforgeModel$Terms"), (cA_6, .int)] s := hK.sub [0, 1, 2] rfl
  refine lv_aload_n hx hb dX13_init_49 rfl (lv_at hl 0 rfl) ?_
  refine lv_bipush (v := 8) hx hb dX13_init_50 (by decide) ?_
  refine va_newa (atype := .int) hx hb (hg w1_74 rfl) (ty := .int) rfl hK hP hD hS hA (a0 := (8, .inl (fun _ => 0))) (fun _ => rfl) (by decide) (by decide +kernel) (Nat.le_of_ble_eq_true rfl) (Nat.le_of_ble_eq_true rfl) (Nat.le_of_ble_eq_true rfl) dX13_init_52 (fun q_11 cA_12 H hK hP hD hS => ?_)
  have hP : va_P D pv_cl [(h0, .inr (1, [.int 0, .int 108, .int 0, .ref q_1, .ref q_3, .int 0, .int 0, .ref q_5, .ref q_7, .ref q_9, .int 0, .null, .null, .null, .null, .int 0, .null, .null, .int 0, .int 0, .null, .null, .null, .null, .null, .null, .null, .int 0, .int 0, .int 0, .int 0, .null, .null, .null, .null, .null, .null, .int 0, .null, .null, .null, .null, .int 0, .null, .null])), (q_1, .inl (cA_2, 60, .inl (fun _ => 0))), (q_3, .inl (cA_4, 60, .inr (.inr (.inr (.inr (fun _ => none)))))), (q_5, .inl (cA_6, 5, .inl (fun _ => 0))), (q_11, .inl (cA_12, 8, .inl (fun _ => 0)))] _ := hP
  have hD : va_D A [(h0, .inr (1, [.int 0, .int 108, .int 0, .ref q_1, .ref q_3, .int 0, .int 0, .ref q_5, .ref q_7, .ref q_9, .int 0, .null, .null, .null, .null, .int 0, .null, .null, .int 0, .int 0, .null, .null, .null, .null, .null, .null, .null, .int 0, .int 0, .int 0, .int 0, .null, .null, .null, .null, .null, .null, .int 0, .null, .null, .null, .null, .int 0, .null, .null])), (q_1, .inl (cA_2, 60, .inl (fun _ => 0))), (q_3, .inl (cA_4, 60, .inr (.inr (.inr (.inr (fun _ => none)))))), (q_5, .inl (cA_6, 5, .inl (fun _ => 0))), (q_11, .inl (cA_12, 8, .inl (fun _ => 0)))] := hD
  have hK : va_K D pv_cl [(cA_2, .int), (cA_4, .object "PolyforgeModel$Terms"), (cA_6, .int), (cA_12, .int)] s := hK
  refine W.widen (k := 6) (n := 153) (Nat.le_of_ble_eq_true rfl) (Nat.le_of_ble_eq_true rfl) ?_
  refine va_putF (own := RX13) (D := D) (ci := 1) (v := .ref q_11) (ty := .array .int) (C := RX13) (T := TX13) (N := 45) hx hb hts inF13 tyX13 tyX13_ok nmX13 hown hK hP hD hS 0 rfl rfl 11 (by decide) (hg w8_216 rfl) (fun _ h9 => h9) rfl hin rfl (by decide +kernel) rfl rfl (Nat.le_of_ble_eq_true rfl) dX13_init_54 (fun H locs hP hD hS => ?_)
  have hP : va_P D pv_cl [(h0, .inr (1, [.int 0, .int 108, .int 0, .ref q_1, .ref q_3, .int 0, .int 0, .ref q_5, .ref q_7, .ref q_9, .int 0, .ref q_11, .null, .null, .null, .int 0, .null, .null, .int 0, .int 0, .null, .null, .null, .null, .null, .null, .null, .int 0, .int 0, .int 0, .int 0, .null, .null, .null, .null, .null, .null, .int 0, .null, .null, .null, .null, .int 0, .null, .null])), (q_1, .inl (cA_2, 60, .inl (fun _ => 0))), (q_3, .inl (cA_4, 60, .inr (.inr (.inr (.inr (fun _ => none)))))), (q_5, .inl (cA_6, 5, .inl (fun _ => 0))), (q_11, .inl (cA_12, 8, .inl (fun _ => 0)))] _ := hP
  have hD : va_D A [(h0, .inr (1, [.int 0, .int 108, .int 0, .ref q_1, .ref q_3, .int 0, .int 0, .ref q_5, .ref q_7, .ref q_9, .int 0, .ref q_11, .null, .null, .null, .int 0, .null, .null, .int 0, .int 0, .null, .null, .null, .null, .null, .null, .null, .int 0, .int 0, .int 0, .int 0, .null, .null, .null, .null, .null, .null, .int 0, .null, .null, .null, .null, .int 0, .null, .null])), (q_1, .inl (cA_2, 60, .inl (fun _ => 0))), (q_3, .inl (cA_4, 60, .inr (.inr (.inr (.inr (fun _ => none)))))), (q_5, .inl (cA_6, 5, .inl (fun _ => 0))), (q_11, .inl (cA_12, 8, .inl (fun _ => 0)))] := hD
  have hP : va_P D pv_cl [(h0, .inr (1, [.int 0, .int 108, .int 0, .ref q_1, .ref q_3, .int 0, .int 0, .ref q_5, .ref q_7, .ref q_9, .int 0, .ref q_11, .null, .null, .null, .int 0, .null, .null, .int 0, .int 0, .null, .null, .null, .null, .null, .null, .null, .int 0, .int 0, .int 0, .int 0, .null, .null, .null, .null, .null, .null, .int 0, .null, .null, .null, .null, .int 0, .null, .null])), (q_1, .inl (cA_2, 60, .inl (fun _ => 0))), (q_3, .inl (cA_4, 60, .inr (.inr (.inr (.inr (fun _ => none)))))), (q_5, .inl (cA_6, 5, .inl (fun _ => 0)))] _ := hP.sub [0, 1, 2, 3] rfl
  have hD : va_D A [(h0, .inr (1, [.int 0, .int 108, .int 0, .ref q_1, .ref q_3, .int 0, .int 0, .ref q_5, .ref q_7, .ref q_9, .int 0, .ref q_11, .null, .null, .null, .int 0, .null, .null, .int 0, .int 0, .null, .null, .null, .null, .null, .null, .null, .int 0, .int 0, .int 0, .int 0, .null, .null, .null, .null, .null, .null, .int 0, .null, .null, .null, .null, .int 0, .null, .null])), (q_1, .inl (cA_2, 60, .inl (fun _ => 0))), (q_3, .inl (cA_4, 60, .inr (.inr (.inr (.inr (fun _ => none)))))), (q_5, .inl (cA_6, 5, .inl (fun _ => 0)))] := hD.sub [0, 1, 2, 3] (by decide) rfl
  have hK : va_K D pv_cl [(cA_2, .int), (cA_4, .object "PolyforgeModel$Terms"), (cA_6, .int)] s := hK.sub [0, 1, 2] rfl
  refine lv_aload_n hx hb dX13_init_57 rfl (lv_at hl 0 rfl) ?_
  refine lv_bipush (v := 8) hx hb dX13_init_58 (by decide) ?_
  refine va_newa (atype := .int) hx hb (hg w1_74 rfl) (ty := .int) rfl hK hP hD hS hA (a0 := (8, .inl (fun _ => 0))) (fun _ => rfl) (by decide) (by decide +kernel) (Nat.le_of_ble_eq_true rfl) (Nat.le_of_ble_eq_true rfl) (Nat.le_of_ble_eq_true rfl) dX13_init_60 (fun q_13 cA_14 H hK hP hD hS => ?_)
  have hP : va_P D pv_cl [(h0, .inr (1, [.int 0, .int 108, .int 0, .ref q_1, .ref q_3, .int 0, .int 0, .ref q_5, .ref q_7, .ref q_9, .int 0, .ref q_11, .null, .null, .null, .int 0, .null, .null, .int 0, .int 0, .null, .null, .null, .null, .null, .null, .null, .int 0, .int 0, .int 0, .int 0, .null, .null, .null, .null, .null, .null, .int 0, .null, .null, .null, .null, .int 0, .null, .null])), (q_1, .inl (cA_2, 60, .inl (fun _ => 0))), (q_3, .inl (cA_4, 60, .inr (.inr (.inr (.inr (fun _ => none)))))), (q_5, .inl (cA_6, 5, .inl (fun _ => 0))), (q_13, .inl (cA_14, 8, .inl (fun _ => 0)))] _ := hP
  have hD : va_D A [(h0, .inr (1, [.int 0, .int 108, .int 0, .ref q_1, .ref q_3, .int 0, .int 0, .ref q_5, .ref q_7, .ref q_9, .int 0, .ref q_11, .null, .null, .null, .int 0, .null, .null, .int 0, .int 0, .null, .null, .null, .null, .null, .null, .null, .int 0, .int 0, .int 0, .int 0, .null, .null, .null, .null, .null, .null, .int 0, .null, .null, .null, .null, .int 0, .null, .null])), (q_1, .inl (cA_2, 60, .inl (fun _ => 0))), (q_3, .inl (cA_4, 60, .inr (.inr (.inr (.inr (fun _ => none)))))), (q_5, .inl (cA_6, 5, .inl (fun _ => 0))), (q_13, .inl (cA_14, 8, .inl (fun _ => 0)))] := hD
  have hK : va_K D pv_cl [(cA_2, .int), (cA_4, .object "PolyforgeModel$Terms"), (cA_6, .int), (cA_14, .int)] s := hK
  refine W.widen (k := 7) (n := 161) (Nat.le_of_ble_eq_true rfl) (Nat.le_of_ble_eq_true rfl) ?_
  refine va_putF (own := RX13) (D := D) (ci := 1) (v := .ref q_13) (ty := .array .int) (C := RX13) (T := TX13) (N := 45) hx hb hts inF13 tyX13 tyX13_ok nmX13 hown hK hP hD hS 0 rfl rfl 12 (by decide) (hg w8_217 rfl) (fun _ h9 => h9) rfl hin rfl (by decide +kernel) rfl rfl (Nat.le_of_ble_eq_true rfl) dX13_init_62 (fun H locs hP hD hS => ?_)
  have hP : va_P D pv_cl [(h0, .inr (1, [.int 0, .int 108, .int 0, .ref q_1, .ref q_3, .int 0, .int 0, .ref q_5, .ref q_7, .ref q_9, .int 0, .ref q_11, .ref q_13, .null, .null, .int 0, .null, .null, .int 0, .int 0, .null, .null, .null, .null, .null, .null, .null, .int 0, .int 0, .int 0, .int 0, .null, .null, .null, .null, .null, .null, .int 0, .null, .null, .null, .null, .int 0, .null, .null])), (q_1, .inl (cA_2, 60, .inl (fun _ => 0))), (q_3, .inl (cA_4, 60, .inr (.inr (.inr (.inr (fun _ => none)))))), (q_5, .inl (cA_6, 5, .inl (fun _ => 0))), (q_13, .inl (cA_14, 8, .inl (fun _ => 0)))] _ := hP
  have hD : va_D A [(h0, .inr (1, [.int 0, .int 108, .int 0, .ref q_1, .ref q_3, .int 0, .int 0, .ref q_5, .ref q_7, .ref q_9, .int 0, .ref q_11, .ref q_13, .null, .null, .int 0, .null, .null, .int 0, .int 0, .null, .null, .null, .null, .null, .null, .null, .int 0, .int 0, .int 0, .int 0, .null, .null, .null, .null, .null, .null, .int 0, .null, .null, .null, .null, .int 0, .null, .null])), (q_1, .inl (cA_2, 60, .inl (fun _ => 0))), (q_3, .inl (cA_4, 60, .inr (.inr (.inr (.inr (fun _ => none)))))), (q_5, .inl (cA_6, 5, .inl (fun _ => 0))), (q_13, .inl (cA_14, 8, .inl (fun _ => 0)))] := hD
  have hP : va_P D pv_cl [(h0, .inr (1, [.int 0, .int 108, .int 0, .ref q_1, .ref q_3, .int 0, .int 0, .ref q_5, .ref q_7, .ref q_9, .int 0, .ref q_11, .ref q_13, .null, .null, .int 0, .null, .null, .int 0, .int 0, .null, .null, .null, .null, .null, .null, .null, .int 0, .int 0, .int 0, .int 0, .null, .null, .null, .null, .null, .null, .int 0, .null, .null, .null, .null, .int 0, .null, .null])), (q_1, .inl (cA_2, 60, .inl (fun _ => 0))), (q_3, .inl (cA_4, 60, .inr (.inr (.inr (.inr (fun _ => none)))))), (q_5, .inl (cA_6, 5, .inl (fun _ => 0)))] _ := hP.sub [0, 1, 2, 3] rfl
  have hD : va_D A [(h0, .inr (1, [.int 0, .int 108, .int 0, .ref q_1, .ref q_3, .int 0, .int 0, .ref q_5, .ref q_7, .ref q_9, .int 0, .ref q_11, .ref q_13, .null, .null, .int 0, .null, .null, .int 0, .int 0, .null, .null, .null, .null, .null, .null, .null, .int 0, .int 0, .int 0, .int 0, .null, .null, .null, .null, .null, .null, .int 0, .null, .null, .null, .null, .int 0, .null, .null])), (q_1, .inl (cA_2, 60, .inl (fun _ => 0))), (q_3, .inl (cA_4, 60, .inr (.inr (.inr (.inr (fun _ => none)))))), (q_5, .inl (cA_6, 5, .inl (fun _ => 0)))] := hD.sub [0, 1, 2, 3] (by decide) rfl
  have hK : va_K D pv_cl [(cA_2, .int), (cA_4, .object "PolyforgeModel$Terms"), (cA_6, .int)] s := hK.sub [0, 1, 2] rfl
  refine lv_aload_n hx hb dX13_init_65 rfl (lv_at hl 0 rfl) ?_
  refine lv_bipush (v := 8) hx hb dX13_init_66 (by decide) ?_
  refine pv_pc 68 rfl ?_
  refine va_newa (atype := .int) hx hb (hg w1_74 rfl) (ty := .int) rfl hK hP hD hS hA (a0 := (8, .inl (fun _ => 0))) (fun _ => rfl) (by decide) (by decide +kernel) (Nat.le_of_ble_eq_true rfl) (Nat.le_of_ble_eq_true rfl) (Nat.le_of_ble_eq_true rfl) dX13_init_68 (fun q_15 cA_16 H hK hP hD hS => ?_)
  have hP : va_P D pv_cl [(h0, .inr (1, [.int 0, .int 108, .int 0, .ref q_1, .ref q_3, .int 0, .int 0, .ref q_5, .ref q_7, .ref q_9, .int 0, .ref q_11, .ref q_13, .null, .null, .int 0, .null, .null, .int 0, .int 0, .null, .null, .null, .null, .null, .null, .null, .int 0, .int 0, .int 0, .int 0, .null, .null, .null, .null, .null, .null, .int 0, .null, .null, .null, .null, .int 0, .null, .null])), (q_1, .inl (cA_2, 60, .inl (fun _ => 0))), (q_3, .inl (cA_4, 60, .inr (.inr (.inr (.inr (fun _ => none)))))), (q_5, .inl (cA_6, 5, .inl (fun _ => 0))), (q_15, .inl (cA_16, 8, .inl (fun _ => 0)))] _ := hP
  have hD : va_D A [(h0, .inr (1, [.int 0, .int 108, .int 0, .ref q_1, .ref q_3, .int 0, .int 0, .ref q_5, .ref q_7, .ref q_9, .int 0, .ref q_11, .ref q_13, .null, .null, .int 0, .null, .null, .int 0, .int 0, .null, .null, .null, .null, .null, .null, .null, .int 0, .int 0, .int 0, .int 0, .null, .null, .null, .null, .null, .null, .int 0, .null, .null, .null, .null, .int 0, .null, .null])), (q_1, .inl (cA_2, 60, .inl (fun _ => 0))), (q_3, .inl (cA_4, 60, .inr (.inr (.inr (.inr (fun _ => none)))))), (q_5, .inl (cA_6, 5, .inl (fun _ => 0))), (q_15, .inl (cA_16, 8, .inl (fun _ => 0)))] := hD
  have hK : va_K D pv_cl [(cA_2, .int), (cA_4, .object "PolyforgeModel$Terms"), (cA_6, .int), (cA_16, .int)] s := hK
  refine W.widen (k := 8) (n := 169) (Nat.le_of_ble_eq_true rfl) (Nat.le_of_ble_eq_true rfl) ?_
  refine va_putF (own := RX13) (D := D) (ci := 1) (v := .ref q_15) (ty := .array .int) (C := RX13) (T := TX13) (N := 45) hx hb hts inF13 tyX13 tyX13_ok nmX13 hown hK hP hD hS 0 rfl rfl 13 (by decide) (hg w8_218 rfl) (fun _ h9 => h9) rfl hin rfl (by decide +kernel) rfl rfl (Nat.le_of_ble_eq_true rfl) dX13_init_70 (fun H locs hP hD hS => ?_)
  have hP : va_P D pv_cl [(h0, .inr (1, [.int 0, .int 108, .int 0, .ref q_1, .ref q_3, .int 0, .int 0, .ref q_5, .ref q_7, .ref q_9, .int 0, .ref q_11, .ref q_13, .ref q_15, .null, .int 0, .null, .null, .int 0, .int 0, .null, .null, .null, .null, .null, .null, .null, .int 0, .int 0, .int 0, .int 0, .null, .null, .null, .null, .null, .null, .int 0, .null, .null, .null, .null, .int 0, .null, .null])), (q_1, .inl (cA_2, 60, .inl (fun _ => 0))), (q_3, .inl (cA_4, 60, .inr (.inr (.inr (.inr (fun _ => none)))))), (q_5, .inl (cA_6, 5, .inl (fun _ => 0))), (q_15, .inl (cA_16, 8, .inl (fun _ => 0)))] _ := hP
  have hD : va_D A [(h0, .inr (1, [.int 0, .int 108, .int 0, .ref q_1, .ref q_3, .int 0, .int 0, .ref q_5, .ref q_7, .ref q_9, .int 0, .ref q_11, .ref q_13, .ref q_15, .null, .int 0, .null, .null, .int 0, .int 0, .null, .null, .null, .null, .null, .null, .null, .int 0, .int 0, .int 0, .int 0, .null, .null, .null, .null, .null, .null, .int 0, .null, .null, .null, .null, .int 0, .null, .null])), (q_1, .inl (cA_2, 60, .inl (fun _ => 0))), (q_3, .inl (cA_4, 60, .inr (.inr (.inr (.inr (fun _ => none)))))), (q_5, .inl (cA_6, 5, .inl (fun _ => 0))), (q_15, .inl (cA_16, 8, .inl (fun _ => 0)))] := hD
  have hP : va_P D pv_cl [(h0, .inr (1, [.int 0, .int 108, .int 0, .ref q_1, .ref q_3, .int 0, .int 0, .ref q_5, .ref q_7, .ref q_9, .int 0, .ref q_11, .ref q_13, .ref q_15, .null, .int 0, .null, .null, .int 0, .int 0, .null, .null, .null, .null, .null, .null, .null, .int 0, .int 0, .int 0, .int 0, .null, .null, .null, .null, .null, .null, .int 0, .null, .null, .null, .null, .int 0, .null, .null])), (q_1, .inl (cA_2, 60, .inl (fun _ => 0))), (q_3, .inl (cA_4, 60, .inr (.inr (.inr (.inr (fun _ => none)))))), (q_5, .inl (cA_6, 5, .inl (fun _ => 0)))] _ := hP.sub [0, 1, 2, 3] rfl
  have hD : va_D A [(h0, .inr (1, [.int 0, .int 108, .int 0, .ref q_1, .ref q_3, .int 0, .int 0, .ref q_5, .ref q_7, .ref q_9, .int 0, .ref q_11, .ref q_13, .ref q_15, .null, .int 0, .null, .null, .int 0, .int 0, .null, .null, .null, .null, .null, .null, .null, .int 0, .int 0, .int 0, .int 0, .null, .null, .null, .null, .null, .null, .int 0, .null, .null, .null, .null, .int 0, .null, .null])), (q_1, .inl (cA_2, 60, .inl (fun _ => 0))), (q_3, .inl (cA_4, 60, .inr (.inr (.inr (.inr (fun _ => none)))))), (q_5, .inl (cA_6, 5, .inl (fun _ => 0)))] := hD.sub [0, 1, 2, 3] (by decide) rfl
  have hK : va_K D pv_cl [(cA_2, .int), (cA_4, .object "PolyforgeModel$Terms"), (cA_6, .int)] s := hK.sub [0, 1, 2] rfl
  refine lv_aload_n hx hb dX13_init_73 rfl (lv_at hl 0 rfl) ?_
  refine lv_bipush (v := 8) hx hb dX13_init_74 (by decide) ?_
  refine va_newa (atype := .char) hx hb (hg w1_73 rfl) (ty := .char) rfl hK hP hD hS hA (a0 := (8, .inl (fun _ => 0))) (fun _ => rfl) (by decide) (by decide +kernel) (Nat.le_of_ble_eq_true rfl) (Nat.le_of_ble_eq_true rfl) (Nat.le_of_ble_eq_true rfl) dX13_init_76 (fun q_17 cA_18 H hK hP hD hS => ?_)
  have hP : va_P D pv_cl [(h0, .inr (1, [.int 0, .int 108, .int 0, .ref q_1, .ref q_3, .int 0, .int 0, .ref q_5, .ref q_7, .ref q_9, .int 0, .ref q_11, .ref q_13, .ref q_15, .null, .int 0, .null, .null, .int 0, .int 0, .null, .null, .null, .null, .null, .null, .null, .int 0, .int 0, .int 0, .int 0, .null, .null, .null, .null, .null, .null, .int 0, .null, .null, .null, .null, .int 0, .null, .null])), (q_1, .inl (cA_2, 60, .inl (fun _ => 0))), (q_3, .inl (cA_4, 60, .inr (.inr (.inr (.inr (fun _ => none)))))), (q_5, .inl (cA_6, 5, .inl (fun _ => 0))), (q_17, .inl (cA_18, 8, .inl (fun _ => 0)))] _ := hP
  have hD : va_D A [(h0, .inr (1, [.int 0, .int 108, .int 0, .ref q_1, .ref q_3, .int 0, .int 0, .ref q_5, .ref q_7, .ref q_9, .int 0, .ref q_11, .ref q_13, .ref q_15, .null, .int 0, .null, .null, .int 0, .int 0, .null, .null, .null, .null, .null, .null, .null, .int 0, .int 0, .int 0, .int 0, .null, .null, .null, .null, .null, .null, .int 0, .null, .null, .null, .null, .int 0, .null, .null])), (q_1, .inl (cA_2, 60, .inl (fun _ => 0))), (q_3, .inl (cA_4, 60, .inr (.inr (.inr (.inr (fun _ => none)))))), (q_5, .inl (cA_6, 5, .inl (fun _ => 0))), (q_17, .inl (cA_18, 8, .inl (fun _ => 0)))] := hD
  have hK : va_K D pv_cl [(cA_2, .int), (cA_4, .object "PolyforgeModel$Terms"), (cA_6, .int), (cA_18, .char)] s := hK
  refine W.widen (k := 9) (n := 177) (Nat.le_of_ble_eq_true rfl) (Nat.le_of_ble_eq_true rfl) ?_
  refine va_putF (own := RX13) (D := D) (ci := 1) (v := .ref q_17) (ty := .array .char) (C := RX13) (T := TX13) (N := 45) hx hb hts inF13 tyX13 tyX13_ok nmX13 hown hK hP hD hS 0 rfl rfl 14 (by decide) (hg w8_219 rfl) (fun _ h9 => h9) rfl hin rfl (by decide +kernel) rfl rfl (Nat.le_of_ble_eq_true rfl) dX13_init_78 (fun H locs hP hD hS => ?_)
  have hP : va_P D pv_cl [(h0, .inr (1, [.int 0, .int 108, .int 0, .ref q_1, .ref q_3, .int 0, .int 0, .ref q_5, .ref q_7, .ref q_9, .int 0, .ref q_11, .ref q_13, .ref q_15, .ref q_17, .int 0, .null, .null, .int 0, .int 0, .null, .null, .null, .null, .null, .null, .null, .int 0, .int 0, .int 0, .int 0, .null, .null, .null, .null, .null, .null, .int 0, .null, .null, .null, .null, .int 0, .null, .null])), (q_1, .inl (cA_2, 60, .inl (fun _ => 0))), (q_3, .inl (cA_4, 60, .inr (.inr (.inr (.inr (fun _ => none)))))), (q_5, .inl (cA_6, 5, .inl (fun _ => 0))), (q_17, .inl (cA_18, 8, .inl (fun _ => 0)))] _ := hP
  have hD : va_D A [(h0, .inr (1, [.int 0, .int 108, .int 0, .ref q_1, .ref q_3, .int 0, .int 0, .ref q_5, .ref q_7, .ref q_9, .int 0, .ref q_11, .ref q_13, .ref q_15, .ref q_17, .int 0, .null, .null, .int 0, .int 0, .null, .null, .null, .null, .null, .null, .null, .int 0, .int 0, .int 0, .int 0, .null, .null, .null, .null, .null, .null, .int 0, .null, .null, .null, .null, .int 0, .null, .null])), (q_1, .inl (cA_2, 60, .inl (fun _ => 0))), (q_3, .inl (cA_4, 60, .inr (.inr (.inr (.inr (fun _ => none)))))), (q_5, .inl (cA_6, 5, .inl (fun _ => 0))), (q_17, .inl (cA_18, 8, .inl (fun _ => 0)))] := hD
  have hP : va_P D pv_cl [(h0, .inr (1, [.int 0, .int 108, .int 0, .ref q_1, .ref q_3, .int 0, .int 0, .ref q_5, .ref q_7, .ref q_9, .int 0, .ref q_11, .ref q_13, .ref q_15, .ref q_17, .int 0, .null, .null, .int 0, .int 0, .null, .null, .null, .null, .null, .null, .null, .int 0, .int 0, .int 0, .int 0, .null, .null, .null, .null, .null, .null, .int 0, .null, .null, .null, .null, .int 0, .null, .null])), (q_1, .inl (cA_2, 60, .inl (fun _ => 0))), (q_3, .inl (cA_4, 60, .inr (.inr (.inr (.inr (fun _ => none)))))), (q_5, .inl (cA_6, 5, .inl (fun _ => 0)))] _ := hP.sub [0, 1, 2, 3] rfl
  have hD : va_D A [(h0, .inr (1, [.int 0, .int 108, .int 0, .ref q_1, .ref q_3, .int 0, .int 0, .ref q_5, .ref q_7, .ref q_9, .int 0, .ref q_11, .ref q_13, .ref q_15, .ref q_17, .int 0, .null, .null, .int 0, .int 0, .null, .null, .null, .null, .null, .null, .null, .int 0, .int 0, .int 0, .int 0, .null, .null, .null, .null, .null, .null, .int 0, .null, .null, .null, .null, .int 0, .null, .null])), (q_1, .inl (cA_2, 60, .inl (fun _ => 0))), (q_3, .inl (cA_4, 60, .inr (.inr (.inr (.inr (fun _ => none)))))), (q_5, .inl (cA_6, 5, .inl (fun _ => 0)))] := hD.sub [0, 1, 2, 3] (by decide) rfl
  have hK : va_K D pv_cl [(cA_2, .int), (cA_4, .object "PolyforgeModel$Terms"), (cA_6, .int)] s := hK.sub [0, 1, 2] rfl
  refine lv_aload_n hx hb dX13_init_81 rfl (lv_at hl 0 rfl) ?_
  refine lv_iconst (v := 1) hx hb dX13_init_82 (by decide) ?_
  refine va_put (own := RX13) (D := D) (ci := 1) (v := .int 1) (ty := .int) (C := RX13) (T := TX13) (N := 45) hx hb hts inF13 tyX13 tyX13_ok nmX13 hown hK hP hD hS 0 rfl rfl 15 (by decide) (hg w8_220 rfl) (fun _ h9 => h9) rfl (by decide +kernel) rfl rfl (Nat.le_of_ble_eq_true rfl) dX13_init_83 (fun H locs hP hD hS => ?_)
  have hP : va_P D pv_cl [(h0, .inr (1, [.int 0, .int 108, .int 0, .ref q_1, .ref q_3, .int 0, .int 0, .ref q_5, .ref q_7, .ref q_9, .int 0, .ref q_11, .ref q_13, .ref q_15, .ref q_17, .int 1, .null, .null, .int 0, .int 0, .null, .null, .null, .null, .null, .null, .null, .int 0, .int 0, .int 0, .int 0, .null, .null, .null, .null, .null, .null, .int 0, .null, .null, .null, .null, .int 0, .null, .null])), (q_1, .inl (cA_2, 60, .inl (fun _ => 0))), (q_3, .inl (cA_4, 60, .inr (.inr (.inr (.inr (fun _ => none)))))), (q_5, .inl (cA_6, 5, .inl (fun _ => 0)))] _ := hP
  have hD : va_D A [(h0, .inr (1, [.int 0, .int 108, .int 0, .ref q_1, .ref q_3, .int 0, .int 0, .ref q_5, .ref q_7, .ref q_9, .int 0, .ref q_11, .ref q_13, .ref q_15, .ref q_17, .int 1, .null, .null, .int 0, .int 0, .null, .null, .null, .null, .null, .null, .null, .int 0, .int 0, .int 0, .int 0, .null, .null, .null, .null, .null, .null, .int 0, .null, .null, .null, .null, .int 0, .null, .null])), (q_1, .inl (cA_2, 60, .inl (fun _ => 0))), (q_3, .inl (cA_4, 60, .inr (.inr (.inr (.inr (fun _ => none)))))), (q_5, .inl (cA_6, 5, .inl (fun _ => 0)))] := hD
  refine lv_aload_n hx hb dX13_init_86 rfl (lv_at hl 0 rfl) ?_
  refine lv_iconst (v := 3) hx hb dX13_init_87 (by decide) ?_
  refine va_newa (atype := .char) hx hb (hg w1_73 rfl) (ty := .char) rfl hK hP hD hS hA (a0 := (3, .inl (fun _ => 0))) (fun _ => rfl) (by decide) (by decide +kernel) (Nat.le_of_ble_eq_true rfl) (Nat.le_of_ble_eq_true rfl) (Nat.le_of_ble_eq_true rfl) dX13_init_88 (fun q_19 cA_20 H hK hP hD hS => ?_)
  have hP : va_P D pv_cl [(h0, .inr (1, [.int 0, .int 108, .int 0, .ref q_1, .ref q_3, .int 0, .int 0, .ref q_5, .ref q_7, .ref q_9, .int 0, .ref q_11, .ref q_13, .ref q_15, .ref q_17, .int 1, .null, .null, .int 0, .int 0, .null, .null, .null, .null, .null, .null, .null, .int 0, .int 0, .int 0, .int 0, .null, .null, .null, .null, .null, .null, .int 0, .null, .null, .null, .null, .int 0, .null, .null])), (q_1, .inl (cA_2, 60, .inl (fun _ => 0))), (q_3, .inl (cA_4, 60, .inr (.inr (.inr (.inr (fun _ => none)))))), (q_5, .inl (cA_6, 5, .inl (fun _ => 0))), (q_19, .inl (cA_20, 3, .inl (fun _ => 0)))] _ := hP
  have hD : va_D A [(h0, .inr (1, [.int 0, .int 108, .int 0, .ref q_1, .ref q_3, .int 0, .int 0, .ref q_5, .ref q_7, .ref q_9, .int 0, .ref q_11, .ref q_13, .ref q_15, .ref q_17, .int 1, .null, .null, .int 0, .int 0, .null, .null, .null, .null, .null, .null, .null, .int 0, .int 0, .int 0, .int 0, .null, .null, .null, .null, .null, .null, .int 0, .null, .null, .null, .null, .int 0, .null, .null])), (q_1, .inl (cA_2, 60, .inl (fun _ => 0))), (q_3, .inl (cA_4, 60, .inr (.inr (.inr (.inr (fun _ => none)))))), (q_5, .inl (cA_6, 5, .inl (fun _ => 0))), (q_19, .inl (cA_20, 3, .inl (fun _ => 0)))] := hD
  have hK : va_K D pv_cl [(cA_2, .int), (cA_4, .object "PolyforgeModel$Terms"), (cA_6, .int), (cA_20, .char)] s := hK
  refine W.widen (k := 10) (n := 180) (Nat.le_of_ble_eq_true rfl) (Nat.le_of_ble_eq_true rfl) ?_
  refine pv_pc 90 rfl ?_
  refine va_putF (own := RX13) (D := D) (ci := 1) (v := .ref q_19) (ty := .array .char) (C := RX13) (T := TX13) (N := 45) hx hb hts inF13 tyX13 tyX13_ok nmX13 hown hK hP hD hS 0 rfl rfl 16 (by decide) (hg w8_221 rfl) (fun _ h9 => h9) rfl hin rfl (by decide +kernel) rfl rfl (Nat.le_of_ble_eq_true rfl) dX13_init_90 (fun H locs hP hD hS => ?_)
  have hP : va_P D pv_cl [(h0, .inr (1, [.int 0, .int 108, .int 0, .ref q_1, .ref q_3, .int 0, .int 0, .ref q_5, .ref q_7, .ref q_9, .int 0, .ref q_11, .ref q_13, .ref q_15, .ref q_17, .int 1, .ref q_19, .null, .int 0, .int 0, .null, .null, .null, .null, .null, .null, .null, .int 0, .int 0, .int 0, .int 0, .null, .null, .null, .null, .null, .null, .int 0, .null, .null, .null, .null, .int 0, .null, .null])), (q_1, .inl (cA_2, 60, .inl (fun _ => 0))), (q_3, .inl (cA_4, 60, .inr (.inr (.inr (.inr (fun _ => none)))))), (q_5, .inl (cA_6, 5, .inl (fun _ => 0))), (q_19, .inl (cA_20, 3, .inl (fun _ => 0)))] _ := hP
  have hD : va_D A [(h0, .inr (1, [.int 0, .int 108, .int 0, .ref q_1, .ref q_3, .int 0, .int 0, .ref q_5, .ref q_7, .ref q_9, .int 0, .ref q_11, .ref q_13, .ref q_15, .ref q_17, .int 1, .ref q_19, .null, .int 0, .int 0, .null, .null, .null, .null, .null, .null, .null, .int 0, .int 0, .int 0, .int 0, .null, .null, .null, .null, .null, .null, .int 0, .null, .null, .null, .null, .int 0, .null, .null])), (q_1, .inl (cA_2, 60, .inl (fun _ => 0))), (q_3, .inl (cA_4, 60, .inr (.inr (.inr (.inr (fun _ => none)))))), (q_5, .inl (cA_6, 5, .inl (fun _ => 0))), (q_19, .inl (cA_20, 3, .inl (fun _ => 0)))] := hD
  refine lv_aload_n hx hb dX13_init_93 rfl (lv_at hl 0 rfl) ?_
  refine lv_iconst (v := 3) hx hb dX13_init_94 (by decide) ?_
  refine va_newa (atype := .int) hx hb (hg w1_74 rfl) (ty := .int) rfl hK hP hD hS hA (a0 := (3, .inl (fun _ => 0))) (fun _ => rfl) (by decide) (by decide +kernel) (Nat.le_of_ble_eq_true rfl) (Nat.le_of_ble_eq_true rfl) (Nat.le_of_ble_eq_true rfl) dX13_init_95 (fun q_21 cA_22 H hK hP hD hS => ?_)
  have hP : va_P D pv_cl [(h0, .inr (1, [.int 0, .int 108, .int 0, .ref q_1, .ref q_3, .int 0, .int 0, .ref q_5, .ref q_7, .ref q_9, .int 0, .ref q_11, .ref q_13, .ref q_15, .ref q_17, .int 1, .ref q_19, .null, .int 0, .int 0, .null, .null, .null, .null, .null, .null, .null, .int 0, .int 0, .int 0, .int 0, .null, .null, .null, .null, .null, .null, .int 0, .null, .null, .null, .null, .int 0, .null, .null])), (q_1, .inl (cA_2, 60, .inl (fun _ => 0))), (q_3, .inl (cA_4, 60, .inr (.inr (.inr (.inr (fun _ => none)))))), (q_5, .inl (cA_6, 5, .inl (fun _ => 0))), (q_19, .inl (cA_20, 3, .inl (fun _ => 0))), (q_21, .inl (cA_22, 3, .inl (fun _ => 0)))] _ := hP
  have hD : va_D A [(h0, .inr (1, [.int 0, .int 108, .int 0, .ref q_1, .ref q_3, .int 0, .int 0, .ref q_5, .ref q_7, .ref q_9, .int 0, .ref q_11, .ref q_13, .ref q_15, .ref q_17, .int 1, .ref q_19, .null, .int 0, .int 0, .null, .null, .null, .null, .null, .null, .null, .int 0, .int 0, .int 0, .int 0, .null, .null, .null, .null, .null, .null, .int 0, .null, .null, .null, .null, .int 0, .null, .null])), (q_1, .inl (cA_2, 60, .inl (fun _ => 0))), (q_3, .inl (cA_4, 60, .inr (.inr (.inr (.inr (fun _ => none)))))), (q_5, .inl (cA_6, 5, .inl (fun _ => 0))), (q_19, .inl (cA_20, 3, .inl (fun _ => 0))), (q_21, .inl (cA_22, 3, .inl (fun _ => 0)))] := hD
  have hK : va_K D pv_cl [(cA_2, .int), (cA_4, .object "PolyforgeModel$Terms"), (cA_6, .int), (cA_20, .char), (cA_22, .int)] s := hK
  refine W.widen (k := 11) (n := 183) (Nat.le_of_ble_eq_true rfl) (Nat.le_of_ble_eq_true rfl) ?_
  refine va_putF (own := RX13) (D := D) (ci := 1) (v := .ref q_21) (ty := .array .int) (C := RX13) (T := TX13) (N := 45) hx hb hts inF13 tyX13 tyX13_ok nmX13 hown hK hP hD hS 0 rfl rfl 17 (by decide) (hg w8_222 rfl) (fun _ h9 => h9) rfl hin rfl (by decide +kernel) rfl rfl (Nat.le_of_ble_eq_true rfl) dX13_init_97 (fun H locs hP hD hS => ?_)
  have hP : va_P D pv_cl [(h0, .inr (1, [.int 0, .int 108, .int 0, .ref q_1, .ref q_3, .int 0, .int 0, .ref q_5, .ref q_7, .ref q_9, .int 0, .ref q_11, .ref q_13, .ref q_15, .ref q_17, .int 1, .ref q_19, .ref q_21, .int 0, .int 0, .null, .null, .null, .null, .null, .null, .null, .int 0, .int 0, .int 0, .int 0, .null, .null, .null, .null, .null, .null, .int 0, .null, .null, .null, .null, .int 0, .null, .null])), (q_1, .inl (cA_2, 60, .inl (fun _ => 0))), (q_3, .inl (cA_4, 60, .inr (.inr (.inr (.inr (fun _ => none)))))), (q_5, .inl (cA_6, 5, .inl (fun _ => 0))), (q_19, .inl (cA_20, 3, .inl (fun _ => 0))), (q_21, .inl (cA_22, 3, .inl (fun _ => 0)))] _ := hP
  have hD : va_D A [(h0, .inr (1, [.int 0, .int 108, .int 0, .ref q_1, .ref q_3, .int 0, .int 0, .ref q_5, .ref q_7, .ref q_9, .int 0, .ref q_11, .ref q_13, .ref q_15, .ref q_17, .int 1, .ref q_19, .ref q_21, .int 0, .int 0, .null, .null, .null, .null, .null, .null, .null, .int 0, .int 0, .int 0, .int 0, .null, .null, .null, .null, .null, .null, .int 0, .null, .null, .null, .null, .int 0, .null, .null])), (q_1, .inl (cA_2, 60, .inl (fun _ => 0))), (q_3, .inl (cA_4, 60, .inr (.inr (.inr (.inr (fun _ => none)))))), (q_5, .inl (cA_6, 5, .inl (fun _ => 0))), (q_19, .inl (cA_20, 3, .inl (fun _ => 0))), (q_21, .inl (cA_22, 3, .inl (fun _ => 0)))] := hD
  refine lv_aload_n hx hb dX13_init_100 rfl (lv_at hl 0 rfl) ?_
  refine lv_bipush (v := 7) hx hb dX13_init_101 (by decide) ?_
  refine lv_bipush (v := 64) hx hb dX13_init_103 (by decide) ?_
  refine pv_mna (own := RX13) (nm := "[[I") (ty := .int) (N' := 7) (K' := 64) hx hb hown (hg w8_200 rfl) (by decide +kernel) (hE.2.2.2.2 _ (by simp [pv_ot])) (hg w1_74 rfl) hP hD hS hA (by decide) (by decide) (by decide +kernel) (by decide +kernel) (Nat.le_of_ble_eq_true rfl) (by decide +kernel) (Nat.le_of_ble_eq_true rfl) rfl rfl (Nat.le_of_ble_eq_true rfl) (Nat.le_of_ble_eq_true rfl) dX13_init_105 (fun q_23 H hP hD hS => ?_)
  refine W.widen (k := 19) (n := 638) (Nat.le_of_ble_eq_true rfl) (Nat.le_of_ble_eq_true rfl) ?_
  refine va_putF (own := RX13) (D := D) (ci := 1) (v := .ref q_23) (ty := .array (.array .int)) (C := RX13) (T := TX13) (N := 45) hx hb hts inF13 tyX13 tyX13_ok nmX13 hown hK hP hD hS 0 rfl rfl 20 (by decide) (hg w8_225 rfl) (fun _ h9 => h9) rfl hin rfl (by decide +kernel) rfl rfl (Nat.le_of_ble_eq_true rfl) dX13_init_109 (fun H locs hP hD hS => ?_)
  have hP : va_P D pv_cl [(h0, .inr (1, [.int 0, .int 108, .int 0, .ref q_1, .ref q_3, .int 0, .int 0, .ref q_5, .ref q_7, .ref q_9, .int 0, .ref q_11, .ref q_13, .ref q_15, .ref q_17, .int 1, .ref q_19, .ref q_21, .int 0, .int 0, .ref q_23, .null, .null, .null, .null, .null, .null, .int 0, .int 0, .int 0, .int 0, .null, .null, .null, .null, .null, .null, .int 0, .null, .null, .null, .null, .int 0, .null, .null])), (q_1, .inl (cA_2, 60, .inl (fun _ => 0))), (q_3, .inl (cA_4, 60, .inr (.inr (.inr (.inr (fun _ => none)))))), (q_5, .inl (cA_6, 5, .inl (fun _ => 0))), (q_19, .inl (cA_20, 3, .inl (fun _ => 0))), (q_21, .inl (cA_22, 3, .inl (fun _ => 0)))] _ := hP
  have hD : va_D A [(h0, .inr (1, [.int 0, .int 108, .int 0, .ref q_1, .ref q_3, .int 0, .int 0, .ref q_5, .ref q_7, .ref q_9, .int 0, .ref q_11, .ref q_13, .ref q_15, .ref q_17, .int 1, .ref q_19, .ref q_21, .int 0, .int 0, .ref q_23, .null, .null, .null, .null, .null, .null, .int 0, .int 0, .int 0, .int 0, .null, .null, .null, .null, .null, .null, .int 0, .null, .null, .null, .null, .int 0, .null, .null])), (q_1, .inl (cA_2, 60, .inl (fun _ => 0))), (q_3, .inl (cA_4, 60, .inr (.inr (.inr (.inr (fun _ => none)))))), (q_5, .inl (cA_6, 5, .inl (fun _ => 0))), (q_19, .inl (cA_20, 3, .inl (fun _ => 0))), (q_21, .inl (cA_22, 3, .inl (fun _ => 0)))] := hD
  refine lv_aload_n hx hb dX13_init_112 rfl (lv_at hl 0 rfl) ?_
  refine lv_bipush (v := 7) hx hb dX13_init_113 (by decide) ?_
  refine pv_pc 115 rfl ?_
  refine va_newa (atype := .int) hx hb (hg w1_74 rfl) (ty := .int) rfl hK hP hD hS hA (a0 := (7, .inl (fun _ => 0))) (fun _ => rfl) (by decide) (by decide +kernel) (Nat.le_of_ble_eq_true rfl) (Nat.le_of_ble_eq_true rfl) (Nat.le_of_ble_eq_true rfl) dX13_init_115 (fun q_24 cA_25 H hK hP hD hS => ?_)
  have hP : va_P D pv_cl [(h0, .inr (1, [.int 0, .int 108, .int 0, .ref q_1, .ref q_3, .int 0, .int 0, .ref q_5, .ref q_7, .ref q_9, .int 0, .ref q_11, .ref q_13, .ref q_15, .ref q_17, .int 1, .ref q_19, .ref q_21, .int 0, .int 0, .ref q_23, .null, .null, .null, .null, .null, .null, .int 0, .int 0, .int 0, .int 0, .null, .null, .null, .null, .null, .null, .int 0, .null, .null, .null, .null, .int 0, .null, .null])), (q_1, .inl (cA_2, 60, .inl (fun _ => 0))), (q_3, .inl (cA_4, 60, .inr (.inr (.inr (.inr (fun _ => none)))))), (q_5, .inl (cA_6, 5, .inl (fun _ => 0))), (q_19, .inl (cA_20, 3, .inl (fun _ => 0))), (q_21, .inl (cA_22, 3, .inl (fun _ => 0))), (q_24, .inl (cA_25, 7, .inl (fun _ => 0)))] _ := hP
  have hD : va_D A [(h0, .inr (1, [.int 0, .int 108, .int 0, .ref q_1, .ref q_3, .int 0, .int 0, .ref q_5, .ref q_7, .ref q_9, .int 0, .ref q_11, .ref q_13, .ref q_15, .ref q_17, .int 1, .ref q_19, .ref q_21, .int 0, .int 0, .ref q_23, .null, .null, .null, .null, .null, .null, .int 0, .int 0, .int 0, .int 0, .null, .null, .null, .null, .null, .null, .int 0, .null, .null, .null, .null, .int 0, .null, .null])), (q_1, .inl (cA_2, 60, .inl (fun _ => 0))), (q_3, .inl (cA_4, 60, .inr (.inr (.inr (.inr (fun _ => none)))))), (q_5, .inl (cA_6, 5, .inl (fun _ => 0))), (q_19, .inl (cA_20, 3, .inl (fun _ => 0))), (q_21, .inl (cA_22, 3, .inl (fun _ => 0))), (q_24, .inl (cA_25, 7, .inl (fun _ => 0)))] := hD
  have hK : va_K D pv_cl [(cA_2, .int), (cA_4, .object "PolyforgeModel$Terms"), (cA_6, .int), (cA_20, .char), (cA_22, .int), (cA_25, .int)] s := hK
  refine W.widen (k := 20) (n := 645) (Nat.le_of_ble_eq_true rfl) (Nat.le_of_ble_eq_true rfl) ?_
  refine va_putF (own := RX13) (D := D) (ci := 1) (v := .ref q_24) (ty := .array .int) (C := RX13) (T := TX13) (N := 45) hx hb hts inF13 tyX13 tyX13_ok nmX13 hown hK hP hD hS 0 rfl rfl 21 (by decide) (hg w8_226 rfl) (fun _ h9 => h9) rfl hin rfl (by decide +kernel) rfl rfl (Nat.le_of_ble_eq_true rfl) dX13_init_117 (fun H locs hP hD hS => ?_)
  have hP : va_P D pv_cl [(h0, .inr (1, [.int 0, .int 108, .int 0, .ref q_1, .ref q_3, .int 0, .int 0, .ref q_5, .ref q_7, .ref q_9, .int 0, .ref q_11, .ref q_13, .ref q_15, .ref q_17, .int 1, .ref q_19, .ref q_21, .int 0, .int 0, .ref q_23, .ref q_24, .null, .null, .null, .null, .null, .int 0, .int 0, .int 0, .int 0, .null, .null, .null, .null, .null, .null, .int 0, .null, .null, .null, .null, .int 0, .null, .null])), (q_1, .inl (cA_2, 60, .inl (fun _ => 0))), (q_3, .inl (cA_4, 60, .inr (.inr (.inr (.inr (fun _ => none)))))), (q_5, .inl (cA_6, 5, .inl (fun _ => 0))), (q_19, .inl (cA_20, 3, .inl (fun _ => 0))), (q_21, .inl (cA_22, 3, .inl (fun _ => 0))), (q_24, .inl (cA_25, 7, .inl (fun _ => 0)))] _ := hP
  have hD : va_D A [(h0, .inr (1, [.int 0, .int 108, .int 0, .ref q_1, .ref q_3, .int 0, .int 0, .ref q_5, .ref q_7, .ref q_9, .int 0, .ref q_11, .ref q_13, .ref q_15, .ref q_17, .int 1, .ref q_19, .ref q_21, .int 0, .int 0, .ref q_23, .ref q_24, .null, .null, .null, .null, .null, .int 0, .int 0, .int 0, .int 0, .null, .null, .null, .null, .null, .null, .int 0, .null, .null, .null, .null, .int 0, .null, .null])), (q_1, .inl (cA_2, 60, .inl (fun _ => 0))), (q_3, .inl (cA_4, 60, .inr (.inr (.inr (.inr (fun _ => none)))))), (q_5, .inl (cA_6, 5, .inl (fun _ => 0))), (q_19, .inl (cA_20, 3, .inl (fun _ => 0))), (q_21, .inl (cA_22, 3, .inl (fun _ => 0))), (q_24, .inl (cA_25, 7, .inl (fun _ => 0)))] := hD
  have hP : va_P D pv_cl [(h0, .inr (1, [.int 0, .int 108, .int 0, .ref q_1, .ref q_3, .int 0, .int 0, .ref q_5, .ref q_7, .ref q_9, .int 0, .ref q_11, .ref q_13, .ref q_15, .ref q_17, .int 1, .ref q_19, .ref q_21, .int 0, .int 0, .ref q_23, .ref q_24, .null, .null, .null, .null, .null, .int 0, .int 0, .int 0, .int 0, .null, .null, .null, .null, .null, .null, .int 0, .null, .null, .null, .null, .int 0, .null, .null])), (q_1, .inl (cA_2, 60, .inl (fun _ => 0))), (q_3, .inl (cA_4, 60, .inr (.inr (.inr (.inr (fun _ => none)))))), (q_5, .inl (cA_6, 5, .inl (fun _ => 0))), (q_19, .inl (cA_20, 3, .inl (fun _ => 0))), (q_21, .inl (cA_22, 3, .inl (fun _ => 0)))] _ := hP.sub [0, 1, 2, 3, 4, 5] rfl
  have hD : va_D A [(h0, .inr (1, [.int 0, .int 108, .int 0, .ref q_1, .ref q_3, .int 0, .int 0, .ref q_5, .ref q_7, .ref q_9, .int 0, .ref q_11, .ref q_13, .ref q_15, .ref q_17, .int 1, .ref q_19, .ref q_21, .int 0, .int 0, .ref q_23, .ref q_24, .null, .null, .null, .null, .null, .int 0, .int 0, .int 0, .int 0, .null, .null, .null, .null, .null, .null, .int 0, .null, .null, .null, .null, .int 0, .null, .null])), (q_1, .inl (cA_2, 60, .inl (fun _ => 0))), (q_3, .inl (cA_4, 60, .inr (.inr (.inr (.inr (fun _ => none)))))), (q_5, .inl (cA_6, 5, .inl (fun _ => 0))), (q_19, .inl (cA_20, 3, .inl (fun _ => 0))), (q_21, .inl (cA_22, 3, .inl (fun _ => 0)))] := hD.sub [0, 1, 2, 3, 4, 5] (by decide) rfl
  have hK : va_K D pv_cl [(cA_2, .int), (cA_4, .object "PolyforgeModel$Terms"), (cA_6, .int), (cA_20, .char), (cA_22, .int)] s := hK.sub [0, 1, 2, 3, 4] rfl
  refine lv_aload_n hx hb dX13_init_120 rfl (lv_at hl 0 rfl) ?_
  refine lv_sipush (v := 29791) hx hb dX13_init_121 (by decide) ?_
  refine va_newa (atype := .long) hx hb (hg w1_75 rfl) (ty := .long) rfl hK hP hD hS hA (a0 := (29791, .inr (.inl (fun _ => 0)))) (fun _ => rfl) (by decide) (by decide +kernel) (Nat.le_of_ble_eq_true rfl) (Nat.le_of_ble_eq_true rfl) (Nat.le_of_ble_eq_true rfl) dX13_init_124 (fun q_26 cA_27 H hK hP hD hS => ?_)
  have hP : va_P D pv_cl [(h0, .inr (1, [.int 0, .int 108, .int 0, .ref q_1, .ref q_3, .int 0, .int 0, .ref q_5, .ref q_7, .ref q_9, .int 0, .ref q_11, .ref q_13, .ref q_15, .ref q_17, .int 1, .ref q_19, .ref q_21, .int 0, .int 0, .ref q_23, .ref q_24, .null, .null, .null, .null, .null, .int 0, .int 0, .int 0, .int 0, .null, .null, .null, .null, .null, .null, .int 0, .null, .null, .null, .null, .int 0, .null, .null])), (q_1, .inl (cA_2, 60, .inl (fun _ => 0))), (q_3, .inl (cA_4, 60, .inr (.inr (.inr (.inr (fun _ => none)))))), (q_5, .inl (cA_6, 5, .inl (fun _ => 0))), (q_19, .inl (cA_20, 3, .inl (fun _ => 0))), (q_21, .inl (cA_22, 3, .inl (fun _ => 0))), (q_26, .inl (cA_27, 29791, .inr (.inl (fun _ => 0))))] _ := hP
  have hD : va_D A [(h0, .inr (1, [.int 0, .int 108, .int 0, .ref q_1, .ref q_3, .int 0, .int 0, .ref q_5, .ref q_7, .ref q_9, .int 0, .ref q_11, .ref q_13, .ref q_15, .ref q_17, .int 1, .ref q_19, .ref q_21, .int 0, .int 0, .ref q_23, .ref q_24, .null, .null, .null, .null, .null, .int 0, .int 0, .int 0, .int 0, .null, .null, .null, .null, .null, .null, .int 0, .null, .null, .null, .null, .int 0, .null, .null])), (q_1, .inl (cA_2, 60, .inl (fun _ => 0))), (q_3, .inl (cA_4, 60, .inr (.inr (.inr (.inr (fun _ => none)))))), (q_5, .inl (cA_6, 5, .inl (fun _ => 0))), (q_19, .inl (cA_20, 3, .inl (fun _ => 0))), (q_21, .inl (cA_22, 3, .inl (fun _ => 0))), (q_26, .inl (cA_27, 29791, .inr (.inl (fun _ => 0))))] := hD
  have hK : va_K D pv_cl [(cA_2, .int), (cA_4, .object "PolyforgeModel$Terms"), (cA_6, .int), (cA_20, .char), (cA_22, .int), (cA_27, .long)] s := hK
  refine W.widen (k := 21) (n := 30436) (Nat.le_of_ble_eq_true rfl) (Nat.le_of_ble_eq_true rfl) ?_
  refine va_putF (own := RX13) (D := D) (ci := 1) (v := .ref q_26) (ty := .array .long) (C := RX13) (T := TX13) (N := 45) hx hb hts inF13 tyX13 tyX13_ok nmX13 hown hK hP hD hS 0 rfl rfl 22 (by decide) (hg w8_227 rfl) (fun _ h9 => h9) rfl hin rfl (by decide +kernel) rfl rfl (Nat.le_of_ble_eq_true rfl) dX13_init_126 (fun H locs hP hD hS => ?_)
  have hP : va_P D pv_cl [(h0, .inr (1, [.int 0, .int 108, .int 0, .ref q_1, .ref q_3, .int 0, .int 0, .ref q_5, .ref q_7, .ref q_9, .int 0, .ref q_11, .ref q_13, .ref q_15, .ref q_17, .int 1, .ref q_19, .ref q_21, .int 0, .int 0, .ref q_23, .ref q_24, .ref q_26, .null, .null, .null, .null, .int 0, .int 0, .int 0, .int 0, .null, .null, .null, .null, .null, .null, .int 0, .null, .null, .null, .null, .int 0, .null, .null])), (q_1, .inl (cA_2, 60, .inl (fun _ => 0))), (q_3, .inl (cA_4, 60, .inr (.inr (.inr (.inr (fun _ => none)))))), (q_5, .inl (cA_6, 5, .inl (fun _ => 0))), (q_19, .inl (cA_20, 3, .inl (fun _ => 0))), (q_21, .inl (cA_22, 3, .inl (fun _ => 0))), (q_26, .inl (cA_27, 29791, .inr (.inl (fun _ => 0))))] _ := hP
  have hD : va_D A [(h0, .inr (1, [.int 0, .int 108, .int 0, .ref q_1, .ref q_3, .int 0, .int 0, .ref q_5, .ref q_7, .ref q_9, .int 0, .ref q_11, .ref q_13, .ref q_15, .ref q_17, .int 1, .ref q_19, .ref q_21, .int 0, .int 0, .ref q_23, .ref q_24, .ref q_26, .null, .null, .null, .null, .int 0, .int 0, .int 0, .int 0, .null, .null, .null, .null, .null, .null, .int 0, .null, .null, .null, .null, .int 0, .null, .null])), (q_1, .inl (cA_2, 60, .inl (fun _ => 0))), (q_3, .inl (cA_4, 60, .inr (.inr (.inr (.inr (fun _ => none)))))), (q_5, .inl (cA_6, 5, .inl (fun _ => 0))), (q_19, .inl (cA_20, 3, .inl (fun _ => 0))), (q_21, .inl (cA_22, 3, .inl (fun _ => 0))), (q_26, .inl (cA_27, 29791, .inr (.inl (fun _ => 0))))] := hD
  have hP : va_P D pv_cl [(h0, .inr (1, [.int 0, .int 108, .int 0, .ref q_1, .ref q_3, .int 0, .int 0, .ref q_5, .ref q_7, .ref q_9, .int 0, .ref q_11, .ref q_13, .ref q_15, .ref q_17, .int 1, .ref q_19, .ref q_21, .int 0, .int 0, .ref q_23, .ref q_24, .ref q_26, .null, .null, .null, .null, .int 0, .int 0, .int 0, .int 0, .null, .null, .null, .null, .null, .null, .int 0, .null, .null, .null, .null, .int 0, .null, .null])), (q_1, .inl (cA_2, 60, .inl (fun _ => 0))), (q_3, .inl (cA_4, 60, .inr (.inr (.inr (.inr (fun _ => none)))))), (q_5, .inl (cA_6, 5, .inl (fun _ => 0))), (q_19, .inl (cA_20, 3, .inl (fun _ => 0))), (q_21, .inl (cA_22, 3, .inl (fun _ => 0)))] _ := hP.sub [0, 1, 2, 3, 4, 5] rfl
  have hD : va_D A [(h0, .inr (1, [.int 0, .int 108, .int 0, .ref q_1, .ref q_3, .int 0, .int 0, .ref q_5, .ref q_7, .ref q_9, .int 0, .ref q_11, .ref q_13, .ref q_15, .ref q_17, .int 1, .ref q_19, .ref q_21, .int 0, .int 0, .ref q_23, .ref q_24, .ref q_26, .null, .null, .null, .null, .int 0, .int 0, .int 0, .int 0, .null, .null, .null, .null, .null, .null, .int 0, .null, .null, .null, .null, .int 0, .null, .null])), (q_1, .inl (cA_2, 60, .inl (fun _ => 0))), (q_3, .inl (cA_4, 60, .inr (.inr (.inr (.inr (fun _ => none)))))), (q_5, .inl (cA_6, 5, .inl (fun _ => 0))), (q_19, .inl (cA_20, 3, .inl (fun _ => 0))), (q_21, .inl (cA_22, 3, .inl (fun _ => 0)))] := hD.sub [0, 1, 2, 3, 4, 5] (by decide) rfl
  have hK : va_K D pv_cl [(cA_2, .int), (cA_4, .object "PolyforgeModel$Terms"), (cA_6, .int), (cA_20, .char), (cA_22, .int)] s := hK.sub [0, 1, 2, 3, 4] rfl
  refine lv_aload_n hx hb dX13_init_129 rfl (lv_at hl 0 rfl) ?_
  refine lv_sipush (v := 29791) hx hb dX13_init_130 (by decide) ?_
  refine va_newa (atype := .long) hx hb (hg w1_75 rfl) (ty := .long) rfl hK hP hD hS hA (a0 := (29791, .inr (.inl (fun _ => 0)))) (fun _ => rfl) (by decide) (by decide +kernel) (Nat.le_of_ble_eq_true rfl) (Nat.le_of_ble_eq_true rfl) (Nat.le_of_ble_eq_true rfl) dX13_init_133 (fun q_28 cA_29 H hK hP hD hS => ?_)
  have hP : va_P D pv_cl [(h0, .inr (1, [.int 0, .int 108, .int 0, .ref q_1, .ref q_3, .int 0, .int 0, .ref q_5, .ref q_7, .ref q_9, .int 0, .ref q_11, .ref q_13, .ref q_15, .ref q_17, .int 1, .ref q_19, .ref q_21, .int 0, .int 0, .ref q_23, .ref q_24, .ref q_26, .null, .null, .null, .null, .int 0, .int 0, .int 0, .int 0, .null, .null, .null, .null, .null, .null, .int 0, .null, .null, .null, .null, .int 0, .null, .null])), (q_1, .inl (cA_2, 60, .inl (fun _ => 0))), (q_3, .inl (cA_4, 60, .inr (.inr (.inr (.inr (fun _ => none)))))), (q_5, .inl (cA_6, 5, .inl (fun _ => 0))), (q_19, .inl (cA_20, 3, .inl (fun _ => 0))), (q_21, .inl (cA_22, 3, .inl (fun _ => 0))), (q_28, .inl (cA_29, 29791, .inr (.inl (fun _ => 0))))] _ := hP
  have hD : va_D A [(h0, .inr (1, [.int 0, .int 108, .int 0, .ref q_1, .ref q_3, .int 0, .int 0, .ref q_5, .ref q_7, .ref q_9, .int 0, .ref q_11, .ref q_13, .ref q_15, .ref q_17, .int 1, .ref q_19, .ref q_21, .int 0, .int 0, .ref q_23, .ref q_24, .ref q_26, .null, .null, .null, .null, .int 0, .int 0, .int 0, .int 0, .null, .null, .null, .null, .null, .null, .int 0, .null, .null, .null, .null, .int 0, .null, .null])), (q_1, .inl (cA_2, 60, .inl (fun _ => 0))), (q_3, .inl (cA_4, 60, .inr (.inr (.inr (.inr (fun _ => none)))))), (q_5, .inl (cA_6, 5, .inl (fun _ => 0))), (q_19, .inl (cA_20, 3, .inl (fun _ => 0))), (q_21, .inl (cA_22, 3, .inl (fun _ => 0))), (q_28, .inl (cA_29, 29791, .inr (.inl (fun _ => 0))))] := hD
  have hK : va_K D pv_cl [(cA_2, .int), (cA_4, .object "PolyforgeModel$Terms"), (cA_6, .int), (cA_20, .char), (cA_22, .int), (cA_29, .long)] s := hK
  refine W.widen (k := 22) (n := 60227) (Nat.le_of_ble_eq_true rfl) (Nat.le_of_ble_eq_true rfl) ?_
  refine va_putF (own := RX13) (D := D) (ci := 1) (v := .ref q_28) (ty := .array .long) (C := RX13) (T := TX13) (N := 45) hx hb hts inF13 tyX13 tyX13_ok nmX13 hown hK hP hD hS 0 rfl rfl 23 (by decide) (hg w8_228 rfl) (fun _ h9 => h9) rfl hin rfl (by decide +kernel) rfl rfl (Nat.le_of_ble_eq_true rfl) dX13_init_135 (fun H locs hP hD hS => ?_)
  have hP : va_P D pv_cl [(h0, .inr (1, [.int 0, .int 108, .int 0, .ref q_1, .ref q_3, .int 0, .int 0, .ref q_5, .ref q_7, .ref q_9, .int 0, .ref q_11, .ref q_13, .ref q_15, .ref q_17, .int 1, .ref q_19, .ref q_21, .int 0, .int 0, .ref q_23, .ref q_24, .ref q_26, .ref q_28, .null, .null, .null, .int 0, .int 0, .int 0, .int 0, .null, .null, .null, .null, .null, .null, .int 0, .null, .null, .null, .null, .int 0, .null, .null])), (q_1, .inl (cA_2, 60, .inl (fun _ => 0))), (q_3, .inl (cA_4, 60, .inr (.inr (.inr (.inr (fun _ => none)))))), (q_5, .inl (cA_6, 5, .inl (fun _ => 0))), (q_19, .inl (cA_20, 3, .inl (fun _ => 0))), (q_21, .inl (cA_22, 3, .inl (fun _ => 0))), (q_28, .inl (cA_29, 29791, .inr (.inl (fun _ => 0))))] _ := hP
  have hD : va_D A [(h0, .inr (1, [.int 0, .int 108, .int 0, .ref q_1, .ref q_3, .int 0, .int 0, .ref q_5, .ref q_7, .ref q_9, .int 0, .ref q_11, .ref q_13, .ref q_15, .ref q_17, .int 1, .ref q_19, .ref q_21, .int 0, .int 0, .ref q_23, .ref q_24, .ref q_26, .ref q_28, .null, .null, .null, .int 0, .int 0, .int 0, .int 0, .null, .null, .null, .null, .null, .null, .int 0, .null, .null, .null, .null, .int 0, .null, .null])), (q_1, .inl (cA_2, 60, .inl (fun _ => 0))), (q_3, .inl (cA_4, 60, .inr (.inr (.inr (.inr (fun _ => none)))))), (q_5, .inl (cA_6, 5, .inl (fun _ => 0))), (q_19, .inl (cA_20, 3, .inl (fun _ => 0))), (q_21, .inl (cA_22, 3, .inl (fun _ => 0))), (q_28, .inl (cA_29, 29791, .inr (.inl (fun _ => 0))))] := hD
  have hP : va_P D pv_cl [(h0, .inr (1, [.int 0, .int 108, .int 0, .ref q_1, .ref q_3, .int 0, .int 0, .ref q_5, .ref q_7, .ref q_9, .int 0, .ref q_11, .ref q_13, .ref q_15, .ref q_17, .int 1, .ref q_19, .ref q_21, .int 0, .int 0, .ref q_23, .ref q_24, .ref q_26, .ref q_28, .null, .null, .null, .int 0, .int 0, .int 0, .int 0, .null, .null, .null, .null, .null, .null, .int 0, .null, .null, .null, .null, .int 0, .null, .null])), (q_1, .inl (cA_2, 60, .inl (fun _ => 0))), (q_3, .inl (cA_4, 60, .inr (.inr (.inr (.inr (fun _ => none)))))), (q_5, .inl (cA_6, 5, .inl (fun _ => 0))), (q_19, .inl (cA_20, 3, .inl (fun _ => 0))), (q_21, .inl (cA_22, 3, .inl (fun _ => 0)))] _ := hP.sub [0, 1, 2, 3, 4, 5] rfl
  have hD : va_D A [(h0, .inr (1, [.int 0, .int 108, .int 0, .ref q_1, .ref q_3, .int 0, .int 0, .ref q_5, .ref q_7, .ref q_9, .int 0, .ref q_11, .ref q_13, .ref q_15, .ref q_17, .int 1, .ref q_19, .ref q_21, .int 0, .int 0, .ref q_23, .ref q_24, .ref q_26, .ref q_28, .null, .null, .null, .int 0, .int 0, .int 0, .int 0, .null, .null, .null, .null, .null, .null, .int 0, .null, .null, .null, .null, .int 0, .null, .null])), (q_1, .inl (cA_2, 60, .inl (fun _ => 0))), (q_3, .inl (cA_4, 60, .inr (.inr (.inr (.inr (fun _ => none)))))), (q_5, .inl (cA_6, 5, .inl (fun _ => 0))), (q_19, .inl (cA_20, 3, .inl (fun _ => 0))), (q_21, .inl (cA_22, 3, .inl (fun _ => 0)))] := hD.sub [0, 1, 2, 3, 4, 5] (by decide) rfl
  have hK : va_K D pv_cl [(cA_2, .int), (cA_4, .object "PolyforgeModel$Terms"), (cA_6, .int), (cA_20, .char), (cA_22, .int)] s := hK.sub [0, 1, 2, 3, 4] rfl
  refine lv_aload_n hx hb dX13_init_138 rfl (lv_at hl 0 rfl) ?_
  refine lv_sipush (v := 29791) hx hb dX13_init_139 (by decide) ?_
  refine pv_pc 142 rfl ?_
  refine va_newa (atype := .long) hx hb (hg w1_75 rfl) (ty := .long) rfl hK hP hD hS hA (a0 := (29791, .inr (.inl (fun _ => 0)))) (fun _ => rfl) (by decide) (by decide +kernel) (Nat.le_of_ble_eq_true rfl) (Nat.le_of_ble_eq_true rfl) (Nat.le_of_ble_eq_true rfl) dX13_init_142 (fun q_30 cA_31 H hK hP hD hS => ?_)
  have hP : va_P D pv_cl [(h0, .inr (1, [.int 0, .int 108, .int 0, .ref q_1, .ref q_3, .int 0, .int 0, .ref q_5, .ref q_7, .ref q_9, .int 0, .ref q_11, .ref q_13, .ref q_15, .ref q_17, .int 1, .ref q_19, .ref q_21, .int 0, .int 0, .ref q_23, .ref q_24, .ref q_26, .ref q_28, .null, .null, .null, .int 0, .int 0, .int 0, .int 0, .null, .null, .null, .null, .null, .null, .int 0, .null, .null, .null, .null, .int 0, .null, .null])), (q_1, .inl (cA_2, 60, .inl (fun _ => 0))), (q_3, .inl (cA_4, 60, .inr (.inr (.inr (.inr (fun _ => none)))))), (q_5, .inl (cA_6, 5, .inl (fun _ => 0))), (q_19, .inl (cA_20, 3, .inl (fun _ => 0))), (q_21, .inl (cA_22, 3, .inl (fun _ => 0))), (q_30, .inl (cA_31, 29791, .inr (.inl (fun _ => 0))))] _ := hP
  have hD : va_D A [(h0, .inr (1, [.int 0, .int 108, .int 0, .ref q_1, .ref q_3, .int 0, .int 0, .ref q_5, .ref q_7, .ref q_9, .int 0, .ref q_11, .ref q_13, .ref q_15, .ref q_17, .int 1, .ref q_19, .ref q_21, .int 0, .int 0, .ref q_23, .ref q_24, .ref q_26, .ref q_28, .null, .null, .null, .int 0, .int 0, .int 0, .int 0, .null, .null, .null, .null, .null, .null, .int 0, .null, .null, .null, .null, .int 0, .null, .null])), (q_1, .inl (cA_2, 60, .inl (fun _ => 0))), (q_3, .inl (cA_4, 60, .inr (.inr (.inr (.inr (fun _ => none)))))), (q_5, .inl (cA_6, 5, .inl (fun _ => 0))), (q_19, .inl (cA_20, 3, .inl (fun _ => 0))), (q_21, .inl (cA_22, 3, .inl (fun _ => 0))), (q_30, .inl (cA_31, 29791, .inr (.inl (fun _ => 0))))] := hD
  have hK : va_K D pv_cl [(cA_2, .int), (cA_4, .object "PolyforgeModel$Terms"), (cA_6, .int), (cA_20, .char), (cA_22, .int), (cA_31, .long)] s := hK
  refine W.widen (k := 23) (n := 90018) (Nat.le_of_ble_eq_true rfl) (Nat.le_of_ble_eq_true rfl) ?_
  refine va_putF (own := RX13) (D := D) (ci := 1) (v := .ref q_30) (ty := .array .long) (C := RX13) (T := TX13) (N := 45) hx hb hts inF13 tyX13 tyX13_ok nmX13 hown hK hP hD hS 0 rfl rfl 24 (by decide) (hg w8_229 rfl) (fun _ h9 => h9) rfl hin rfl (by decide +kernel) rfl rfl (Nat.le_of_ble_eq_true rfl) dX13_init_144 (fun H locs hP hD hS => ?_)
  have hP : va_P D pv_cl [(h0, .inr (1, [.int 0, .int 108, .int 0, .ref q_1, .ref q_3, .int 0, .int 0, .ref q_5, .ref q_7, .ref q_9, .int 0, .ref q_11, .ref q_13, .ref q_15, .ref q_17, .int 1, .ref q_19, .ref q_21, .int 0, .int 0, .ref q_23, .ref q_24, .ref q_26, .ref q_28, .ref q_30, .null, .null, .int 0, .int 0, .int 0, .int 0, .null, .null, .null, .null, .null, .null, .int 0, .null, .null, .null, .null, .int 0, .null, .null])), (q_1, .inl (cA_2, 60, .inl (fun _ => 0))), (q_3, .inl (cA_4, 60, .inr (.inr (.inr (.inr (fun _ => none)))))), (q_5, .inl (cA_6, 5, .inl (fun _ => 0))), (q_19, .inl (cA_20, 3, .inl (fun _ => 0))), (q_21, .inl (cA_22, 3, .inl (fun _ => 0))), (q_30, .inl (cA_31, 29791, .inr (.inl (fun _ => 0))))] _ := hP
  have hD : va_D A [(h0, .inr (1, [.int 0, .int 108, .int 0, .ref q_1, .ref q_3, .int 0, .int 0, .ref q_5, .ref q_7, .ref q_9, .int 0, .ref q_11, .ref q_13, .ref q_15, .ref q_17, .int 1, .ref q_19, .ref q_21, .int 0, .int 0, .ref q_23, .ref q_24, .ref q_26, .ref q_28, .ref q_30, .null, .null, .int 0, .int 0, .int 0, .int 0, .null, .null, .null, .null, .null, .null, .int 0, .null, .null, .null, .null, .int 0, .null, .null])), (q_1, .inl (cA_2, 60, .inl (fun _ => 0))), (q_3, .inl (cA_4, 60, .inr (.inr (.inr (.inr (fun _ => none)))))), (q_5, .inl (cA_6, 5, .inl (fun _ => 0))), (q_19, .inl (cA_20, 3, .inl (fun _ => 0))), (q_21, .inl (cA_22, 3, .inl (fun _ => 0))), (q_30, .inl (cA_31, 29791, .inr (.inl (fun _ => 0))))] := hD
  have hP : va_P D pv_cl [(h0, .inr (1, [.int 0, .int 108, .int 0, .ref q_1, .ref q_3, .int 0, .int 0, .ref q_5, .ref q_7, .ref q_9, .int 0, .ref q_11, .ref q_13, .ref q_15, .ref q_17, .int 1, .ref q_19, .ref q_21, .int 0, .int 0, .ref q_23, .ref q_24, .ref q_26, .ref q_28, .ref q_30, .null, .null, .int 0, .int 0, .int 0, .int 0, .null, .null, .null, .null, .null, .null, .int 0, .null, .null, .null, .null, .int 0, .null, .null])), (q_1, .inl (cA_2, 60, .inl (fun _ => 0))), (q_3, .inl (cA_4, 60, .inr (.inr (.inr (.inr (fun _ => none)))))), (q_5, .inl (cA_6, 5, .inl (fun _ => 0))), (q_19, .inl (cA_20, 3, .inl (fun _ => 0))), (q_21, .inl (cA_22, 3, .inl (fun _ => 0)))] _ := hP.sub [0, 1, 2, 3, 4, 5] rfl
  have hD : va_D A [(h0, .inr (1, [.int 0, .int 108, .int 0, .ref q_1, .ref q_3, .int 0, .int 0, .ref q_5, .ref q_7, .ref q_9, .int 0, .ref q_11, .ref q_13, .ref q_15, .ref q_17, .int 1, .ref q_19, .ref q_21, .int 0, .int 0, .ref q_23, .ref q_24, .ref q_26, .ref q_28, .ref q_30, .null, .null, .int 0, .int 0, .int 0, .int 0, .null, .null, .null, .null, .null, .null, .int 0, .null, .null, .null, .null, .int 0, .null, .null])), (q_1, .inl (cA_2, 60, .inl (fun _ => 0))), (q_3, .inl (cA_4, 60, .inr (.inr (.inr (.inr (fun _ => none)))))), (q_5, .inl (cA_6, 5, .inl (fun _ => 0))), (q_19, .inl (cA_20, 3, .inl (fun _ => 0))), (q_21, .inl (cA_22, 3, .inl (fun _ => 0)))] := hD.sub [0, 1, 2, 3, 4, 5] (by decide) rfl
  have hK : va_K D pv_cl [(cA_2, .int), (cA_4, .object "PolyforgeModel$Terms"), (cA_6, .int), (cA_20, .char), (cA_22, .int)] s := hK.sub [0, 1, 2, 3, 4] rfl
  refine lv_aload_n hx hb dX13_init_147 rfl (lv_at hl 0 rfl) ?_
  refine lv_bipush (v := 12) hx hb dX13_init_148 (by decide) ?_
  refine lv_bipush (v := 64) hx hb dX13_init_150 (by decide) ?_
  refine pv_mna (own := RX13) (nm := "[[I") (ty := .int) (N' := 12) (K' := 64) hx hb hown (hg w8_200 rfl) (by decide +kernel) (hE.2.2.2.2 _ (by simp [pv_ot])) (hg w1_74 rfl) hP hD hS hA (by decide) (by decide) (by decide +kernel) (by decide +kernel) (Nat.le_of_ble_eq_true rfl) (by decide +kernel) (Nat.le_of_ble_eq_true rfl) rfl rfl (Nat.le_of_ble_eq_true rfl) (Nat.le_of_ble_eq_true rfl) dX13_init_152 (fun q_32 H hP hD hS => ?_)
  refine W.widen (k := 36) (n := 90798) (Nat.le_of_ble_eq_true rfl) (Nat.le_of_ble_eq_true rfl) ?_
  refine va_putF (own := RX13) (D := D) (ci := 1) (v := .ref q_32) (ty := .array (.array .int)) (C := RX13) (T := TX13) (N := 45) hx hb hts inF13 tyX13 tyX13_ok nmX13 hown hK hP hD hS 0 rfl rfl 25 (by decide) (hg w8_230 rfl) (fun _ h9 => h9) rfl hin rfl (by decide +kernel) rfl rfl (Nat.le_of_ble_eq_true rfl) dX13_init_156 (fun H locs hP hD hS => ?_)
  have hP : va_P D pv_cl [(h0, .inr (1, [.int 0, .int 108, .int 0, .ref q_1, .ref q_3, .int 0, .int 0, .ref q_5, .ref q_7, .ref q_9, .int 0, .ref q_11, .ref q_13, .ref q_15, .ref q_17, .int 1, .ref q_19, .ref q_21, .int 0, .int 0, .ref q_23, .ref q_24, .ref q_26, .ref q_28, .ref q_30, .ref q_32, .null, .int 0, .int 0, .int 0, .int 0, .null, .null, .null, .null, .null, .null, .int 0, .null, .null, .null, .null, .int 0, .null, .null])), (q_1, .inl (cA_2, 60, .inl (fun _ => 0))), (q_3, .inl (cA_4, 60, .inr (.inr (.inr (.inr (fun _ => none)))))), (q_5, .inl (cA_6, 5, .inl (fun _ => 0))), (q_19, .inl (cA_20, 3, .inl (fun _ => 0))), (q_21, .inl (cA_22, 3, .inl (fun _ => 0)))] _ := hP
  have hD : va_D A [(h0, .inr (1, [.int 0, .int 108, .int 0, .ref q_1, .ref q_3, .int 0, .int 0, .ref q_5, .ref q_7, .ref q_9, .int 0, .ref q_11, .ref q_13, .ref q_15, .ref q_17, .int 1, .ref q_19, .ref q_21, .int 0, .int 0, .ref q_23, .ref q_24, .ref q_26, .ref q_28, .ref q_30, .ref q_32, .null, .int 0, .int 0, .int 0, .int 0, .null, .null, .null, .null, .null, .null, .int 0, .null, .null, .null, .null, .int 0, .null, .null])), (q_1, .inl (cA_2, 60, .inl (fun _ => 0))), (q_3, .inl (cA_4, 60, .inr (.inr (.inr (.inr (fun _ => none)))))), (q_5, .inl (cA_6, 5, .inl (fun _ => 0))), (q_19, .inl (cA_20, 3, .inl (fun _ => 0))), (q_21, .inl (cA_22, 3, .inl (fun _ => 0)))] := hD
  refine lv_aload_n hx hb dX13_init_159 rfl (lv_at hl 0 rfl) ?_
  refine lv_bipush (v := 60) hx hb dX13_init_160 (by decide) ?_
  refine lv_bipush (v := 60) hx hb dX13_init_162 (by decide) ?_
  refine pv_mna (own := RX13) (nm := "[[I") (ty := .int) (N' := 60) (K' := 60) hx hb hown (hg w8_200 rfl) (by decide +kernel) (hE.2.2.2.2 _ (by simp [pv_ot])) (hg w1_74 rfl) hP hD hS hA (by decide) (by decide) (by decide +kernel) (by decide +kernel) (Nat.le_of_ble_eq_true rfl) (by decide +kernel) (Nat.le_of_ble_eq_true rfl) rfl rfl (Nat.le_of_ble_eq_true rfl) (Nat.le_of_ble_eq_true rfl) dX13_init_164 (fun q_33 H hP hD hS => ?_)
  refine W.widen (k := 97) (n := 94458) (Nat.le_of_ble_eq_true rfl) (Nat.le_of_ble_eq_true rfl) ?_
  refine va_putF (own := RX13) (D := D) (ci := 1) (v := .ref q_33) (ty := .array (.array .int)) (C := RX13) (T := TX13) (N := 45) hx hb hts inF13 tyX13 tyX13_ok nmX13 hown hK hP hD hS 0 rfl rfl 26 (by decide) (hg w8_231 rfl) (fun _ h9 => h9) rfl hin rfl (by decide +kernel) rfl rfl (Nat.le_of_ble_eq_true rfl) dX13_init_168 (fun H locs hP hD hS => ?_)
  have hP : va_P D pv_cl [(h0, .inr (1, [.int 0, .int 108, .int 0, .ref q_1, .ref q_3, .int 0, .int 0, .ref q_5, .ref q_7, .ref q_9, .int 0, .ref q_11, .ref q_13, .ref q_15, .ref q_17, .int 1, .ref q_19, .ref q_21, .int 0, .int 0, .ref q_23, .ref q_24, .ref q_26, .ref q_28, .ref q_30, .ref q_32, .ref q_33, .int 0, .int 0, .int 0, .int 0, .null, .null, .null, .null, .null, .null, .int 0, .null, .null, .null, .null, .int 0, .null, .null])), (q_1, .inl (cA_2, 60, .inl (fun _ => 0))), (q_3, .inl (cA_4, 60, .inr (.inr (.inr (.inr (fun _ => none)))))), (q_5, .inl (cA_6, 5, .inl (fun _ => 0))), (q_19, .inl (cA_20, 3, .inl (fun _ => 0))), (q_21, .inl (cA_22, 3, .inl (fun _ => 0)))] _ := hP
  have hD : va_D A [(h0, .inr (1, [.int 0, .int 108, .int 0, .ref q_1, .ref q_3, .int 0, .int 0, .ref q_5, .ref q_7, .ref q_9, .int 0, .ref q_11, .ref q_13, .ref q_15, .ref q_17, .int 1, .ref q_19, .ref q_21, .int 0, .int 0, .ref q_23, .ref q_24, .ref q_26, .ref q_28, .ref q_30, .ref q_32, .ref q_33, .int 0, .int 0, .int 0, .int 0, .null, .null, .null, .null, .null, .null, .int 0, .null, .null, .null, .null, .int 0, .null, .null])), (q_1, .inl (cA_2, 60, .inl (fun _ => 0))), (q_3, .inl (cA_4, 60, .inr (.inr (.inr (.inr (fun _ => none)))))), (q_5, .inl (cA_6, 5, .inl (fun _ => 0))), (q_19, .inl (cA_20, 3, .inl (fun _ => 0))), (q_21, .inl (cA_22, 3, .inl (fun _ => 0)))] := hD
  refine pv_pc 171 rfl ?_
  refine lv_aload_n hx hb dX13_init_171 rfl (lv_at hl 0 rfl) ?_
  refine lv_iconst (v := (-1)) hx hb dX13_init_172 (by decide) ?_
  refine va_put (own := RX13) (D := D) (ci := 1) (v := .int (-1)) (ty := .int) (C := RX13) (T := TX13) (N := 45) hx hb hts inF13 tyX13 tyX13_ok nmX13 hown hK hP hD hS 0 rfl rfl 27 (by decide) (hg w8_232 rfl) (fun _ h9 => h9) rfl (by decide +kernel) rfl rfl (Nat.le_of_ble_eq_true rfl) dX13_init_173 (fun H locs hP hD hS => ?_)
  have hP : va_P D pv_cl [(h0, .inr (1, [.int 0, .int 108, .int 0, .ref q_1, .ref q_3, .int 0, .int 0, .ref q_5, .ref q_7, .ref q_9, .int 0, .ref q_11, .ref q_13, .ref q_15, .ref q_17, .int 1, .ref q_19, .ref q_21, .int 0, .int 0, .ref q_23, .ref q_24, .ref q_26, .ref q_28, .ref q_30, .ref q_32, .ref q_33, .int (-1), .int 0, .int 0, .int 0, .null, .null, .null, .null, .null, .null, .int 0, .null, .null, .null, .null, .int 0, .null, .null])), (q_1, .inl (cA_2, 60, .inl (fun _ => 0))), (q_3, .inl (cA_4, 60, .inr (.inr (.inr (.inr (fun _ => none)))))), (q_5, .inl (cA_6, 5, .inl (fun _ => 0))), (q_19, .inl (cA_20, 3, .inl (fun _ => 0))), (q_21, .inl (cA_22, 3, .inl (fun _ => 0)))] _ := hP
  have hD : va_D A [(h0, .inr (1, [.int 0, .int 108, .int 0, .ref q_1, .ref q_3, .int 0, .int 0, .ref q_5, .ref q_7, .ref q_9, .int 0, .ref q_11, .ref q_13, .ref q_15, .ref q_17, .int 1, .ref q_19, .ref q_21, .int 0, .int 0, .ref q_23, .ref q_24, .ref q_26, .ref q_28, .ref q_30, .ref q_32, .ref q_33, .int (-1), .int 0, .int 0, .int 0, .null, .null, .null, .null, .null, .null, .int 0, .null, .null, .null, .null, .int 0, .null, .null])), (q_1, .inl (cA_2, 60, .inl (fun _ => 0))), (q_3, .inl (cA_4, 60, .inr (.inr (.inr (.inr (fun _ => none)))))), (q_5, .inl (cA_6, 5, .inl (fun _ => 0))), (q_19, .inl (cA_20, 3, .inl (fun _ => 0))), (q_21, .inl (cA_22, 3, .inl (fun _ => 0)))] := hD
  refine lv_aload_n hx hb dX13_init_176 rfl (lv_at hl 0 rfl) ?_
  refine lv_sipush (v := 201) hx hb dX13_init_177 (by decide) ?_
  refine va_newa (atype := .int) hx hb (hg w1_74 rfl) (ty := .int) rfl hK hP hD hS hA (a0 := (201, .inl (fun _ => 0))) (fun _ => rfl) (by decide) (by decide +kernel) (Nat.le_of_ble_eq_true rfl) (Nat.le_of_ble_eq_true rfl) (Nat.le_of_ble_eq_true rfl) dX13_init_180 (fun q_34 cA_35 H hK hP hD hS => ?_)
  have hP : va_P D pv_cl [(h0, .inr (1, [.int 0, .int 108, .int 0, .ref q_1, .ref q_3, .int 0, .int 0, .ref q_5, .ref q_7, .ref q_9, .int 0, .ref q_11, .ref q_13, .ref q_15, .ref q_17, .int 1, .ref q_19, .ref q_21, .int 0, .int 0, .ref q_23, .ref q_24, .ref q_26, .ref q_28, .ref q_30, .ref q_32, .ref q_33, .int (-1), .int 0, .int 0, .int 0, .null, .null, .null, .null, .null, .null, .int 0, .null, .null, .null, .null, .int 0, .null, .null])), (q_1, .inl (cA_2, 60, .inl (fun _ => 0))), (q_3, .inl (cA_4, 60, .inr (.inr (.inr (.inr (fun _ => none)))))), (q_5, .inl (cA_6, 5, .inl (fun _ => 0))), (q_19, .inl (cA_20, 3, .inl (fun _ => 0))), (q_21, .inl (cA_22, 3, .inl (fun _ => 0))), (q_34, .inl (cA_35, 201, .inl (fun _ => 0)))] _ := hP
  have hD : va_D A [(h0, .inr (1, [.int 0, .int 108, .int 0, .ref q_1, .ref q_3, .int 0, .int 0, .ref q_5, .ref q_7, .ref q_9, .int 0, .ref q_11, .ref q_13, .ref q_15, .ref q_17, .int 1, .ref q_19, .ref q_21, .int 0, .int 0, .ref q_23, .ref q_24, .ref q_26, .ref q_28, .ref q_30, .ref q_32, .ref q_33, .int (-1), .int 0, .int 0, .int 0, .null, .null, .null, .null, .null, .null, .int 0, .null, .null, .null, .null, .int 0, .null, .null])), (q_1, .inl (cA_2, 60, .inl (fun _ => 0))), (q_3, .inl (cA_4, 60, .inr (.inr (.inr (.inr (fun _ => none)))))), (q_5, .inl (cA_6, 5, .inl (fun _ => 0))), (q_19, .inl (cA_20, 3, .inl (fun _ => 0))), (q_21, .inl (cA_22, 3, .inl (fun _ => 0))), (q_34, .inl (cA_35, 201, .inl (fun _ => 0)))] := hD
  have hK : va_K D pv_cl [(cA_2, .int), (cA_4, .object "PolyforgeModel$Terms"), (cA_6, .int), (cA_20, .char), (cA_22, .int), (cA_35, .int)] s := hK
  refine W.widen (k := 98) (n := 94659) (Nat.le_of_ble_eq_true rfl) (Nat.le_of_ble_eq_true rfl) ?_
  refine va_putF (own := RX13) (D := D) (ci := 1) (v := .ref q_34) (ty := .array .int) (C := RX13) (T := TX13) (N := 45) hx hb hts inF13 tyX13 tyX13_ok nmX13 hown hK hP hD hS 0 rfl rfl 31 (by decide) (hg w8_236 rfl) (fun _ h9 => h9) rfl hin rfl (by decide +kernel) rfl rfl (Nat.le_of_ble_eq_true rfl) dX13_init_182 (fun H locs hP hD hS => ?_)
  have hP : va_P D pv_cl [(h0, .inr (1, [.int 0, .int 108, .int 0, .ref q_1, .ref q_3, .int 0, .int 0, .ref q_5, .ref q_7, .ref q_9, .int 0, .ref q_11, .ref q_13, .ref q_15, .ref q_17, .int 1, .ref q_19, .ref q_21, .int 0, .int 0, .ref q_23, .ref q_24, .ref q_26, .ref q_28, .ref q_30, .ref q_32, .ref q_33, .int (-1), .int 0, .int 0, .int 0, .ref q_34, .null, .null, .null, .null, .null, .int 0, .null, .null, .null, .null, .int 0, .null, .null])), (q_1, .inl (cA_2, 60, .inl (fun _ => 0))), (q_3, .inl (cA_4, 60, .inr (.inr (.inr (.inr (fun _ => none)))))), (q_5, .inl (cA_6, 5, .inl (fun _ => 0))), (q_19, .inl (cA_20, 3, .inl (fun _ => 0))), (q_21, .inl (cA_22, 3, .inl (fun _ => 0))), (q_34, .inl (cA_35, 201, .inl (fun _ => 0)))] _ := hP
  have hD : va_D A [(h0, .inr (1, [.int 0, .int 108, .int 0, .ref q_1, .ref q_3, .int 0, .int 0, .ref q_5, .ref q_7, .ref q_9, .int 0, .ref q_11, .ref q_13, .ref q_15, .ref q_17, .int 1, .ref q_19, .ref q_21, .int 0, .int 0, .ref q_23, .ref q_24, .ref q_26, .ref q_28, .ref q_30, .ref q_32, .ref q_33, .int (-1), .int 0, .int 0, .int 0, .ref q_34, .null, .null, .null, .null, .null, .int 0, .null, .null, .null, .null, .int 0, .null, .null])), (q_1, .inl (cA_2, 60, .inl (fun _ => 0))), (q_3, .inl (cA_4, 60, .inr (.inr (.inr (.inr (fun _ => none)))))), (q_5, .inl (cA_6, 5, .inl (fun _ => 0))), (q_19, .inl (cA_20, 3, .inl (fun _ => 0))), (q_21, .inl (cA_22, 3, .inl (fun _ => 0))), (q_34, .inl (cA_35, 201, .inl (fun _ => 0)))] := hD
  have hP : va_P D pv_cl [(h0, .inr (1, [.int 0, .int 108, .int 0, .ref q_1, .ref q_3, .int 0, .int 0, .ref q_5, .ref q_7, .ref q_9, .int 0, .ref q_11, .ref q_13, .ref q_15, .ref q_17, .int 1, .ref q_19, .ref q_21, .int 0, .int 0, .ref q_23, .ref q_24, .ref q_26, .ref q_28, .ref q_30, .ref q_32, .ref q_33, .int (-1), .int 0, .int 0, .int 0, .ref q_34, .null, .null, .null, .null, .null, .int 0, .null, .null, .null, .null, .int 0, .null, .null])), (q_1, .inl (cA_2, 60, .inl (fun _ => 0))), (q_3, .inl (cA_4, 60, .inr (.inr (.inr (.inr (fun _ => none)))))), (q_5, .inl (cA_6, 5, .inl (fun _ => 0))), (q_19, .inl (cA_20, 3, .inl (fun _ => 0))), (q_21, .inl (cA_22, 3, .inl (fun _ => 0)))] _ := hP.sub [0, 1, 2, 3, 4, 5] rfl
  have hD : va_D A [(h0, .inr (1, [.int 0, .int 108, .int 0, .ref q_1, .ref q_3, .int 0, .int 0, .ref q_5, .ref q_7, .ref q_9, .int 0, .ref q_11, .ref q_13, .ref q_15, .ref q_17, .int 1, .ref q_19, .ref q_21, .int 0, .int 0, .ref q_23, .ref q_24, .ref q_26, .ref q_28, .ref q_30, .ref q_32, .ref q_33, .int (-1), .int 0, .int 0, .int 0, .ref q_34, .null, .null, .null, .null, .null, .int 0, .null, .null, .null, .null, .int 0, .null, .null])), (q_1, .inl (cA_2, 60, .inl (fun _ => 0))), (q_3, .inl (cA_4, 60, .inr (.inr (.inr (.inr (fun _ => none)))))), (q_5, .inl (cA_6, 5, .inl (fun _ => 0))), (q_19, .inl (cA_20, 3, .inl (fun _ => 0))), (q_21, .inl (cA_22, 3, .inl (fun _ => 0)))] := hD.sub [0, 1, 2, 3, 4, 5] (by decide) rfl
  have hK : va_K D pv_cl [(cA_2, .int), (cA_4, .object "PolyforgeModel$Terms"), (cA_6, .int), (cA_20, .char), (cA_22, .int)] s := hK.sub [0, 1, 2, 3, 4] rfl
  refine lv_aload_n hx hb dX13_init_185 rfl (lv_at hl 0 rfl) ?_
  refine lv_ldc (own := RX13) (v := 60000) hx hb hown (hg w8_202 rfl) dX13_init_186 ?_
  refine va_newa (atype := .int) hx hb (hg w1_74 rfl) (ty := .int) rfl hK hP hD hS hA (a0 := (60000, .inl (fun _ => 0))) (fun _ => rfl) (by decide) (by decide +kernel) (Nat.le_of_ble_eq_true rfl) (Nat.le_of_ble_eq_true rfl) (Nat.le_of_ble_eq_true rfl) dX13_init_188 (fun q_36 cA_37 H hK hP hD hS => ?_)
  have hP : va_P D pv_cl [(h0, .inr (1, [.int 0, .int 108, .int 0, .ref q_1, .ref q_3, .int 0, .int 0, .ref q_5, .ref q_7, .ref q_9, .int 0, .ref q_11, .ref q_13, .ref q_15, .ref q_17, .int 1, .ref q_19, .ref q_21, .int 0, .int 0, .ref q_23, .ref q_24, .ref q_26, .ref q_28, .ref q_30, .ref q_32, .ref q_33, .int (-1), .int 0, .int 0, .int 0, .ref q_34, .null, .null, .null, .null, .null, .int 0, .null, .null, .null, .null, .int 0, .null, .null])), (q_1, .inl (cA_2, 60, .inl (fun _ => 0))), (q_3, .inl (cA_4, 60, .inr (.inr (.inr (.inr (fun _ => none)))))), (q_5, .inl (cA_6, 5, .inl (fun _ => 0))), (q_19, .inl (cA_20, 3, .inl (fun _ => 0))), (q_21, .inl (cA_22, 3, .inl (fun _ => 0))), (q_36, .inl (cA_37, 60000, .inl (fun _ => 0)))] _ := hP
  have hD : va_D A [(h0, .inr (1, [.int 0, .int 108, .int 0, .ref q_1, .ref q_3, .int 0, .int 0, .ref q_5, .ref q_7, .ref q_9, .int 0, .ref q_11, .ref q_13, .ref q_15, .ref q_17, .int 1, .ref q_19, .ref q_21, .int 0, .int 0, .ref q_23, .ref q_24, .ref q_26, .ref q_28, .ref q_30, .ref q_32, .ref q_33, .int (-1), .int 0, .int 0, .int 0, .ref q_34, .null, .null, .null, .null, .null, .int 0, .null, .null, .null, .null, .int 0, .null, .null])), (q_1, .inl (cA_2, 60, .inl (fun _ => 0))), (q_3, .inl (cA_4, 60, .inr (.inr (.inr (.inr (fun _ => none)))))), (q_5, .inl (cA_6, 5, .inl (fun _ => 0))), (q_19, .inl (cA_20, 3, .inl (fun _ => 0))), (q_21, .inl (cA_22, 3, .inl (fun _ => 0))), (q_36, .inl (cA_37, 60000, .inl (fun _ => 0)))] := hD
  have hK : va_K D pv_cl [(cA_2, .int), (cA_4, .object "PolyforgeModel$Terms"), (cA_6, .int), (cA_20, .char), (cA_22, .int), (cA_37, .int)] s := hK
  refine W.widen (k := 99) (n := 154659) (Nat.le_of_ble_eq_true rfl) (Nat.le_of_ble_eq_true rfl) ?_
  refine va_putF (own := RX13) (D := D) (ci := 1) (v := .ref q_36) (ty := .array .int) (C := RX13) (T := TX13) (N := 45) hx hb hts inF13 tyX13 tyX13_ok nmX13 hown hK hP hD hS 0 rfl rfl 32 (by decide) (hg w8_237 rfl) (fun _ h9 => h9) rfl hin rfl (by decide +kernel) rfl rfl (Nat.le_of_ble_eq_true rfl) dX13_init_190 (fun H locs hP hD hS => ?_)
  have hP : va_P D pv_cl [(h0, .inr (1, [.int 0, .int 108, .int 0, .ref q_1, .ref q_3, .int 0, .int 0, .ref q_5, .ref q_7, .ref q_9, .int 0, .ref q_11, .ref q_13, .ref q_15, .ref q_17, .int 1, .ref q_19, .ref q_21, .int 0, .int 0, .ref q_23, .ref q_24, .ref q_26, .ref q_28, .ref q_30, .ref q_32, .ref q_33, .int (-1), .int 0, .int 0, .int 0, .ref q_34, .ref q_36, .null, .null, .null, .null, .int 0, .null, .null, .null, .null, .int 0, .null, .null])), (q_1, .inl (cA_2, 60, .inl (fun _ => 0))), (q_3, .inl (cA_4, 60, .inr (.inr (.inr (.inr (fun _ => none)))))), (q_5, .inl (cA_6, 5, .inl (fun _ => 0))), (q_19, .inl (cA_20, 3, .inl (fun _ => 0))), (q_21, .inl (cA_22, 3, .inl (fun _ => 0))), (q_36, .inl (cA_37, 60000, .inl (fun _ => 0)))] _ := hP
  have hD : va_D A [(h0, .inr (1, [.int 0, .int 108, .int 0, .ref q_1, .ref q_3, .int 0, .int 0, .ref q_5, .ref q_7, .ref q_9, .int 0, .ref q_11, .ref q_13, .ref q_15, .ref q_17, .int 1, .ref q_19, .ref q_21, .int 0, .int 0, .ref q_23, .ref q_24, .ref q_26, .ref q_28, .ref q_30, .ref q_32, .ref q_33, .int (-1), .int 0, .int 0, .int 0, .ref q_34, .ref q_36, .null, .null, .null, .null, .int 0, .null, .null, .null, .null, .int 0, .null, .null])), (q_1, .inl (cA_2, 60, .inl (fun _ => 0))), (q_3, .inl (cA_4, 60, .inr (.inr (.inr (.inr (fun _ => none)))))), (q_5, .inl (cA_6, 5, .inl (fun _ => 0))), (q_19, .inl (cA_20, 3, .inl (fun _ => 0))), (q_21, .inl (cA_22, 3, .inl (fun _ => 0))), (q_36, .inl (cA_37, 60000, .inl (fun _ => 0)))] := hD
  have hP : va_P D pv_cl [(h0, .inr (1, [.int 0, .int 108, .int 0, .ref q_1, .ref q_3, .int 0, .int 0, .ref q_5, .ref q_7, .ref q_9, .int 0, .ref q_11, .ref q_13, .ref q_15, .ref q_17, .int 1, .ref q_19, .ref q_21, .int 0, .int 0, .ref q_23, .ref q_24, .ref q_26, .ref q_28, .ref q_30, .ref q_32, .ref q_33, .int (-1), .int 0, .int 0, .int 0, .ref q_34, .ref q_36, .null, .null, .null, .null, .int 0, .null, .null, .null, .null, .int 0, .null, .null])), (q_1, .inl (cA_2, 60, .inl (fun _ => 0))), (q_3, .inl (cA_4, 60, .inr (.inr (.inr (.inr (fun _ => none)))))), (q_5, .inl (cA_6, 5, .inl (fun _ => 0))), (q_19, .inl (cA_20, 3, .inl (fun _ => 0))), (q_21, .inl (cA_22, 3, .inl (fun _ => 0)))] _ := hP.sub [0, 1, 2, 3, 4, 5] rfl
  have hD : va_D A [(h0, .inr (1, [.int 0, .int 108, .int 0, .ref q_1, .ref q_3, .int 0, .int 0, .ref q_5, .ref q_7, .ref q_9, .int 0, .ref q_11, .ref q_13, .ref q_15, .ref q_17, .int 1, .ref q_19, .ref q_21, .int 0, .int 0, .ref q_23, .ref q_24, .ref q_26, .ref q_28, .ref q_30, .ref q_32, .ref q_33, .int (-1), .int 0, .int 0, .int 0, .ref q_34, .ref q_36, .null, .null, .null, .null, .int 0, .null, .null, .null, .null, .int 0, .null, .null])), (q_1, .inl (cA_2, 60, .inl (fun _ => 0))), (q_3, .inl (cA_4, 60, .inr (.inr (.inr (.inr (fun _ => none)))))), (q_5, .inl (cA_6, 5, .inl (fun _ => 0))), (q_19, .inl (cA_20, 3, .inl (fun _ => 0))), (q_21, .inl (cA_22, 3, .inl (fun _ => 0)))] := hD.sub [0, 1, 2, 3, 4, 5] (by decide) rfl
  have hK : va_K D pv_cl [(cA_2, .int), (cA_4, .object "PolyforgeModel$Terms"), (cA_6, .int), (cA_20, .char), (cA_22, .int)] s := hK.sub [0, 1, 2, 3, 4] rfl
  refine lv_aload_n hx hb dX13_init_193 rfl (lv_at hl 0 rfl) ?_
  refine pv_pc 194 rfl ?_
  refine lv_ldc (own := RX13) (v := 60000) hx hb hown (hg w8_202 rfl) dX13_init_194 ?_
  refine va_newa (atype := .int) hx hb (hg w1_74 rfl) (ty := .int) rfl hK hP hD hS hA (a0 := (60000, .inl (fun _ => 0))) (fun _ => rfl) (by decide) (by decide +kernel) (Nat.le_of_ble_eq_true rfl) (Nat.le_of_ble_eq_true rfl) (Nat.le_of_ble_eq_true rfl) dX13_init_196 (fun q_38 cA_39 H hK hP hD hS => ?_)
  have hP : va_P D pv_cl [(h0, .inr (1, [.int 0, .int 108, .int 0, .ref q_1, .ref q_3, .int 0, .int 0, .ref q_5, .ref q_7, .ref q_9, .int 0, .ref q_11, .ref q_13, .ref q_15, .ref q_17, .int 1, .ref q_19, .ref q_21, .int 0, .int 0, .ref q_23, .ref q_24, .ref q_26, .ref q_28, .ref q_30, .ref q_32, .ref q_33, .int (-1), .int 0, .int 0, .int 0, .ref q_34, .ref q_36, .null, .null, .null, .null, .int 0, .null, .null, .null, .null, .int 0, .null, .null])), (q_1, .inl (cA_2, 60, .inl (fun _ => 0))), (q_3, .inl (cA_4, 60, .inr (.inr (.inr (.inr (fun _ => none)))))), (q_5, .inl (cA_6, 5, .inl (fun _ => 0))), (q_19, .inl (cA_20, 3, .inl (fun _ => 0))), (q_21, .inl (cA_22, 3, .inl (fun _ => 0))), (q_38, .inl (cA_39, 60000, .inl (fun _ => 0)))] _ := hP
  have hD : va_D A [(h0, .inr (1, [.int 0, .int 108, .int 0, .ref q_1, .ref q_3, .int 0, .int 0, .ref q_5, .ref q_7, .ref q_9, .int 0, .ref q_11, .ref q_13, .ref q_15, .ref q_17, .int 1, .ref q_19, .ref q_21, .int 0, .int 0, .ref q_23, .ref q_24, .ref q_26, .ref q_28, .ref q_30, .ref q_32, .ref q_33, .int (-1), .int 0, .int 0, .int 0, .ref q_34, .ref q_36, .null, .null, .null, .null, .int 0, .null, .null, .null, .null, .int 0, .null, .null])), (q_1, .inl (cA_2, 60, .inl (fun _ => 0))), (q_3, .inl (cA_4, 60, .inr (.inr (.inr (.inr (fun _ => none)))))), (q_5, .inl (cA_6, 5, .inl (fun _ => 0))), (q_19, .inl (cA_20, 3, .inl (fun _ => 0))), (q_21, .inl (cA_22, 3, .inl (fun _ => 0))), (q_38, .inl (cA_39, 60000, .inl (fun _ => 0)))] := hD
  have hK : va_K D pv_cl [(cA_2, .int), (cA_4, .object "PolyforgeModel$Terms"), (cA_6, .int), (cA_20, .char), (cA_22, .int), (cA_39, .int)] s := hK
  refine W.widen (k := 100) (n := 214659) (Nat.le_of_ble_eq_true rfl) (Nat.le_of_ble_eq_true rfl) ?_
  refine va_putF (own := RX13) (D := D) (ci := 1) (v := .ref q_38) (ty := .array .int) (C := RX13) (T := TX13) (N := 45) hx hb hts inF13 tyX13 tyX13_ok nmX13 hown hK hP hD hS 0 rfl rfl 33 (by decide) (hg w8_238 rfl) (fun _ h9 => h9) rfl hin rfl (by decide +kernel) rfl rfl (Nat.le_of_ble_eq_true rfl) dX13_init_198 (fun H locs hP hD hS => ?_)
  have hP : va_P D pv_cl [(h0, .inr (1, [.int 0, .int 108, .int 0, .ref q_1, .ref q_3, .int 0, .int 0, .ref q_5, .ref q_7, .ref q_9, .int 0, .ref q_11, .ref q_13, .ref q_15, .ref q_17, .int 1, .ref q_19, .ref q_21, .int 0, .int 0, .ref q_23, .ref q_24, .ref q_26, .ref q_28, .ref q_30, .ref q_32, .ref q_33, .int (-1), .int 0, .int 0, .int 0, .ref q_34, .ref q_36, .ref q_38, .null, .null, .null, .int 0, .null, .null, .null, .null, .int 0, .null, .null])), (q_1, .inl (cA_2, 60, .inl (fun _ => 0))), (q_3, .inl (cA_4, 60, .inr (.inr (.inr (.inr (fun _ => none)))))), (q_5, .inl (cA_6, 5, .inl (fun _ => 0))), (q_19, .inl (cA_20, 3, .inl (fun _ => 0))), (q_21, .inl (cA_22, 3, .inl (fun _ => 0))), (q_38, .inl (cA_39, 60000, .inl (fun _ => 0)))] _ := hP
  have hD : va_D A [(h0, .inr (1, [.int 0, .int 108, .int 0, .ref q_1, .ref q_3, .int 0, .int 0, .ref q_5, .ref q_7, .ref q_9, .int 0, .ref q_11, .ref q_13, .ref q_15, .ref q_17, .int 1, .ref q_19, .ref q_21, .int 0, .int 0, .ref q_23, .ref q_24, .ref q_26, .ref q_28, .ref q_30, .ref q_32, .ref q_33, .int (-1), .int 0, .int 0, .int 0, .ref q_34, .ref q_36, .ref q_38, .null, .null, .null, .int 0, .null, .null, .null, .null, .int 0, .null, .null])), (q_1, .inl (cA_2, 60, .inl (fun _ => 0))), (q_3, .inl (cA_4, 60, .inr (.inr (.inr (.inr (fun _ => none)))))), (q_5, .inl (cA_6, 5, .inl (fun _ => 0))), (q_19, .inl (cA_20, 3, .inl (fun _ => 0))), (q_21, .inl (cA_22, 3, .inl (fun _ => 0))), (q_38, .inl (cA_39, 60000, .inl (fun _ => 0)))] := hD
  have hP : va_P D pv_cl [(h0, .inr (1, [.int 0, .int 108, .int 0, .ref q_1, .ref q_3, .int 0, .int 0, .ref q_5, .ref q_7, .ref q_9, .int 0, .ref q_11, .ref q_13, .ref q_15, .ref q_17, .int 1, .ref q_19, .ref q_21, .int 0, .int 0, .ref q_23, .ref q_24, .ref q_26, .ref q_28, .ref q_30, .ref q_32, .ref q_33, .int (-1), .int 0, .int 0, .int 0, .ref q_34, .ref q_36, .ref q_38, .null, .null, .null, .int 0, .null, .null, .null, .null, .int 0, .null, .null])), (q_1, .inl (cA_2, 60, .inl (fun _ => 0))), (q_3, .inl (cA_4, 60, .inr (.inr (.inr (.inr (fun _ => none)))))), (q_5, .inl (cA_6, 5, .inl (fun _ => 0))), (q_19, .inl (cA_20, 3, .inl (fun _ => 0))), (q_21, .inl (cA_22, 3, .inl (fun _ => 0)))] _ := hP.sub [0, 1, 2, 3, 4, 5] rfl
  have hD : va_D A [(h0, .inr (1, [.int 0, .int 108, .int 0, .ref q_1, .ref q_3, .int 0, .int 0, .ref q_5, .ref q_7, .ref q_9, .int 0, .ref q_11, .ref q_13, .ref q_15, .ref q_17, .int 1, .ref q_19, .ref q_21, .int 0, .int 0, .ref q_23, .ref q_24, .ref q_26, .ref q_28, .ref q_30, .ref q_32, .ref q_33, .int (-1), .int 0, .int 0, .int 0, .ref q_34, .ref q_36, .ref q_38, .null, .null, .null, .int 0, .null, .null, .null, .null, .int 0, .null, .null])), (q_1, .inl (cA_2, 60, .inl (fun _ => 0))), (q_3, .inl (cA_4, 60, .inr (.inr (.inr (.inr (fun _ => none)))))), (q_5, .inl (cA_6, 5, .inl (fun _ => 0))), (q_19, .inl (cA_20, 3, .inl (fun _ => 0))), (q_21, .inl (cA_22, 3, .inl (fun _ => 0)))] := hD.sub [0, 1, 2, 3, 4, 5] (by decide) rfl
  have hK : va_K D pv_cl [(cA_2, .int), (cA_4, .object "PolyforgeModel$Terms"), (cA_6, .int), (cA_20, .char), (cA_22, .int)] s := hK.sub [0, 1, 2, 3, 4] rfl
  refine lv_aload_n hx hb dX13_init_201 rfl (lv_at hl 0 rfl) ?_
  refine lv_sipush (v := 200) hx hb dX13_init_202 (by decide) ?_
  refine va_newa (atype := .boolean) hx hb (hg w9_101 rfl) (ty := .boolean) rfl hK hP hD hS hA (a0 := (200, .inl (fun _ => 0))) (fun _ => rfl) (by decide) (by decide +kernel) (Nat.le_of_ble_eq_true rfl) (Nat.le_of_ble_eq_true rfl) (Nat.le_of_ble_eq_true rfl) dX13_init_205 (fun q_40 cA_41 H hK hP hD hS => ?_)
  have hP : va_P D pv_cl [(h0, .inr (1, [.int 0, .int 108, .int 0, .ref q_1, .ref q_3, .int 0, .int 0, .ref q_5, .ref q_7, .ref q_9, .int 0, .ref q_11, .ref q_13, .ref q_15, .ref q_17, .int 1, .ref q_19, .ref q_21, .int 0, .int 0, .ref q_23, .ref q_24, .ref q_26, .ref q_28, .ref q_30, .ref q_32, .ref q_33, .int (-1), .int 0, .int 0, .int 0, .ref q_34, .ref q_36, .ref q_38, .null, .null, .null, .int 0, .null, .null, .null, .null, .int 0, .null, .null])), (q_1, .inl (cA_2, 60, .inl (fun _ => 0))), (q_3, .inl (cA_4, 60, .inr (.inr (.inr (.inr (fun _ => none)))))), (q_5, .inl (cA_6, 5, .inl (fun _ => 0))), (q_19, .inl (cA_20, 3, .inl (fun _ => 0))), (q_21, .inl (cA_22, 3, .inl (fun _ => 0))), (q_40, .inl (cA_41, 200, .inl (fun _ => 0)))] _ := hP
  have hD : va_D A [(h0, .inr (1, [.int 0, .int 108, .int 0, .ref q_1, .ref q_3, .int 0, .int 0, .ref q_5, .ref q_7, .ref q_9, .int 0, .ref q_11, .ref q_13, .ref q_15, .ref q_17, .int 1, .ref q_19, .ref q_21, .int 0, .int 0, .ref q_23, .ref q_24, .ref q_26, .ref q_28, .ref q_30, .ref q_32, .ref q_33, .int (-1), .int 0, .int 0, .int 0, .ref q_34, .ref q_36, .ref q_38, .null, .null, .null, .int 0, .null, .null, .null, .null, .int 0, .null, .null])), (q_1, .inl (cA_2, 60, .inl (fun _ => 0))), (q_3, .inl (cA_4, 60, .inr (.inr (.inr (.inr (fun _ => none)))))), (q_5, .inl (cA_6, 5, .inl (fun _ => 0))), (q_19, .inl (cA_20, 3, .inl (fun _ => 0))), (q_21, .inl (cA_22, 3, .inl (fun _ => 0))), (q_40, .inl (cA_41, 200, .inl (fun _ => 0)))] := hD
  have hK : va_K D pv_cl [(cA_2, .int), (cA_4, .object "PolyforgeModel$Terms"), (cA_6, .int), (cA_20, .char), (cA_22, .int), (cA_41, .boolean)] s := hK
  refine W.widen (k := 101) (n := 214859) (Nat.le_of_ble_eq_true rfl) (Nat.le_of_ble_eq_true rfl) ?_
  refine va_putF (own := RX13) (D := D) (ci := 1) (v := .ref q_40) (ty := .array .boolean) (C := RX13) (T := TX13) (N := 45) hx hb hts inF13 tyX13 tyX13_ok nmX13 hown hK hP hD hS 0 rfl rfl 34 (by decide) (hg w8_239 rfl) (fun _ h9 => h9) rfl hin rfl (by decide +kernel) rfl rfl (Nat.le_of_ble_eq_true rfl) dX13_init_207 (fun H locs hP hD hS => ?_)
  have hP : va_P D pv_cl [(h0, .inr (1, [.int 0, .int 108, .int 0, .ref q_1, .ref q_3, .int 0, .int 0, .ref q_5, .ref q_7, .ref q_9, .int 0, .ref q_11, .ref q_13, .ref q_15, .ref q_17, .int 1, .ref q_19, .ref q_21, .int 0, .int 0, .ref q_23, .ref q_24, .ref q_26, .ref q_28, .ref q_30, .ref q_32, .ref q_33, .int (-1), .int 0, .int 0, .int 0, .ref q_34, .ref q_36, .ref q_38, .ref q_40, .null, .null, .int 0, .null, .null, .null, .null, .int 0, .null, .null])), (q_1, .inl (cA_2, 60, .inl (fun _ => 0))), (q_3, .inl (cA_4, 60, .inr (.inr (.inr (.inr (fun _ => none)))))), (q_5, .inl (cA_6, 5, .inl (fun _ => 0))), (q_19, .inl (cA_20, 3, .inl (fun _ => 0))), (q_21, .inl (cA_22, 3, .inl (fun _ => 0))), (q_40, .inl (cA_41, 200, .inl (fun _ => 0)))] _ := hP
  have hD : va_D A [(h0, .inr (1, [.int 0, .int 108, .int 0, .ref q_1, .ref q_3, .int 0, .int 0, .ref q_5, .ref q_7, .ref q_9, .int 0, .ref q_11, .ref q_13, .ref q_15, .ref q_17, .int 1, .ref q_19, .ref q_21, .int 0, .int 0, .ref q_23, .ref q_24, .ref q_26, .ref q_28, .ref q_30, .ref q_32, .ref q_33, .int (-1), .int 0, .int 0, .int 0, .ref q_34, .ref q_36, .ref q_38, .ref q_40, .null, .null, .int 0, .null, .null, .null, .null, .int 0, .null, .null])), (q_1, .inl (cA_2, 60, .inl (fun _ => 0))), (q_3, .inl (cA_4, 60, .inr (.inr (.inr (.inr (fun _ => none)))))), (q_5, .inl (cA_6, 5, .inl (fun _ => 0))), (q_19, .inl (cA_20, 3, .inl (fun _ => 0))), (q_21, .inl (cA_22, 3, .inl (fun _ => 0))), (q_40, .inl (cA_41, 200, .inl (fun _ => 0)))] := hD
  have hP : va_P D pv_cl [(h0, .inr (1, [.int 0, .int 108, .int 0, .ref q_1, .ref q_3, .int 0, .int 0, .ref q_5, .ref q_7, .ref q_9, .int 0, .ref q_11, .ref q_13, .ref q_15, .ref q_17, .int 1, .ref q_19, .ref q_21, .int 0, .int 0, .ref q_23, .ref q_24, .ref q_26, .ref q_28, .ref q_30, .ref q_32, .ref q_33, .int (-1), .int 0, .int 0, .int 0, .ref q_34, .ref q_36, .ref q_38, .ref q_40, .null, .null, .int 0, .null, .null, .null, .null, .int 0, .null, .null])), (q_1, .inl (cA_2, 60, .inl (fun _ => 0))), (q_3, .inl (cA_4, 60, .inr (.inr (.inr (.inr (fun _ => none)))))), (q_5, .inl (cA_6, 5, .inl (fun _ => 0))), (q_19, .inl (cA_20, 3, .inl (fun _ => 0))), (q_21, .inl (cA_22, 3, .inl (fun _ => 0)))] _ := hP.sub [0, 1, 2, 3, 4, 5] rfl
  have hD : va_D A [(h0, .inr (1, [.int 0, .int 108, .int 0, .ref q_1, .ref q_3, .int 0, .int 0, .ref q_5, .ref q_7, .ref q_9, .int 0, .ref q_11, .ref q_13, .ref q_15, .ref q_17, .int 1, .ref q_19, .ref q_21, .int 0, .int 0, .ref q_23, .ref q_24, .ref q_26, .ref q_28, .ref q_30, .ref q_32, .ref q_33, .int (-1), .int 0, .int 0, .int 0, .ref q_34, .ref q_36, .ref q_38, .ref q_40, .null, .null, .int 0, .null, .null, .null, .null, .int 0, .null, .null])), (q_1, .inl (cA_2, 60, .inl (fun _ => 0))), (q_3, .inl (cA_4, 60, .inr (.inr (.inr (.inr (fun _ => none)))))), (q_5, .inl (cA_6, 5, .inl (fun _ => 0))), (q_19, .inl (cA_20, 3, .inl (fun _ => 0))), (q_21, .inl (cA_22, 3, .inl (fun _ => 0)))] := hD.sub [0, 1, 2, 3, 4, 5] (by decide) rfl
  have hK : va_K D pv_cl [(cA_2, .int), (cA_4, .object "PolyforgeModel$Terms"), (cA_6, .int), (cA_20, .char), (cA_22, .int)] s := hK.sub [0, 1, 2, 3, 4] rfl
  refine lv_aload_n hx hb dX13_init_210 rfl (lv_at hl 0 rfl) ?_
  refine lv_sipush (v := 201) hx hb dX13_init_211 (by decide) ?_
  refine va_newa (atype := .int) hx hb (hg w1_74 rfl) (ty := .int) rfl hK hP hD hS hA (a0 := (201, .inl (fun _ => 0))) (fun _ => rfl) (by decide) (by decide +kernel) (Nat.le_of_ble_eq_true rfl) (Nat.le_of_ble_eq_true rfl) (Nat.le_of_ble_eq_true rfl) dX13_init_214 (fun q_42 cA_43 H hK hP hD hS => ?_)
  have hP : va_P D pv_cl [(h0, .inr (1, [.int 0, .int 108, .int 0, .ref q_1, .ref q_3, .int 0, .int 0, .ref q_5, .ref q_7, .ref q_9, .int 0, .ref q_11, .ref q_13, .ref q_15, .ref q_17, .int 1, .ref q_19, .ref q_21, .int 0, .int 0, .ref q_23, .ref q_24, .ref q_26, .ref q_28, .ref q_30, .ref q_32, .ref q_33, .int (-1), .int 0, .int 0, .int 0, .ref q_34, .ref q_36, .ref q_38, .ref q_40, .null, .null, .int 0, .null, .null, .null, .null, .int 0, .null, .null])), (q_1, .inl (cA_2, 60, .inl (fun _ => 0))), (q_3, .inl (cA_4, 60, .inr (.inr (.inr (.inr (fun _ => none)))))), (q_5, .inl (cA_6, 5, .inl (fun _ => 0))), (q_19, .inl (cA_20, 3, .inl (fun _ => 0))), (q_21, .inl (cA_22, 3, .inl (fun _ => 0))), (q_42, .inl (cA_43, 201, .inl (fun _ => 0)))] _ := hP
  have hD : va_D A [(h0, .inr (1, [.int 0, .int 108, .int 0, .ref q_1, .ref q_3, .int 0, .int 0, .ref q_5, .ref q_7, .ref q_9, .int 0, .ref q_11, .ref q_13, .ref q_15, .ref q_17, .int 1, .ref q_19, .ref q_21, .int 0, .int 0, .ref q_23, .ref q_24, .ref q_26, .ref q_28, .ref q_30, .ref q_32, .ref q_33, .int (-1), .int 0, .int 0, .int 0, .ref q_34, .ref q_36, .ref q_38, .ref q_40, .null, .null, .int 0, .null, .null, .null, .null, .int 0, .null, .null])), (q_1, .inl (cA_2, 60, .inl (fun _ => 0))), (q_3, .inl (cA_4, 60, .inr (.inr (.inr (.inr (fun _ => none)))))), (q_5, .inl (cA_6, 5, .inl (fun _ => 0))), (q_19, .inl (cA_20, 3, .inl (fun _ => 0))), (q_21, .inl (cA_22, 3, .inl (fun _ => 0))), (q_42, .inl (cA_43, 201, .inl (fun _ => 0)))] := hD
  have hK : va_K D pv_cl [(cA_2, .int), (cA_4, .object "PolyforgeModel$Terms"), (cA_6, .int), (cA_20, .char), (cA_22, .int), (cA_43, .int)] s := hK
  refine W.widen (k := 102) (n := 215060) (Nat.le_of_ble_eq_true rfl) (Nat.le_of_ble_eq_true rfl) ?_
  refine va_putF (own := RX13) (D := D) (ci := 1) (v := .ref q_42) (ty := .array .int) (C := RX13) (T := TX13) (N := 45) hx hb hts inF13 tyX13 tyX13_ok nmX13 hown hK hP hD hS 0 rfl rfl 35 (by decide) (hg w9_0 rfl) (fun _ h9 => h9) rfl hin rfl (by decide +kernel) rfl rfl (Nat.le_of_ble_eq_true rfl) dX13_init_216 (fun H locs hP hD hS => ?_)
  have hP : va_P D pv_cl [(h0, .inr (1, [.int 0, .int 108, .int 0, .ref q_1, .ref q_3, .int 0, .int 0, .ref q_5, .ref q_7, .ref q_9, .int 0, .ref q_11, .ref q_13, .ref q_15, .ref q_17, .int 1, .ref q_19, .ref q_21, .int 0, .int 0, .ref q_23, .ref q_24, .ref q_26, .ref q_28, .ref q_30, .ref q_32, .ref q_33, .int (-1), .int 0, .int 0, .int 0, .ref q_34, .ref q_36, .ref q_38, .ref q_40, .ref q_42, .null, .int 0, .null, .null, .null, .null, .int 0, .null, .null])), (q_1, .inl (cA_2, 60, .inl (fun _ => 0))), (q_3, .inl (cA_4, 60, .inr (.inr (.inr (.inr (fun _ => none)))))), (q_5, .inl (cA_6, 5, .inl (fun _ => 0))), (q_19, .inl (cA_20, 3, .inl (fun _ => 0))), (q_21, .inl (cA_22, 3, .inl (fun _ => 0))), (q_42, .inl (cA_43, 201, .inl (fun _ => 0)))] _ := hP
  have hD : va_D A [(h0, .inr (1, [.int 0, .int 108, .int 0, .ref q_1, .ref q_3, .int 0, .int 0, .ref q_5, .ref q_7, .ref q_9, .int 0, .ref q_11, .ref q_13, .ref q_15, .ref q_17, .int 1, .ref q_19, .ref q_21, .int 0, .int 0, .ref q_23, .ref q_24, .ref q_26, .ref q_28, .ref q_30, .ref q_32, .ref q_33, .int (-1), .int 0, .int 0, .int 0, .ref q_34, .ref q_36, .ref q_38, .ref q_40, .ref q_42, .null, .int 0, .null, .null, .null, .null, .int 0, .null, .null])), (q_1, .inl (cA_2, 60, .inl (fun _ => 0))), (q_3, .inl (cA_4, 60, .inr (.inr (.inr (.inr (fun _ => none)))))), (q_5, .inl (cA_6, 5, .inl (fun _ => 0))), (q_19, .inl (cA_20, 3, .inl (fun _ => 0))), (q_21, .inl (cA_22, 3, .inl (fun _ => 0))), (q_42, .inl (cA_43, 201, .inl (fun _ => 0)))] := hD
  have hP : va_P D pv_cl [(h0, .inr (1, [.int 0, .int 108, .int 0, .ref q_1, .ref q_3, .int 0, .int 0, .ref q_5, .ref q_7, .ref q_9, .int 0, .ref q_11, .ref q_13, .ref q_15, .ref q_17, .int 1, .ref q_19, .ref q_21, .int 0, .int 0, .ref q_23, .ref q_24, .ref q_26, .ref q_28, .ref q_30, .ref q_32, .ref q_33, .int (-1), .int 0, .int 0, .int 0, .ref q_34, .ref q_36, .ref q_38, .ref q_40, .ref q_42, .null, .int 0, .null, .null, .null, .null, .int 0, .null, .null])), (q_1, .inl (cA_2, 60, .inl (fun _ => 0))), (q_3, .inl (cA_4, 60, .inr (.inr (.inr (.inr (fun _ => none)))))), (q_5, .inl (cA_6, 5, .inl (fun _ => 0))), (q_19, .inl (cA_20, 3, .inl (fun _ => 0))), (q_21, .inl (cA_22, 3, .inl (fun _ => 0)))] _ := hP.sub [0, 1, 2, 3, 4, 5] rfl
  have hD : va_D A [(h0, .inr (1, [.int 0, .int 108, .int 0, .ref q_1, .ref q_3, .int 0, .int 0, .ref q_5, .ref q_7, .ref q_9, .int 0, .ref q_11, .ref q_13, .ref q_15, .ref q_17, .int 1, .ref q_19, .ref q_21, .int 0, .int 0, .ref q_23, .ref q_24, .ref q_26, .ref q_28, .ref q_30, .ref q_32, .ref q_33, .int (-1), .int 0, .int 0, .int 0, .ref q_34, .ref q_36, .ref q_38, .ref q_40, .ref q_42, .null, .int 0, .null, .null, .null, .null, .int 0, .null, .null])), (q_1, .inl (cA_2, 60, .inl (fun _ => 0))), (q_3, .inl (cA_4, 60, .inr (.inr (.inr (.inr (fun _ => none)))))), (q_5, .inl (cA_6, 5, .inl (fun _ => 0))), (q_19, .inl (cA_20, 3, .inl (fun _ => 0))), (q_21, .inl (cA_22, 3, .inl (fun _ => 0)))] := hD.sub [0, 1, 2, 3, 4, 5] (by decide) rfl
  have hK : va_K D pv_cl [(cA_2, .int), (cA_4, .object "PolyforgeModel$Terms"), (cA_6, .int), (cA_20, .char), (cA_22, .int)] s := hK.sub [0, 1, 2, 3, 4] rfl
  refine lv_aload_n hx hb dX13_init_219 rfl (lv_at hl 0 rfl) ?_
  refine pv_pc 220 rfl ?_
  refine lv_sipush (v := 200) hx hb dX13_init_220 (by decide) ?_
  refine lv_sipush (v := 200) hx hb dX13_init_223 (by decide) ?_
  refine pv_mna (own := RX13) (nm := "[[Z") (ty := .boolean) (N' := 200) (K' := 200) hx hb hown (hg w8_203 rfl) (by decide +kernel) (hE.2.2.2.2 _ (by simp [pv_ot])) (hg w9_101 rfl) hP hD hS hA (by decide) (by decide) (by decide +kernel) (by decide +kernel) (Nat.le_of_ble_eq_true rfl) (by decide +kernel) (Nat.le_of_ble_eq_true rfl) rfl rfl (Nat.le_of_ble_eq_true rfl) (Nat.le_of_ble_eq_true rfl) dX13_init_226 (fun q_44 H hP hD hS => ?_)
  refine W.widen (k := 303) (n := 255260) (Nat.le_of_ble_eq_true rfl) (Nat.le_of_ble_eq_true rfl) ?_
  refine va_putF (own := RX13) (D := D) (ci := 1) (v := .ref q_44) (ty := .array (.array .boolean)) (C := RX13) (T := TX13) (N := 45) hx hb hts inF13 tyX13 tyX13_ok nmX13 hown hK hP hD hS 0 rfl rfl 36 (by decide) (hg w9_1 rfl) (fun _ h9 => h9) rfl hin rfl (by decide +kernel) rfl rfl (Nat.le_of_ble_eq_true rfl) dX13_init_230 (fun H locs hP hD hS => ?_)
  have hP : va_P D pv_cl [(h0, .inr (1, [.int 0, .int 108, .int 0, .ref q_1, .ref q_3, .int 0, .int 0, .ref q_5, .ref q_7, .ref q_9, .int 0, .ref q_11, .ref q_13, .ref q_15, .ref q_17, .int 1, .ref q_19, .ref q_21, .int 0, .int 0, .ref q_23, .ref q_24, .ref q_26, .ref q_28, .ref q_30, .ref q_32, .ref q_33, .int (-1), .int 0, .int 0, .int 0, .ref q_34, .ref q_36, .ref q_38, .ref q_40, .ref q_42, .ref q_44, .int 0, .null, .null, .null, .null, .int 0, .null, .null])), (q_1, .inl (cA_2, 60, .inl (fun _ => 0))), (q_3, .inl (cA_4, 60, .inr (.inr (.inr (.inr (fun _ => none)))))), (q_5, .inl (cA_6, 5, .inl (fun _ => 0))), (q_19, .inl (cA_20, 3, .inl (fun _ => 0))), (q_21, .inl (cA_22, 3, .inl (fun _ => 0)))] _ := hP
  have hD : va_D A [(h0, .inr (1, [.int 0, .int 108, .int 0, .ref q_1, .ref q_3, .int 0, .int 0, .ref q_5, .ref q_7, .ref q_9, .int 0, .ref q_11, .ref q_13, .ref q_15, .ref q_17, .int 1, .ref q_19, .ref q_21, .int 0, .int 0, .ref q_23, .ref q_24, .ref q_26, .ref q_28, .ref q_30, .ref q_32, .ref q_33, .int (-1), .int 0, .int 0, .int 0, .ref q_34, .ref q_36, .ref q_38, .ref q_40, .ref q_42, .ref q_44, .int 0, .null, .null, .null, .null, .int 0, .null, .null])), (q_1, .inl (cA_2, 60, .inl (fun _ => 0))), (q_3, .inl (cA_4, 60, .inr (.inr (.inr (.inr (fun _ => none)))))), (q_5, .inl (cA_6, 5, .inl (fun _ => 0))), (q_19, .inl (cA_20, 3, .inl (fun _ => 0))), (q_21, .inl (cA_22, 3, .inl (fun _ => 0)))] := hD
  refine lv_aload_n hx hb dX13_init_233 rfl (lv_at hl 0 rfl) ?_
  refine lv_ldc (own := RX13) (v := 60000) hx hb hown (hg w8_202 rfl) dX13_init_234 ?_
  refine va_newa (atype := .int) hx hb (hg w1_74 rfl) (ty := .int) rfl hK hP hD hS hA (a0 := (60000, .inl (fun _ => 0))) (fun _ => rfl) (by decide) (by decide +kernel) (Nat.le_of_ble_eq_true rfl) (Nat.le_of_ble_eq_true rfl) (Nat.le_of_ble_eq_true rfl) dX13_init_236 (fun q_45 cA_46 H hK hP hD hS => ?_)
  have hP : va_P D pv_cl [(h0, .inr (1, [.int 0, .int 108, .int 0, .ref q_1, .ref q_3, .int 0, .int 0, .ref q_5, .ref q_7, .ref q_9, .int 0, .ref q_11, .ref q_13, .ref q_15, .ref q_17, .int 1, .ref q_19, .ref q_21, .int 0, .int 0, .ref q_23, .ref q_24, .ref q_26, .ref q_28, .ref q_30, .ref q_32, .ref q_33, .int (-1), .int 0, .int 0, .int 0, .ref q_34, .ref q_36, .ref q_38, .ref q_40, .ref q_42, .ref q_44, .int 0, .null, .null, .null, .null, .int 0, .null, .null])), (q_1, .inl (cA_2, 60, .inl (fun _ => 0))), (q_3, .inl (cA_4, 60, .inr (.inr (.inr (.inr (fun _ => none)))))), (q_5, .inl (cA_6, 5, .inl (fun _ => 0))), (q_19, .inl (cA_20, 3, .inl (fun _ => 0))), (q_21, .inl (cA_22, 3, .inl (fun _ => 0))), (q_45, .inl (cA_46, 60000, .inl (fun _ => 0)))] _ := hP
  have hD : va_D A [(h0, .inr (1, [.int 0, .int 108, .int 0, .ref q_1, .ref q_3, .int 0, .int 0, .ref q_5, .ref q_7, .ref q_9, .int 0, .ref q_11, .ref q_13, .ref q_15, .ref q_17, .int 1, .ref q_19, .ref q_21, .int 0, .int 0, .ref q_23, .ref q_24, .ref q_26, .ref q_28, .ref q_30, .ref q_32, .ref q_33, .int (-1), .int 0, .int 0, .int 0, .ref q_34, .ref q_36, .ref q_38, .ref q_40, .ref q_42, .ref q_44, .int 0, .null, .null, .null, .null, .int 0, .null, .null])), (q_1, .inl (cA_2, 60, .inl (fun _ => 0))), (q_3, .inl (cA_4, 60, .inr (.inr (.inr (.inr (fun _ => none)))))), (q_5, .inl (cA_6, 5, .inl (fun _ => 0))), (q_19, .inl (cA_20, 3, .inl (fun _ => 0))), (q_21, .inl (cA_22, 3, .inl (fun _ => 0))), (q_45, .inl (cA_46, 60000, .inl (fun _ => 0)))] := hD
  have hK : va_K D pv_cl [(cA_2, .int), (cA_4, .object "PolyforgeModel$Terms"), (cA_6, .int), (cA_20, .char), (cA_22, .int), (cA_46, .int)] s := hK
  refine W.widen (k := 304) (n := 315260) (Nat.le_of_ble_eq_true rfl) (Nat.le_of_ble_eq_true rfl) ?_
  refine va_put (own := RX13) (D := D) (ci := 1) (v := .ref q_45) (ty := .array .int) (C := RX13) (T := TX13) (N := 45) hx hb hts inF13 tyX13 tyX13_ok nmX13 hown hK hP hD hS 0 rfl rfl 38 (by decide) (hg w9_3 rfl) (fun _ h9 => h9) rfl (by decide +kernel) rfl rfl (Nat.le_of_ble_eq_true rfl) dX13_init_238 (fun H locs hP hD hS => ?_)
  have hP : va_P D pv_cl [(h0, .inr (1, [.int 0, .int 108, .int 0, .ref q_1, .ref q_3, .int 0, .int 0, .ref q_5, .ref q_7, .ref q_9, .int 0, .ref q_11, .ref q_13, .ref q_15, .ref q_17, .int 1, .ref q_19, .ref q_21, .int 0, .int 0, .ref q_23, .ref q_24, .ref q_26, .ref q_28, .ref q_30, .ref q_32, .ref q_33, .int (-1), .int 0, .int 0, .int 0, .ref q_34, .ref q_36, .ref q_38, .ref q_40, .ref q_42, .ref q_44, .int 0, .ref q_45, .null, .null, .null, .int 0, .null, .null])), (q_1, .inl (cA_2, 60, .inl (fun _ => 0))), (q_3, .inl (cA_4, 60, .inr (.inr (.inr (.inr (fun _ => none)))))), (q_5, .inl (cA_6, 5, .inl (fun _ => 0))), (q_19, .inl (cA_20, 3, .inl (fun _ => 0))), (q_21, .inl (cA_22, 3, .inl (fun _ => 0))), (q_45, .inl (cA_46, 60000, .inl (fun _ => 0)))] _ := hP
  have hD : va_D A [(h0, .inr (1, [.int 0, .int 108, .int 0, .ref q_1, .ref q_3, .int 0, .int 0, .ref q_5, .ref q_7, .ref q_9, .int 0, .ref q_11, .ref q_13, .ref q_15, .ref q_17, .int 1, .ref q_19, .ref q_21, .int 0, .int 0, .ref q_23, .ref q_24, .ref q_26, .ref q_28, .ref q_30, .ref q_32, .ref q_33, .int (-1), .int 0, .int 0, .int 0, .ref q_34, .ref q_36, .ref q_38, .ref q_40, .ref q_42, .ref q_44, .int 0, .ref q_45, .null, .null, .null, .int 0, .null, .null])), (q_1, .inl (cA_2, 60, .inl (fun _ => 0))), (q_3, .inl (cA_4, 60, .inr (.inr (.inr (.inr (fun _ => none)))))), (q_5, .inl (cA_6, 5, .inl (fun _ => 0))), (q_19, .inl (cA_20, 3, .inl (fun _ => 0))), (q_21, .inl (cA_22, 3, .inl (fun _ => 0))), (q_45, .inl (cA_46, 60000, .inl (fun _ => 0)))] := hD
  have hP : va_P D pv_cl [(h0, .inr (1, [.int 0, .int 108, .int 0, .ref q_1, .ref q_3, .int 0, .int 0, .ref q_5, .ref q_7, .ref q_9, .int 0, .ref q_11, .ref q_13, .ref q_15, .ref q_17, .int 1, .ref q_19, .ref q_21, .int 0, .int 0, .ref q_23, .ref q_24, .ref q_26, .ref q_28, .ref q_30, .ref q_32, .ref q_33, .int (-1), .int 0, .int 0, .int 0, .ref q_34, .ref q_36, .ref q_38, .ref q_40, .ref q_42, .ref q_44, .int 0, .ref q_45, .null, .null, .null, .int 0, .null, .null])), (q_1, .inl (cA_2, 60, .inl (fun _ => 0))), (q_3, .inl (cA_4, 60, .inr (.inr (.inr (.inr (fun _ => none)))))), (q_5, .inl (cA_6, 5, .inl (fun _ => 0))), (q_19, .inl (cA_20, 3, .inl (fun _ => 0))), (q_21, .inl (cA_22, 3, .inl (fun _ => 0)))] _ := hP.sub [0, 1, 2, 3, 4, 5] rfl
  have hD : va_D A [(h0, .inr (1, [.int 0, .int 108, .int 0, .ref q_1, .ref q_3, .int 0, .int 0, .ref q_5, .ref q_7, .ref q_9, .int 0, .ref q_11, .ref q_13, .ref q_15, .ref q_17, .int 1, .ref q_19, .ref q_21, .int 0, .int 0, .ref q_23, .ref q_24, .ref q_26, .ref q_28, .ref q_30, .ref q_32, .ref q_33, .int (-1), .int 0, .int 0, .int 0, .ref q_34, .ref q_36, .ref q_38, .ref q_40, .ref q_42, .ref q_44, .int 0, .ref q_45, .null, .null, .null, .int 0, .null, .null])), (q_1, .inl (cA_2, 60, .inl (fun _ => 0))), (q_3, .inl (cA_4, 60, .inr (.inr (.inr (.inr (fun _ => none)))))), (q_5, .inl (cA_6, 5, .inl (fun _ => 0))), (q_19, .inl (cA_20, 3, .inl (fun _ => 0))), (q_21, .inl (cA_22, 3, .inl (fun _ => 0)))] := hD.sub [0, 1, 2, 3, 4, 5] (by decide) rfl
  have hK : va_K D pv_cl [(cA_2, .int), (cA_4, .object "PolyforgeModel$Terms"), (cA_6, .int), (cA_20, .char), (cA_22, .int)] s := hK.sub [0, 1, 2, 3, 4] rfl
  refine lv_aload_n hx hb dX13_init_241 rfl (lv_at hl 0 rfl) ?_
  refine lv_ldc (own := RX13) (v := 60000) hx hb hown (hg w8_202 rfl) dX13_init_242 ?_
  refine va_newa (atype := .int) hx hb (hg w1_74 rfl) (ty := .int) rfl hK hP hD hS hA (a0 := (60000, .inl (fun _ => 0))) (fun _ => rfl) (by decide) (by decide +kernel) (Nat.le_of_ble_eq_true rfl) (Nat.le_of_ble_eq_true rfl) (Nat.le_of_ble_eq_true rfl) dX13_init_244 (fun q_47 cA_48 H hK hP hD hS => ?_)
  have hP : va_P D pv_cl [(h0, .inr (1, [.int 0, .int 108, .int 0, .ref q_1, .ref q_3, .int 0, .int 0, .ref q_5, .ref q_7, .ref q_9, .int 0, .ref q_11, .ref q_13, .ref q_15, .ref q_17, .int 1, .ref q_19, .ref q_21, .int 0, .int 0, .ref q_23, .ref q_24, .ref q_26, .ref q_28, .ref q_30, .ref q_32, .ref q_33, .int (-1), .int 0, .int 0, .int 0, .ref q_34, .ref q_36, .ref q_38, .ref q_40, .ref q_42, .ref q_44, .int 0, .ref q_45, .null, .null, .null, .int 0, .null, .null])), (q_1, .inl (cA_2, 60, .inl (fun _ => 0))), (q_3, .inl (cA_4, 60, .inr (.inr (.inr (.inr (fun _ => none)))))), (q_5, .inl (cA_6, 5, .inl (fun _ => 0))), (q_19, .inl (cA_20, 3, .inl (fun _ => 0))), (q_21, .inl (cA_22, 3, .inl (fun _ => 0))), (q_47, .inl (cA_48, 60000, .inl (fun _ => 0)))] _ := hP
  have hD : va_D A [(h0, .inr (1, [.int 0, .int 108, .int 0, .ref q_1, .ref q_3, .int 0, .int 0, .ref q_5, .ref q_7, .ref q_9, .int 0, .ref q_11, .ref q_13, .ref q_15, .ref q_17, .int 1, .ref q_19, .ref q_21, .int 0, .int 0, .ref q_23, .ref q_24, .ref q_26, .ref q_28, .ref q_30, .ref q_32, .ref q_33, .int (-1), .int 0, .int 0, .int 0, .ref q_34, .ref q_36, .ref q_38, .ref q_40, .ref q_42, .ref q_44, .int 0, .ref q_45, .null, .null, .null, .int 0, .null, .null])), (q_1, .inl (cA_2, 60, .inl (fun _ => 0))), (q_3, .inl (cA_4, 60, .inr (.inr (.inr (.inr (fun _ => none)))))), (q_5, .inl (cA_6, 5, .inl (fun _ => 0))), (q_19, .inl (cA_20, 3, .inl (fun _ => 0))), (q_21, .inl (cA_22, 3, .inl (fun _ => 0))), (q_47, .inl (cA_48, 60000, .inl (fun _ => 0)))] := hD
  have hK : va_K D pv_cl [(cA_2, .int), (cA_4, .object "PolyforgeModel$Terms"), (cA_6, .int), (cA_20, .char), (cA_22, .int), (cA_48, .int)] s := hK
  refine W.widen (k := 305) (n := 375260) (Nat.le_of_ble_eq_true rfl) (Nat.le_of_ble_eq_true rfl) ?_
  refine va_put (own := RX13) (D := D) (ci := 1) (v := .ref q_47) (ty := .array .int) (C := RX13) (T := TX13) (N := 45) hx hb hts inF13 tyX13 tyX13_ok nmX13 hown hK hP hD hS 0 rfl rfl 39 (by decide) (hg w9_4 rfl) (fun _ h9 => h9) rfl (by decide +kernel) rfl rfl (Nat.le_of_ble_eq_true rfl) dX13_init_246 (fun H locs hP hD hS => ?_)
  have hP : va_P D pv_cl [(h0, .inr (1, [.int 0, .int 108, .int 0, .ref q_1, .ref q_3, .int 0, .int 0, .ref q_5, .ref q_7, .ref q_9, .int 0, .ref q_11, .ref q_13, .ref q_15, .ref q_17, .int 1, .ref q_19, .ref q_21, .int 0, .int 0, .ref q_23, .ref q_24, .ref q_26, .ref q_28, .ref q_30, .ref q_32, .ref q_33, .int (-1), .int 0, .int 0, .int 0, .ref q_34, .ref q_36, .ref q_38, .ref q_40, .ref q_42, .ref q_44, .int 0, .ref q_45, .ref q_47, .null, .null, .int 0, .null, .null])), (q_1, .inl (cA_2, 60, .inl (fun _ => 0))), (q_3, .inl (cA_4, 60, .inr (.inr (.inr (.inr (fun _ => none)))))), (q_5, .inl (cA_6, 5, .inl (fun _ => 0))), (q_19, .inl (cA_20, 3, .inl (fun _ => 0))), (q_21, .inl (cA_22, 3, .inl (fun _ => 0))), (q_47, .inl (cA_48, 60000, .inl (fun _ => 0)))] _ := hP
  have hD : va_D A [(h0, .inr (1, [.int 0, .int 108, .int 0, .ref q_1, .ref q_3, .int 0, .int 0, .ref q_5, .ref q_7, .ref q_9, .int 0, .ref q_11, .ref q_13, .ref q_15, .ref q_17, .int 1, .ref q_19, .ref q_21, .int 0, .int 0, .ref q_23, .ref q_24, .ref q_26, .ref q_28, .ref q_30, .ref q_32, .ref q_33, .int (-1), .int 0, .int 0, .int 0, .ref q_34, .ref q_36, .ref q_38, .ref q_40, .ref q_42, .ref q_44, .int 0, .ref q_45, .ref q_47, .null, .null, .int 0, .null, .null])), (q_1, .inl (cA_2, 60, .inl (fun _ => 0))), (q_3, .inl (cA_4, 60, .inr (.inr (.inr (.inr (fun _ => none)))))), (q_5, .inl (cA_6, 5, .inl (fun _ => 0))), (q_19, .inl (cA_20, 3, .inl (fun _ => 0))), (q_21, .inl (cA_22, 3, .inl (fun _ => 0))), (q_47, .inl (cA_48, 60000, .inl (fun _ => 0)))] := hD
  have hP : va_P D pv_cl [(h0, .inr (1, [.int 0, .int 108, .int 0, .ref q_1, .ref q_3, .int 0, .int 0, .ref q_5, .ref q_7, .ref q_9, .int 0, .ref q_11, .ref q_13, .ref q_15, .ref q_17, .int 1, .ref q_19, .ref q_21, .int 0, .int 0, .ref q_23, .ref q_24, .ref q_26, .ref q_28, .ref q_30, .ref q_32, .ref q_33, .int (-1), .int 0, .int 0, .int 0, .ref q_34, .ref q_36, .ref q_38, .ref q_40, .ref q_42, .ref q_44, .int 0, .ref q_45, .ref q_47, .null, .null, .int 0, .null, .null])), (q_1, .inl (cA_2, 60, .inl (fun _ => 0))), (q_3, .inl (cA_4, 60, .inr (.inr (.inr (.inr (fun _ => none)))))), (q_5, .inl (cA_6, 5, .inl (fun _ => 0))), (q_19, .inl (cA_20, 3, .inl (fun _ => 0))), (q_21, .inl (cA_22, 3, .inl (fun _ => 0)))] _ := hP.sub [0, 1, 2, 3, 4, 5] rfl
  have hD : va_D A [(h0, .inr (1, [.int 0, .int 108, .int 0, .ref q_1, .ref q_3, .int 0, .int 0, .ref q_5, .ref q_7, .ref q_9, .int 0, .ref q_11, .ref q_13, .ref q_15, .ref q_17, .int 1, .ref q_19, .ref q_21, .int 0, .int 0, .ref q_23, .ref q_24, .ref q_26, .ref q_28, .ref q_30, .ref q_32, .ref q_33, .int (-1), .int 0, .int 0, .int 0, .ref q_34, .ref q_36, .ref q_38, .ref q_40, .ref q_42, .ref q_44, .int 0, .ref q_45, .ref q_47, .null, .null, .int 0, .null, .null])), (q_1, .inl (cA_2, 60, .inl (fun _ => 0))), (q_3, .inl (cA_4, 60, .inr (.inr (.inr (.inr (fun _ => none)))))), (q_5, .inl (cA_6, 5, .inl (fun _ => 0))), (q_19, .inl (cA_20, 3, .inl (fun _ => 0))), (q_21, .inl (cA_22, 3, .inl (fun _ => 0)))] := hD.sub [0, 1, 2, 3, 4, 5] (by decide) rfl
  have hK : va_K D pv_cl [(cA_2, .int), (cA_4, .object "PolyforgeModel$Terms"), (cA_6, .int), (cA_20, .char), (cA_22, .int)] s := hK.sub [0, 1, 2, 3, 4] rfl
  refine pv_pc 249 rfl ?_
  refine lv_aload_n hx hb dX13_init_249 rfl (lv_at hl 0 rfl) ?_
  refine lv_ldc (own := RX13) (v := 60000) hx hb hown (hg w8_202 rfl) dX13_init_250 ?_
  refine va_newa (atype := .int) hx hb (hg w1_74 rfl) (ty := .int) rfl hK hP hD hS hA (a0 := (60000, .inl (fun _ => 0))) (fun _ => rfl) (by decide) (by decide +kernel) (Nat.le_of_ble_eq_true rfl) (Nat.le_of_ble_eq_true rfl) (Nat.le_of_ble_eq_true rfl) dX13_init_252 (fun q_49 cA_50 H hK hP hD hS => ?_)
  have hP : va_P D pv_cl [(h0, .inr (1, [.int 0, .int 108, .int 0, .ref q_1, .ref q_3, .int 0, .int 0, .ref q_5, .ref q_7, .ref q_9, .int 0, .ref q_11, .ref q_13, .ref q_15, .ref q_17, .int 1, .ref q_19, .ref q_21, .int 0, .int 0, .ref q_23, .ref q_24, .ref q_26, .ref q_28, .ref q_30, .ref q_32, .ref q_33, .int (-1), .int 0, .int 0, .int 0, .ref q_34, .ref q_36, .ref q_38, .ref q_40, .ref q_42, .ref q_44, .int 0, .ref q_45, .ref q_47, .null, .null, .int 0, .null, .null])), (q_1, .inl (cA_2, 60, .inl (fun _ => 0))), (q_3, .inl (cA_4, 60, .inr (.inr (.inr (.inr (fun _ => none)))))), (q_5, .inl (cA_6, 5, .inl (fun _ => 0))), (q_19, .inl (cA_20, 3, .inl (fun _ => 0))), (q_21, .inl (cA_22, 3, .inl (fun _ => 0))), (q_49, .inl (cA_50, 60000, .inl (fun _ => 0)))] _ := hP
  have hD : va_D A [(h0, .inr (1, [.int 0, .int 108, .int 0, .ref q_1, .ref q_3, .int 0, .int 0, .ref q_5, .ref q_7, .ref q_9, .int 0, .ref q_11, .ref q_13, .ref q_15, .ref q_17, .int 1, .ref q_19, .ref q_21, .int 0, .int 0, .ref q_23, .ref q_24, .ref q_26, .ref q_28, .ref q_30, .ref q_32, .ref q_33, .int (-1), .int 0, .int 0, .int 0, .ref q_34, .ref q_36, .ref q_38, .ref q_40, .ref q_42, .ref q_44, .int 0, .ref q_45, .ref q_47, .null, .null, .int 0, .null, .null])), (q_1, .inl (cA_2, 60, .inl (fun _ => 0))), (q_3, .inl (cA_4, 60, .inr (.inr (.inr (.inr (fun _ => none)))))), (q_5, .inl (cA_6, 5, .inl (fun _ => 0))), (q_19, .inl (cA_20, 3, .inl (fun _ => 0))), (q_21, .inl (cA_22, 3, .inl (fun _ => 0))), (q_49, .inl (cA_50, 60000, .inl (fun _ => 0)))] := hD
  have hK : va_K D pv_cl [(cA_2, .int), (cA_4, .object "PolyforgeModel$Terms"), (cA_6, .int), (cA_20, .char), (cA_22, .int), (cA_50, .int)] s := hK
  refine W.widen (k := 306) (n := 435260) (Nat.le_of_ble_eq_true rfl) (Nat.le_of_ble_eq_true rfl) ?_
  refine va_put (own := RX13) (D := D) (ci := 1) (v := .ref q_49) (ty := .array .int) (C := RX13) (T := TX13) (N := 45) hx hb hts inF13 tyX13 tyX13_ok nmX13 hown hK hP hD hS 0 rfl rfl 40 (by decide) (hg w9_5 rfl) (fun _ h9 => h9) rfl (by decide +kernel) rfl rfl (Nat.le_of_ble_eq_true rfl) dX13_init_254 (fun H locs hP hD hS => ?_)
  have hP : va_P D pv_cl [(h0, .inr (1, [.int 0, .int 108, .int 0, .ref q_1, .ref q_3, .int 0, .int 0, .ref q_5, .ref q_7, .ref q_9, .int 0, .ref q_11, .ref q_13, .ref q_15, .ref q_17, .int 1, .ref q_19, .ref q_21, .int 0, .int 0, .ref q_23, .ref q_24, .ref q_26, .ref q_28, .ref q_30, .ref q_32, .ref q_33, .int (-1), .int 0, .int 0, .int 0, .ref q_34, .ref q_36, .ref q_38, .ref q_40, .ref q_42, .ref q_44, .int 0, .ref q_45, .ref q_47, .ref q_49, .null, .int 0, .null, .null])), (q_1, .inl (cA_2, 60, .inl (fun _ => 0))), (q_3, .inl (cA_4, 60, .inr (.inr (.inr (.inr (fun _ => none)))))), (q_5, .inl (cA_6, 5, .inl (fun _ => 0))), (q_19, .inl (cA_20, 3, .inl (fun _ => 0))), (q_21, .inl (cA_22, 3, .inl (fun _ => 0))), (q_49, .inl (cA_50, 60000, .inl (fun _ => 0)))] _ := hP
  have hD : va_D A [(h0, .inr (1, [.int 0, .int 108, .int 0, .ref q_1, .ref q_3, .int 0, .int 0, .ref q_5, .ref q_7, .ref q_9, .int 0, .ref q_11, .ref q_13, .ref q_15, .ref q_17, .int 1, .ref q_19, .ref q_21, .int 0, .int 0, .ref q_23, .ref q_24, .ref q_26, .ref q_28, .ref q_30, .ref q_32, .ref q_33, .int (-1), .int 0, .int 0, .int 0, .ref q_34, .ref q_36, .ref q_38, .ref q_40, .ref q_42, .ref q_44, .int 0, .ref q_45, .ref q_47, .ref q_49, .null, .int 0, .null, .null])), (q_1, .inl (cA_2, 60, .inl (fun _ => 0))), (q_3, .inl (cA_4, 60, .inr (.inr (.inr (.inr (fun _ => none)))))), (q_5, .inl (cA_6, 5, .inl (fun _ => 0))), (q_19, .inl (cA_20, 3, .inl (fun _ => 0))), (q_21, .inl (cA_22, 3, .inl (fun _ => 0))), (q_49, .inl (cA_50, 60000, .inl (fun _ => 0)))] := hD
  have hP : va_P D pv_cl [(h0, .inr (1, [.int 0, .int 108, .int 0, .ref q_1, .ref q_3, .int 0, .int 0, .ref q_5, .ref q_7, .ref q_9, .int 0, .ref q_11, .ref q_13, .ref q_15, .ref q_17, .int 1, .ref q_19, .ref q_21, .int 0, .int 0, .ref q_23, .ref q_24, .ref q_26, .ref q_28, .ref q_30, .ref q_32, .ref q_33, .int (-1), .int 0, .int 0, .int 0, .ref q_34, .ref q_36, .ref q_38, .ref q_40, .ref q_42, .ref q_44, .int 0, .ref q_45, .ref q_47, .ref q_49, .null, .int 0, .null, .null])), (q_1, .inl (cA_2, 60, .inl (fun _ => 0))), (q_3, .inl (cA_4, 60, .inr (.inr (.inr (.inr (fun _ => none)))))), (q_5, .inl (cA_6, 5, .inl (fun _ => 0))), (q_19, .inl (cA_20, 3, .inl (fun _ => 0))), (q_21, .inl (cA_22, 3, .inl (fun _ => 0)))] _ := hP.sub [0, 1, 2, 3, 4, 5] rfl
  have hD : va_D A [(h0, .inr (1, [.int 0, .int 108, .int 0, .ref q_1, .ref q_3, .int 0, .int 0, .ref q_5, .ref q_7, .ref q_9, .int 0, .ref q_11, .ref q_13, .ref q_15, .ref q_17, .int 1, .ref q_19, .ref q_21, .int 0, .int 0, .ref q_23, .ref q_24, .ref q_26, .ref q_28, .ref q_30, .ref q_32, .ref q_33, .int (-1), .int 0, .int 0, .int 0, .ref q_34, .ref q_36, .ref q_38, .ref q_40, .ref q_42, .ref q_44, .int 0, .ref q_45, .ref q_47, .ref q_49, .null, .int 0, .null, .null])), (q_1, .inl (cA_2, 60, .inl (fun _ => 0))), (q_3, .inl (cA_4, 60, .inr (.inr (.inr (.inr (fun _ => none)))))), (q_5, .inl (cA_6, 5, .inl (fun _ => 0))), (q_19, .inl (cA_20, 3, .inl (fun _ => 0))), (q_21, .inl (cA_22, 3, .inl (fun _ => 0)))] := hD.sub [0, 1, 2, 3, 4, 5] (by decide) rfl
  have hK : va_K D pv_cl [(cA_2, .int), (cA_4, .object "PolyforgeModel$Terms"), (cA_6, .int), (cA_20, .char), (cA_22, .int)] s := hK.sub [0, 1, 2, 3, 4] rfl
  refine lv_aload_n hx hb dX13_init_257 rfl (lv_at hl 0 rfl) ?_
  refine lv_ldc (own := RX13) (v := 60000) hx hb hown (hg w8_202 rfl) dX13_init_258 ?_
  refine va_newa (atype := .int) hx hb (hg w1_74 rfl) (ty := .int) rfl hK hP hD hS hA (a0 := (60000, .inl (fun _ => 0))) (fun _ => rfl) (by decide) (by decide +kernel) (Nat.le_of_ble_eq_true rfl) (Nat.le_of_ble_eq_true rfl) (Nat.le_of_ble_eq_true rfl) dX13_init_260 (fun q_51 cA_52 H hK hP hD hS => ?_)
  have hP : va_P D pv_cl [(h0, .inr (1, [.int 0, .int 108, .int 0, .ref q_1, .ref q_3, .int 0, .int 0, .ref q_5, .ref q_7, .ref q_9, .int 0, .ref q_11, .ref q_13, .ref q_15, .ref q_17, .int 1, .ref q_19, .ref q_21, .int 0, .int 0, .ref q_23, .ref q_24, .ref q_26, .ref q_28, .ref q_30, .ref q_32, .ref q_33, .int (-1), .int 0, .int 0, .int 0, .ref q_34, .ref q_36, .ref q_38, .ref q_40, .ref q_42, .ref q_44, .int 0, .ref q_45, .ref q_47, .ref q_49, .null, .int 0, .null, .null])), (q_1, .inl (cA_2, 60, .inl (fun _ => 0))), (q_3, .inl (cA_4, 60, .inr (.inr (.inr (.inr (fun _ => none)))))), (q_5, .inl (cA_6, 5, .inl (fun _ => 0))), (q_19, .inl (cA_20, 3, .inl (fun _ => 0))), (q_21, .inl (cA_22, 3, .inl (fun _ => 0))), (q_51, .inl (cA_52, 60000, .inl (fun _ => 0)))] _ := hP
  have hD : va_D A [(h0, .inr (1, [.int 0, .int 108, .int 0, .ref q_1, .ref q_3, .int 0, .int 0, .ref q_5, .ref q_7, .ref q_9, .int 0, .ref q_11, .ref q_13, .ref q_15, .ref q_17, .int 1, .ref q_19, .ref q_21, .int 0, .int 0, .ref q_23, .ref q_24, .ref q_26, .ref q_28, .ref q_30, .ref q_32, .ref q_33, .int (-1), .int 0, .int 0, .int 0, .ref q_34, .ref q_36, .ref q_38, .ref q_40, .ref q_42, .ref q_44, .int 0, .ref q_45, .ref q_47, .ref q_49, .null, .int 0, .null, .null])), (q_1, .inl (cA_2, 60, .inl (fun _ => 0))), (q_3, .inl (cA_4, 60, .inr (.inr (.inr (.inr (fun _ => none)))))), (q_5, .inl (cA_6, 5, .inl (fun _ => 0))), (q_19, .inl (cA_20, 3, .inl (fun _ => 0))), (q_21, .inl (cA_22, 3, .inl (fun _ => 0))), (q_51, .inl (cA_52, 60000, .inl (fun _ => 0)))] := hD
  have hK : va_K D pv_cl [(cA_2, .int), (cA_4, .object "PolyforgeModel$Terms"), (cA_6, .int), (cA_20, .char), (cA_22, .int), (cA_52, .int)] s := hK
  refine W.widen (k := 307) (n := 495260) (Nat.le_of_ble_eq_true rfl) (Nat.le_of_ble_eq_true rfl) ?_
  refine va_put (own := RX13) (D := D) (ci := 1) (v := .ref q_51) (ty := .array .int) (C := RX13) (T := TX13) (N := 45) hx hb hts inF13 tyX13 tyX13_ok nmX13 hown hK hP hD hS 0 rfl rfl 41 (by decide) (hg w9_6 rfl) (fun _ h9 => h9) rfl (by decide +kernel) rfl rfl (Nat.le_of_ble_eq_true rfl) dX13_init_262 (fun H locs hP hD hS => ?_)
  have hP : va_P D pv_cl [(h0, .inr (1, [.int 0, .int 108, .int 0, .ref q_1, .ref q_3, .int 0, .int 0, .ref q_5, .ref q_7, .ref q_9, .int 0, .ref q_11, .ref q_13, .ref q_15, .ref q_17, .int 1, .ref q_19, .ref q_21, .int 0, .int 0, .ref q_23, .ref q_24, .ref q_26, .ref q_28, .ref q_30, .ref q_32, .ref q_33, .int (-1), .int 0, .int 0, .int 0, .ref q_34, .ref q_36, .ref q_38, .ref q_40, .ref q_42, .ref q_44, .int 0, .ref q_45, .ref q_47, .ref q_49, .ref q_51, .int 0, .null, .null])), (q_1, .inl (cA_2, 60, .inl (fun _ => 0))), (q_3, .inl (cA_4, 60, .inr (.inr (.inr (.inr (fun _ => none)))))), (q_5, .inl (cA_6, 5, .inl (fun _ => 0))), (q_19, .inl (cA_20, 3, .inl (fun _ => 0))), (q_21, .inl (cA_22, 3, .inl (fun _ => 0))), (q_51, .inl (cA_52, 60000, .inl (fun _ => 0)))] _ := hP
  have hD : va_D A [(h0, .inr (1, [.int 0, .int 108, .int 0, .ref q_1, .ref q_3, .int 0, .int 0, .ref q_5, .ref q_7, .ref q_9, .int 0, .ref q_11, .ref q_13, .ref q_15, .ref q_17, .int 1, .ref q_19, .ref q_21, .int 0, .int 0, .ref q_23, .ref q_24, .ref q_26, .ref q_28, .ref q_30, .ref q_32, .ref q_33, .int (-1), .int 0, .int 0, .int 0, .ref q_34, .ref q_36, .ref q_38, .ref q_40, .ref q_42, .ref q_44, .int 0, .ref q_45, .ref q_47, .ref q_49, .ref q_51, .int 0, .null, .null])), (q_1, .inl (cA_2, 60, .inl (fun _ => 0))), (q_3, .inl (cA_4, 60, .inr (.inr (.inr (.inr (fun _ => none)))))), (q_5, .inl (cA_6, 5, .inl (fun _ => 0))), (q_19, .inl (cA_20, 3, .inl (fun _ => 0))), (q_21, .inl (cA_22, 3, .inl (fun _ => 0))), (q_51, .inl (cA_52, 60000, .inl (fun _ => 0)))] := hD
  have hP : va_P D pv_cl [(h0, .inr (1, [.int 0, .int 108, .int 0, .ref q_1, .ref q_3, .int 0, .int 0, .ref q_5, .ref q_7, .ref q_9, .int 0, .ref q_11, .ref q_13, .ref q_15, .ref q_17, .int 1, .ref q_19, .ref q_21, .int 0, .int 0, .ref q_23, .ref q_24, .ref q_26, .ref q_28, .ref q_30, .ref q_32, .ref q_33, .int (-1), .int 0, .int 0, .int 0, .ref q_34, .ref q_36, .ref q_38, .ref q_40, .ref q_42, .ref q_44, .int 0, .ref q_45, .ref q_47, .ref q_49, .ref q_51, .int 0, .null, .null])), (q_1, .inl (cA_2, 60, .inl (fun _ => 0))), (q_3, .inl (cA_4, 60, .inr (.inr (.inr (.inr (fun _ => none)))))), (q_5, .inl (cA_6, 5, .inl (fun _ => 0))), (q_19, .inl (cA_20, 3, .inl (fun _ => 0))), (q_21, .inl (cA_22, 3, .inl (fun _ => 0)))] _ := hP.sub [0, 1, 2, 3, 4, 5] rfl
  have hD : va_D A [(h0, .inr (1, [.int 0, .int 108, .int 0, .ref q_1, .ref q_3, .int 0, .int 0, .ref q_5, .ref q_7, .ref q_9, .int 0, .ref q_11, .ref q_13, .ref q_15, .ref q_17, .int 1, .ref q_19, .ref q_21, .int 0, .int 0, .ref q_23, .ref q_24, .ref q_26, .ref q_28, .ref q_30, .ref q_32, .ref q_33, .int (-1), .int 0, .int 0, .int 0, .ref q_34, .ref q_36, .ref q_38, .ref q_40, .ref q_42, .ref q_44, .int 0, .ref q_45, .ref q_47, .ref q_49, .ref q_51, .int 0, .null, .null])), (q_1, .inl (cA_2, 60, .inl (fun _ => 0))), (q_3, .inl (cA_4, 60, .inr (.inr (.inr (.inr (fun _ => none)))))), (q_5, .inl (cA_6, 5, .inl (fun _ => 0))), (q_19, .inl (cA_20, 3, .inl (fun _ => 0))), (q_21, .inl (cA_22, 3, .inl (fun _ => 0)))] := hD.sub [0, 1, 2, 3, 4, 5] (by decide) rfl
  have hK : va_K D pv_cl [(cA_2, .int), (cA_4, .object "PolyforgeModel$Terms"), (cA_6, .int), (cA_20, .char), (cA_22, .int)] s := hK.sub [0, 1, 2, 3, 4] rfl
  refine lv_aload_n hx hb dX13_init_265 rfl (lv_at hl 0 rfl) ?_
  refine lv_ldc (own := RX13) (v := 60000) hx hb hown (hg w8_202 rfl) dX13_init_266 ?_
  refine va_newa (atype := .int) hx hb (hg w1_74 rfl) (ty := .int) rfl hK hP hD hS hA (a0 := (60000, .inl (fun _ => 0))) (fun _ => rfl) (by decide) (by decide +kernel) (Nat.le_of_ble_eq_true rfl) (Nat.le_of_ble_eq_true rfl) (Nat.le_of_ble_eq_true rfl) dX13_init_268 (fun q_53 cA_54 H hK hP hD hS => ?_)
  have hP : va_P D pv_cl [(h0, .inr (1, [.int 0, .int 108, .int 0, .ref q_1, .ref q_3, .int 0, .int 0, .ref q_5, .ref q_7, .ref q_9, .int 0, .ref q_11, .ref q_13, .ref q_15, .ref q_17, .int 1, .ref q_19, .ref q_21, .int 0, .int 0, .ref q_23, .ref q_24, .ref q_26, .ref q_28, .ref q_30, .ref q_32, .ref q_33, .int (-1), .int 0, .int 0, .int 0, .ref q_34, .ref q_36, .ref q_38, .ref q_40, .ref q_42, .ref q_44, .int 0, .ref q_45, .ref q_47, .ref q_49, .ref q_51, .int 0, .null, .null])), (q_1, .inl (cA_2, 60, .inl (fun _ => 0))), (q_3, .inl (cA_4, 60, .inr (.inr (.inr (.inr (fun _ => none)))))), (q_5, .inl (cA_6, 5, .inl (fun _ => 0))), (q_19, .inl (cA_20, 3, .inl (fun _ => 0))), (q_21, .inl (cA_22, 3, .inl (fun _ => 0))), (q_53, .inl (cA_54, 60000, .inl (fun _ => 0)))] _ := hP
  have hD : va_D A [(h0, .inr (1, [.int 0, .int 108, .int 0, .ref q_1, .ref q_3, .int 0, .int 0, .ref q_5, .ref q_7, .ref q_9, .int 0, .ref q_11, .ref q_13, .ref q_15, .ref q_17, .int 1, .ref q_19, .ref q_21, .int 0, .int 0, .ref q_23, .ref q_24, .ref q_26, .ref q_28, .ref q_30, .ref q_32, .ref q_33, .int (-1), .int 0, .int 0, .int 0, .ref q_34, .ref q_36, .ref q_38, .ref q_40, .ref q_42, .ref q_44, .int 0, .ref q_45, .ref q_47, .ref q_49, .ref q_51, .int 0, .null, .null])), (q_1, .inl (cA_2, 60, .inl (fun _ => 0))), (q_3, .inl (cA_4, 60, .inr (.inr (.inr (.inr (fun _ => none)))))), (q_5, .inl (cA_6, 5, .inl (fun _ => 0))), (q_19, .inl (cA_20, 3, .inl (fun _ => 0))), (q_21, .inl (cA_22, 3, .inl (fun _ => 0))), (q_53, .inl (cA_54, 60000, .inl (fun _ => 0)))] := hD
  have hK : va_K D pv_cl [(cA_2, .int), (cA_4, .object "PolyforgeModel$Terms"), (cA_6, .int), (cA_20, .char), (cA_22, .int), (cA_54, .int)] s := hK
  refine W.widen (k := 308) (n := 555260) (Nat.le_of_ble_eq_true rfl) (Nat.le_of_ble_eq_true rfl) ?_
  refine va_putF (own := RX13) (D := D) (ci := 1) (v := .ref q_53) (ty := .array .int) (C := RX13) (T := TX13) (N := 45) hx hb hts inF13 tyX13 tyX13_ok nmX13 hown hK hP hD hS 0 rfl rfl 43 (by decide) (hg w9_8 rfl) (fun _ h9 => h9) rfl hin rfl (by decide +kernel) rfl rfl (Nat.le_of_ble_eq_true rfl) dX13_init_270 (fun H locs hP hD hS => ?_)
  have hP : va_P D pv_cl [(h0, .inr (1, [.int 0, .int 108, .int 0, .ref q_1, .ref q_3, .int 0, .int 0, .ref q_5, .ref q_7, .ref q_9, .int 0, .ref q_11, .ref q_13, .ref q_15, .ref q_17, .int 1, .ref q_19, .ref q_21, .int 0, .int 0, .ref q_23, .ref q_24, .ref q_26, .ref q_28, .ref q_30, .ref q_32, .ref q_33, .int (-1), .int 0, .int 0, .int 0, .ref q_34, .ref q_36, .ref q_38, .ref q_40, .ref q_42, .ref q_44, .int 0, .ref q_45, .ref q_47, .ref q_49, .ref q_51, .int 0, .ref q_53, .null])), (q_1, .inl (cA_2, 60, .inl (fun _ => 0))), (q_3, .inl (cA_4, 60, .inr (.inr (.inr (.inr (fun _ => none)))))), (q_5, .inl (cA_6, 5, .inl (fun _ => 0))), (q_19, .inl (cA_20, 3, .inl (fun _ => 0))), (q_21, .inl (cA_22, 3, .inl (fun _ => 0))), (q_53, .inl (cA_54, 60000, .inl (fun _ => 0)))] _ := hP
  have hD : va_D A [(h0, .inr (1, [.int 0, .int 108, .int 0, .ref q_1, .ref q_3, .int 0, .int 0, .ref q_5, .ref q_7, .ref q_9, .int 0, .ref q_11, .ref q_13, .ref q_15, .ref q_17, .int 1, .ref q_19, .ref q_21, .int 0, .int 0, .ref q_23, .ref q_24, .ref q_26, .ref q_28, .ref q_30, .ref q_32, .ref q_33, .int (-1), .int 0, .int 0, .int 0, .ref q_34, .ref q_36, .ref q_38, .ref q_40, .ref q_42, .ref q_44, .int 0, .ref q_45, .ref q_47, .ref q_49, .ref q_51, .int 0, .ref q_53, .null])), (q_1, .inl (cA_2, 60, .inl (fun _ => 0))), (q_3, .inl (cA_4, 60, .inr (.inr (.inr (.inr (fun _ => none)))))), (q_5, .inl (cA_6, 5, .inl (fun _ => 0))), (q_19, .inl (cA_20, 3, .inl (fun _ => 0))), (q_21, .inl (cA_22, 3, .inl (fun _ => 0))), (q_53, .inl (cA_54, 60000, .inl (fun _ => 0)))] := hD
  have hP : va_P D pv_cl [(h0, .inr (1, [.int 0, .int 108, .int 0, .ref q_1, .ref q_3, .int 0, .int 0, .ref q_5, .ref q_7, .ref q_9, .int 0, .ref q_11, .ref q_13, .ref q_15, .ref q_17, .int 1, .ref q_19, .ref q_21, .int 0, .int 0, .ref q_23, .ref q_24, .ref q_26, .ref q_28, .ref q_30, .ref q_32, .ref q_33, .int (-1), .int 0, .int 0, .int 0, .ref q_34, .ref q_36, .ref q_38, .ref q_40, .ref q_42, .ref q_44, .int 0, .ref q_45, .ref q_47, .ref q_49, .ref q_51, .int 0, .ref q_53, .null])), (q_1, .inl (cA_2, 60, .inl (fun _ => 0))), (q_3, .inl (cA_4, 60, .inr (.inr (.inr (.inr (fun _ => none)))))), (q_5, .inl (cA_6, 5, .inl (fun _ => 0))), (q_19, .inl (cA_20, 3, .inl (fun _ => 0))), (q_21, .inl (cA_22, 3, .inl (fun _ => 0)))] _ := hP.sub [0, 1, 2, 3, 4, 5] rfl
  have hD : va_D A [(h0, .inr (1, [.int 0, .int 108, .int 0, .ref q_1, .ref q_3, .int 0, .int 0, .ref q_5, .ref q_7, .ref q_9, .int 0, .ref q_11, .ref q_13, .ref q_15, .ref q_17, .int 1, .ref q_19, .ref q_21, .int 0, .int 0, .ref q_23, .ref q_24, .ref q_26, .ref q_28, .ref q_30, .ref q_32, .ref q_33, .int (-1), .int 0, .int 0, .int 0, .ref q_34, .ref q_36, .ref q_38, .ref q_40, .ref q_42, .ref q_44, .int 0, .ref q_45, .ref q_47, .ref q_49, .ref q_51, .int 0, .ref q_53, .null])), (q_1, .inl (cA_2, 60, .inl (fun _ => 0))), (q_3, .inl (cA_4, 60, .inr (.inr (.inr (.inr (fun _ => none)))))), (q_5, .inl (cA_6, 5, .inl (fun _ => 0))), (q_19, .inl (cA_20, 3, .inl (fun _ => 0))), (q_21, .inl (cA_22, 3, .inl (fun _ => 0)))] := hD.sub [0, 1, 2, 3, 4, 5] (by decide) rfl
  have hK : va_K D pv_cl [(cA_2, .int), (cA_4, .object "PolyforgeModel$Terms"), (cA_6, .int), (cA_20, .char), (cA_22, .int)] s := hK.sub [0, 1, 2, 3, 4] rfl
  refine pv_pc 273 rfl ?_
  refine lv_aload_n hx hb dX13_init_273 rfl (lv_at hl 0 rfl) ?_
  refine lv_ldc (own := RX13) (v := 60000) hx hb hown (hg w8_202 rfl) dX13_init_274 ?_
  refine va_newa (atype := .int) hx hb (hg w1_74 rfl) (ty := .int) rfl hK hP hD hS hA (a0 := (60000, .inl (fun _ => 0))) (fun _ => rfl) (by decide) (by decide +kernel) (Nat.le_of_ble_eq_true rfl) (Nat.le_of_ble_eq_true rfl) (Nat.le_of_ble_eq_true rfl) dX13_init_276 (fun q_55 cA_56 H hK hP hD hS => ?_)
  have hP : va_P D pv_cl [(h0, .inr (1, [.int 0, .int 108, .int 0, .ref q_1, .ref q_3, .int 0, .int 0, .ref q_5, .ref q_7, .ref q_9, .int 0, .ref q_11, .ref q_13, .ref q_15, .ref q_17, .int 1, .ref q_19, .ref q_21, .int 0, .int 0, .ref q_23, .ref q_24, .ref q_26, .ref q_28, .ref q_30, .ref q_32, .ref q_33, .int (-1), .int 0, .int 0, .int 0, .ref q_34, .ref q_36, .ref q_38, .ref q_40, .ref q_42, .ref q_44, .int 0, .ref q_45, .ref q_47, .ref q_49, .ref q_51, .int 0, .ref q_53, .null])), (q_1, .inl (cA_2, 60, .inl (fun _ => 0))), (q_3, .inl (cA_4, 60, .inr (.inr (.inr (.inr (fun _ => none)))))), (q_5, .inl (cA_6, 5, .inl (fun _ => 0))), (q_19, .inl (cA_20, 3, .inl (fun _ => 0))), (q_21, .inl (cA_22, 3, .inl (fun _ => 0))), (q_55, .inl (cA_56, 60000, .inl (fun _ => 0)))] _ := hP
  have hD : va_D A [(h0, .inr (1, [.int 0, .int 108, .int 0, .ref q_1, .ref q_3, .int 0, .int 0, .ref q_5, .ref q_7, .ref q_9, .int 0, .ref q_11, .ref q_13, .ref q_15, .ref q_17, .int 1, .ref q_19, .ref q_21, .int 0, .int 0, .ref q_23, .ref q_24, .ref q_26, .ref q_28, .ref q_30, .ref q_32, .ref q_33, .int (-1), .int 0, .int 0, .int 0, .ref q_34, .ref q_36, .ref q_38, .ref q_40, .ref q_42, .ref q_44, .int 0, .ref q_45, .ref q_47, .ref q_49, .ref q_51, .int 0, .ref q_53, .null])), (q_1, .inl (cA_2, 60, .inl (fun _ => 0))), (q_3, .inl (cA_4, 60, .inr (.inr (.inr (.inr (fun _ => none)))))), (q_5, .inl (cA_6, 5, .inl (fun _ => 0))), (q_19, .inl (cA_20, 3, .inl (fun _ => 0))), (q_21, .inl (cA_22, 3, .inl (fun _ => 0))), (q_55, .inl (cA_56, 60000, .inl (fun _ => 0)))] := hD
  have hK : va_K D pv_cl [(cA_2, .int), (cA_4, .object "PolyforgeModel$Terms"), (cA_6, .int), (cA_20, .char), (cA_22, .int), (cA_56, .int)] s := hK
  refine W.widen (k := 309) (n := 615260) (Nat.le_of_ble_eq_true rfl) (Nat.le_of_ble_eq_true rfl) ?_
  refine va_putF (own := RX13) (D := D) (ci := 1) (v := .ref q_55) (ty := .array .int) (C := RX13) (T := TX13) (N := 45) hx hb hts inF13 tyX13 tyX13_ok nmX13 hown hK hP hD hS 0 rfl rfl 44 (by decide) (hg w9_9 rfl) (fun _ h9 => h9) rfl hin rfl (by decide +kernel) rfl rfl (Nat.le_of_ble_eq_true rfl) dX13_init_278 (fun H locs hP hD hS => ?_)
  have hP : va_P D pv_cl [(h0, .inr (1, [.int 0, .int 108, .int 0, .ref q_1, .ref q_3, .int 0, .int 0, .ref q_5, .ref q_7, .ref q_9, .int 0, .ref q_11, .ref q_13, .ref q_15, .ref q_17, .int 1, .ref q_19, .ref q_21, .int 0, .int 0, .ref q_23, .ref q_24, .ref q_26, .ref q_28, .ref q_30, .ref q_32, .ref q_33, .int (-1), .int 0, .int 0, .int 0, .ref q_34, .ref q_36, .ref q_38, .ref q_40, .ref q_42, .ref q_44, .int 0, .ref q_45, .ref q_47, .ref q_49, .ref q_51, .int 0, .ref q_53, .ref q_55])), (q_1, .inl (cA_2, 60, .inl (fun _ => 0))), (q_3, .inl (cA_4, 60, .inr (.inr (.inr (.inr (fun _ => none)))))), (q_5, .inl (cA_6, 5, .inl (fun _ => 0))), (q_19, .inl (cA_20, 3, .inl (fun _ => 0))), (q_21, .inl (cA_22, 3, .inl (fun _ => 0))), (q_55, .inl (cA_56, 60000, .inl (fun _ => 0)))] _ := hP
  have hD : va_D A [(h0, .inr (1, [.int 0, .int 108, .int 0, .ref q_1, .ref q_3, .int 0, .int 0, .ref q_5, .ref q_7, .ref q_9, .int 0, .ref q_11, .ref q_13, .ref q_15, .ref q_17, .int 1, .ref q_19, .ref q_21, .int 0, .int 0, .ref q_23, .ref q_24, .ref q_26, .ref q_28, .ref q_30, .ref q_32, .ref q_33, .int (-1), .int 0, .int 0, .int 0, .ref q_34, .ref q_36, .ref q_38, .ref q_40, .ref q_42, .ref q_44, .int 0, .ref q_45, .ref q_47, .ref q_49, .ref q_51, .int 0, .ref q_53, .ref q_55])), (q_1, .inl (cA_2, 60, .inl (fun _ => 0))), (q_3, .inl (cA_4, 60, .inr (.inr (.inr (.inr (fun _ => none)))))), (q_5, .inl (cA_6, 5, .inl (fun _ => 0))), (q_19, .inl (cA_20, 3, .inl (fun _ => 0))), (q_21, .inl (cA_22, 3, .inl (fun _ => 0))), (q_55, .inl (cA_56, 60000, .inl (fun _ => 0)))] := hD
  have hP : va_P D pv_cl [(h0, .inr (1, [.int 0, .int 108, .int 0, .ref q_1, .ref q_3, .int 0, .int 0, .ref q_5, .ref q_7, .ref q_9, .int 0, .ref q_11, .ref q_13, .ref q_15, .ref q_17, .int 1, .ref q_19, .ref q_21, .int 0, .int 0, .ref q_23, .ref q_24, .ref q_26, .ref q_28, .ref q_30, .ref q_32, .ref q_33, .int (-1), .int 0, .int 0, .int 0, .ref q_34, .ref q_36, .ref q_38, .ref q_40, .ref q_42, .ref q_44, .int 0, .ref q_45, .ref q_47, .ref q_49, .ref q_51, .int 0, .ref q_53, .ref q_55])), (q_1, .inl (cA_2, 60, .inl (fun _ => 0))), (q_3, .inl (cA_4, 60, .inr (.inr (.inr (.inr (fun _ => none)))))), (q_5, .inl (cA_6, 5, .inl (fun _ => 0))), (q_19, .inl (cA_20, 3, .inl (fun _ => 0))), (q_21, .inl (cA_22, 3, .inl (fun _ => 0)))] _ := hP.sub [0, 1, 2, 3, 4, 5] rfl
  have hD : va_D A [(h0, .inr (1, [.int 0, .int 108, .int 0, .ref q_1, .ref q_3, .int 0, .int 0, .ref q_5, .ref q_7, .ref q_9, .int 0, .ref q_11, .ref q_13, .ref q_15, .ref q_17, .int 1, .ref q_19, .ref q_21, .int 0, .int 0, .ref q_23, .ref q_24, .ref q_26, .ref q_28, .ref q_30, .ref q_32, .ref q_33, .int (-1), .int 0, .int 0, .int 0, .ref q_34, .ref q_36, .ref q_38, .ref q_40, .ref q_42, .ref q_44, .int 0, .ref q_45, .ref q_47, .ref q_49, .ref q_51, .int 0, .ref q_53, .ref q_55])), (q_1, .inl (cA_2, 60, .inl (fun _ => 0))), (q_3, .inl (cA_4, 60, .inr (.inr (.inr (.inr (fun _ => none)))))), (q_5, .inl (cA_6, 5, .inl (fun _ => 0))), (q_19, .inl (cA_20, 3, .inl (fun _ => 0))), (q_21, .inl (cA_22, 3, .inl (fun _ => 0)))] := hD.sub [0, 1, 2, 3, 4, 5] (by decide) rfl
  have hK : va_K D pv_cl [(cA_2, .int), (cA_4, .object "PolyforgeModel$Terms"), (cA_6, .int), (cA_20, .char), (cA_22, .int)] s := hK.sub [0, 1, 2, 3, 4] rfl
  refine lv_iconst (v := 0) hx hb dX13_init_281 (by decide) ?_
  refine lv_istore_n (lv' := [(1, .int 0), (0, .ref h0)]) hx hb dX13_init_282 rfl hl (by decide) rfl (fun ls hl => ?_)
  refine lv_iload_n hx hb dX13_init_283 rfl (lv_at hl 0 rfl) ?_
  refine lv_iconst (v := 3) hx hb dX13_init_284 (by decide) ?_
  refine lv_icmp_ge (tgt := 302) hx hb dX13_init_285 (by decide) (fun c_57 => absurd c_57 (by decide)) (fun _ => ?_)
  refine lv_aload_n hx hb dX13_init_288 rfl (lv_at hl 1 rfl) ?_
  refine va_get (own := RX13) (D := D) (ci := 1) (v := .ref q_19) (C := RX13) (T := TX13) (N := 45) hx hb hts inF13 hown hK hP 0 rfl rfl 16 (by decide) (hg w8_221 rfl) (fun _ h9 => h9) rfl dX13_init_289 ?_
  refine lv_iload_n hx hb dX13_init_292 rfl (lv_at hl 0 rfl) ?_
  refine pv_pc 293 rfl ?_
  refine lv_bipush (v := 63) hx hb dX13_init_293 (by decide) ?_
  refine va_cast hx hb hK hP hD hS 4 3 rfl rfl (by unfold vp_in; decide) dX13_init_295 (fun H locs hP hD hS => ?_)
  have hP : va_P D pv_cl [(h0, .inr (1, [.int 0, .int 108, .int 0, .ref q_1, .ref q_3, .int 0, .int 0, .ref q_5, .ref q_7, .ref q_9, .int 0, .ref q_11, .ref q_13, .ref q_15, .ref q_17, .int 1, .ref q_19, .ref q_21, .int 0, .int 0, .ref q_23, .ref q_24, .ref q_26, .ref q_28, .ref q_30, .ref q_32, .ref q_33, .int (-1), .int 0, .int 0, .int 0, .ref q_34, .ref q_36, .ref q_38, .ref q_40, .ref q_42, .ref q_44, .int 0, .ref q_45, .ref q_47, .ref q_49, .ref q_51, .int 0, .ref q_53, .ref q_55])), (q_1, .inl (cA_2, 60, .inl (fun _ => 0))), (q_3, .inl (cA_4, 60, .inr (.inr (.inr (.inr (fun _ => none)))))), (q_5, .inl (cA_6, 5, .inl (fun _ => 0))), (q_19, .inl (cA_20, 3, .inl (upd (fun _ => 0) (0 : Int32).toNatClampNeg (vp_nar .char 63)))), (q_21, .inl (cA_22, 3, .inl (fun _ => 0)))] _ := hP
  have hD : va_D A [(h0, .inr (1, [.int 0, .int 108, .int 0, .ref q_1, .ref q_3, .int 0, .int 0, .ref q_5, .ref q_7, .ref q_9, .int 0, .ref q_11, .ref q_13, .ref q_15, .ref q_17, .int 1, .ref q_19, .ref q_21, .int 0, .int 0, .ref q_23, .ref q_24, .ref q_26, .ref q_28, .ref q_30, .ref q_32, .ref q_33, .int (-1), .int 0, .int 0, .int 0, .ref q_34, .ref q_36, .ref q_38, .ref q_40, .ref q_42, .ref q_44, .int 0, .ref q_45, .ref q_47, .ref q_49, .ref q_51, .int 0, .ref q_53, .ref q_55])), (q_1, .inl (cA_2, 60, .inl (fun _ => 0))), (q_3, .inl (cA_4, 60, .inr (.inr (.inr (.inr (fun _ => none)))))), (q_5, .inl (cA_6, 5, .inl (fun _ => 0))), (q_19, .inl (cA_20, 3, .inl (upd (fun _ => 0) (0 : Int32).toNatClampNeg (vp_nar .char 63)))), (q_21, .inl (cA_22, 3, .inl (fun _ => 0)))] := hD
  refine lv_iinc (v := 1) (lv' := [(1, .int 1), (0, .ref h0)]) hx hb dX13_init_296 hl (k := 0) rfl (by decide) (by decide) rfl (fun ls hl => ?_)
  refine lv_goto (tgt := 283) hx hb dX13_init_299 (by decide) ?_
  refine lv_iload_n hx hb dX13_init_283 rfl (lv_at hl 0 rfl) ?_
  refine lv_iconst (v := 3) hx hb dX13_init_284 (by decide) ?_
  refine lv_icmp_ge (tgt := 302) hx hb dX13_init_285 (by decide) (fun c_58 => absurd c_58 (by decide)) (fun _ => ?_)
  refine lv_aload_n hx hb dX13_init_288 rfl (lv_at hl 1 rfl) ?_
  refine va_get (own := RX13) (D := D) (ci := 1) (v := .ref q_19) (C := RX13) (T := TX13) (N := 45) hx hb hts inF13 hown hK hP 0 rfl rfl 16 (by decide) (hg w8_221 rfl) (fun _ h9 => h9) rfl dX13_init_289 ?_
  refine lv_iload_n hx hb dX13_init_292 rfl (lv_at hl 0 rfl) ?_
  refine lv_bipush (v := 63) hx hb dX13_init_293 (by decide) ?_
  refine va_cast hx hb hK hP hD hS 4 3 rfl rfl (by unfold vp_in; decide) dX13_init_295 (fun H locs hP hD hS => ?_)
  have hP : va_P D pv_cl [(h0, .inr (1, [.int 0, .int 108, .int 0, .ref q_1, .ref q_3, .int 0, .int 0, .ref q_5, .ref q_7, .ref q_9, .int 0, .ref q_11, .ref q_13, .ref q_15, .ref q_17, .int 1, .ref q_19, .ref q_21, .int 0, .int 0, .ref q_23, .ref q_24, .ref q_26, .ref q_28, .ref q_30, .ref q_32, .ref q_33, .int (-1), .int 0, .int 0, .int 0, .ref q_34, .ref q_36, .ref q_38, .ref q_40, .ref q_42, .ref q_44, .int 0, .ref q_45, .ref q_47, .ref q_49, .ref q_51, .int 0, .ref q_53, .ref q_55])), (q_1, .inl (cA_2, 60, .inl (fun _ => 0))), (q_3, .inl (cA_4, 60, .inr (.inr (.inr (.inr (fun _ => none)))))), (q_5, .inl (cA_6, 5, .inl (fun _ => 0))), (q_19, .inl (cA_20, 3, .inl (upd (upd (fun _ => 0) (0 : Int32).toNatClampNeg (vp_nar .char 63)) (1 : Int32).toNatClampNeg (vp_nar .char 63)))), (q_21, .inl (cA_22, 3, .inl (fun _ => 0)))] _ := hP
  have hD : va_D A [(h0, .inr (1, [.int 0, .int 108, .int 0, .ref q_1, .ref q_3, .int 0, .int 0, .ref q_5, .ref q_7, .ref q_9, .int 0, .ref q_11, .ref q_13, .ref q_15, .ref q_17, .int 1, .ref q_19, .ref q_21, .int 0, .int 0, .ref q_23, .ref q_24, .ref q_26, .ref q_28, .ref q_30, .ref q_32, .ref q_33, .int (-1), .int 0, .int 0, .int 0, .ref q_34, .ref q_36, .ref q_38, .ref q_40, .ref q_42, .ref q_44, .int 0, .ref q_45, .ref q_47, .ref q_49, .ref q_51, .int 0, .ref q_53, .ref q_55])), (q_1, .inl (cA_2, 60, .inl (fun _ => 0))), (q_3, .inl (cA_4, 60, .inr (.inr (.inr (.inr (fun _ => none)))))), (q_5, .inl (cA_6, 5, .inl (fun _ => 0))), (q_19, .inl (cA_20, 3, .inl (upd (upd (fun _ => 0) (0 : Int32).toNatClampNeg (vp_nar .char 63)) (1 : Int32).toNatClampNeg (vp_nar .char 63)))), (q_21, .inl (cA_22, 3, .inl (fun _ => 0)))] := hD
  refine pv_pc 296 rfl ?_
  refine lv_iinc (v := 2) (lv' := [(1, .int 2), (0, .ref h0)]) hx hb dX13_init_296 hl (k := 0) rfl (by decide) (by decide) rfl (fun ls hl => ?_)
  refine lv_goto (tgt := 283) hx hb dX13_init_299 (by decide) ?_
  refine lv_iload_n hx hb dX13_init_283 rfl (lv_at hl 0 rfl) ?_
  refine lv_iconst (v := 3) hx hb dX13_init_284 (by decide) ?_
  refine lv_icmp_ge (tgt := 302) hx hb dX13_init_285 (by decide) (fun c_59 => absurd c_59 (by decide)) (fun _ => ?_)
  refine lv_aload_n hx hb dX13_init_288 rfl (lv_at hl 1 rfl) ?_
  refine va_get (own := RX13) (D := D) (ci := 1) (v := .ref q_19) (C := RX13) (T := TX13) (N := 45) hx hb hts inF13 hown hK hP 0 rfl rfl 16 (by decide) (hg w8_221 rfl) (fun _ h9 => h9) rfl dX13_init_289 ?_
  refine lv_iload_n hx hb dX13_init_292 rfl (lv_at hl 0 rfl) ?_
  refine lv_bipush (v := 63) hx hb dX13_init_293 (by decide) ?_
  refine va_cast hx hb hK hP hD hS 4 3 rfl rfl (by unfold vp_in; decide) dX13_init_295 (fun H locs hP hD hS => ?_)
  have hP : va_P D pv_cl [(h0, .inr (1, [.int 0, .int 108, .int 0, .ref q_1, .ref q_3, .int 0, .int 0, .ref q_5, .ref q_7, .ref q_9, .int 0, .ref q_11, .ref q_13, .ref q_15, .ref q_17, .int 1, .ref q_19, .ref q_21, .int 0, .int 0, .ref q_23, .ref q_24, .ref q_26, .ref q_28, .ref q_30, .ref q_32, .ref q_33, .int (-1), .int 0, .int 0, .int 0, .ref q_34, .ref q_36, .ref q_38, .ref q_40, .ref q_42, .ref q_44, .int 0, .ref q_45, .ref q_47, .ref q_49, .ref q_51, .int 0, .ref q_53, .ref q_55])), (q_1, .inl (cA_2, 60, .inl (fun _ => 0))), (q_3, .inl (cA_4, 60, .inr (.inr (.inr (.inr (fun _ => none)))))), (q_5, .inl (cA_6, 5, .inl (fun _ => 0))), (q_19, .inl (cA_20, 3, .inl (upd (upd (upd (fun _ => 0) (0 : Int32).toNatClampNeg (vp_nar .char 63)) (1 : Int32).toNatClampNeg (vp_nar .char 63)) (2 : Int32).toNatClampNeg (vp_nar .char 63)))), (q_21, .inl (cA_22, 3, .inl (fun _ => 0)))] _ := hP
  have hD : va_D A [(h0, .inr (1, [.int 0, .int 108, .int 0, .ref q_1, .ref q_3, .int 0, .int 0, .ref q_5, .ref q_7, .ref q_9, .int 0, .ref q_11, .ref q_13, .ref q_15, .ref q_17, .int 1, .ref q_19, .ref q_21, .int 0, .int 0, .ref q_23, .ref q_24, .ref q_26, .ref q_28, .ref q_30, .ref q_32, .ref q_33, .int (-1), .int 0, .int 0, .int 0, .ref q_34, .ref q_36, .ref q_38, .ref q_40, .ref q_42, .ref q_44, .int 0, .ref q_45, .ref q_47, .ref q_49, .ref q_51, .int 0, .ref q_53, .ref q_55])), (q_1, .inl (cA_2, 60, .inl (fun _ => 0))), (q_3, .inl (cA_4, 60, .inr (.inr (.inr (.inr (fun _ => none)))))), (q_5, .inl (cA_6, 5, .inl (fun _ => 0))), (q_19, .inl (cA_20, 3, .inl (upd (upd (upd (fun _ => 0) (0 : Int32).toNatClampNeg (vp_nar .char 63)) (1 : Int32).toNatClampNeg (vp_nar .char 63)) (2 : Int32).toNatClampNeg (vp_nar .char 63)))), (q_21, .inl (cA_22, 3, .inl (fun _ => 0)))] := hD
  refine lv_iinc (v := 3) (lv' := [(1, .int 3), (0, .ref h0)]) hx hb dX13_init_296 hl (k := 0) rfl (by decide) (by decide) rfl (fun ls hl => ?_)
  refine lv_goto (tgt := 283) hx hb dX13_init_299 (by decide) ?_
  refine pv_pc 283 rfl ?_
  refine lv_iload_n hx hb dX13_init_283 rfl (lv_at hl 0 rfl) ?_
  refine lv_iconst (v := 3) hx hb dX13_init_284 (by decide) ?_
  refine lv_icmp_ge (tgt := 302) hx hb dX13_init_285 (by decide) (fun _ => ?_) (fun c_60 => absurd (by decide) c_60)
  refine W.widen (k := 309) (n := 615260) (Nat.le_of_ble_eq_true rfl) (Nat.le_of_ble_eq_true rfl) ?_
  exact W.vret hx hb hr (fun t ht hW => ⟨⟨(), rfl, trivial, (fun k => ([q_1, q_3, q_5, q_7, q_9, q_11, q_13, q_15, q_17, q_19, q_21, q_23, q_24, q_26, q_28, q_30, q_32, q_33, q_34, q_36, q_38, q_40, q_42, q_44, q_45, q_47, q_49, q_51, q_53, q_55] : List Nat).getD k 0), cA_2, cA_6, cA_22, cA_4, cA_20, upd (upd (upd (fun _ => 0) (0 : Int32).toNatClampNeg (vp_nar .char 63)) (1 : Int32).toNatClampNeg (vp_nar .char 63)) (2 : Int32).toNatClampNeg (vp_nar .char 63), fun _ => 0, pv_sg3, (by rw [ht]; exact hP.sub [0, 1, 2, 3, 4, 5] rfl), va_K.moved hW.alike (hK.sub [0, 1, 2, 3, 4] rfl), hD.sub [0, 1, 2, 3, 4, 5] (by decide) rfl⟩, hS.F ht⟩) hS.2.2 dX13_init_302

