theorem pv_ir {ws : List Cond} (ps : List Nat) (hp : ws = ps.filterMap (fun i => lw_tbl[i]?)) : ∀ w ∈ ws, w ∈ lw_tbl := fun w hw => by
  rw [hp] at hw
  obtain ⟨i, -, hi⟩ := List.mem_filterMap.mp hw
  exact List.mem_of_getElem? hi
theorem pv_txi : ∀ w ∈ pv_tx.map (fun q => Cond.stringRef RX11 q.1 q.2), w ∈ lw_tbl := pv_ir [1033, 1095, 1139, 1202, 1218, 1257, 1322, 1374, 1413, 1432, 1433, 1448, 1472, 1486, 1508, 1523, 1527, 1574, 1586, 1662, 1667, 1679, 1684, 1707, 1751, 1755, 1760, 1778, 1843, 1857, 1861, 1862, 1898, 1906, 1914, 1958, 1977] (by decide +kernel)
theorem pv_oti : ∀ w ∈ pv_ot.map (fun ty => Cond.arrayOver ty), w ∈ lw_tbl := pv_ir [156, 158, 160, 214, 1996, 1998, 2001, 290] (by decide +kernel)

theorem w4_178 : (Jvm.Cond.laysStatic "java/lang/Throwable" "UNASSIGNED_STACK" "[Ljava/lang/StackTraceElement;") ∈ lw_tbl := pv_t4 (pv_mg 178 rfl)
theorem w4_180 : (Jvm.Cond.laysStatic "java/lang/Throwable" "SUPPRESSED_SENTINEL" "Ljava/util/List;") ∈ lw_tbl := pv_t4 (pv_mg 180 rfl)
theorem w1_11 : (Jvm.Cond.initialized "java/lang/Throwable") ∈ lw_tbl := pv_t1 (pv_mg 11 rfl)
/-- what every call takes along stands at the start -/
theorem pv_env {s : State} {args : Array Value} {c : ClassId} (hown : s.vm.findClass RX11 = some c) (hts : ∀ w ∈ lw_tbl, w.before args s = true) (hgv : (Jvm.Cond.and given_1 narrow_1).before args s = true) : pv_E (fun q : Nat => s.heap.size ≤ q) s s.heap := by
  have hs := flat_of_before _ hgv
  refine ⟨vx_Zqof (hts _ w4_178) (hts _ w1_11) (hs _ (by decide +kernel)) (fun a h => Nat.not_le.mpr h), vx_Zqof (hts _ w4_180) (hts _ w1_11) (hs _ (by decide +kernel)) (fun a h => Nat.not_le.mpr h), fun w h => va_Nw.of (pv_kind_on (List.mem_filter.mp h).2) (hts w (List.mem_filter.mp h).1), fun q hq => ?_, fun ty ht => ?_⟩
  · have h := hts _ (pv_txi _ (List.mem_map.mpr ⟨q, hq, rfl⟩))
    obtain ⟨k, cf, i, a, -, -, -, -, -, h6⟩ := Cond.stringRef_spec hown h
    exact ⟨a, vk_R.of h h6⟩
  · exact hts (Cond.arrayOver ty) (pv_oti _ (List.mem_map.mpr ⟨ty, ht, rfl⟩))
theorem pv_nx {P : Nat → Prop} (n : Nat) (h : P n) (k : ∀ j, n + 1 ≤ j → P j) : ∀ j, n ≤ j → P j := fun j hj => (Nat.eq_or_lt_of_le hj).elim (fun e => e ▸ h) (fun h2 => k j h2)

theorem w1_31 : (Jvm.Cond.instantiable "Polyforge" (15 : Nat)) ∈ lw_tbl := pv_t1 (pv_mg 31 rfl)
theorem w8_193 : (Jvm.Cond.instantiable "PolyforgeModel" (45 : Nat)) ∈ lw_tbl := pv_t8 (pv_mg 193 rfl)
theorem pv_known {s : State} {args : Array Value} (hts : ∀ w ∈ lw_tbl, w.before args s = true) : ∃ D : va_G, ∀ (k : Nat) (q : vw_C), pv_cl[k]? = some q → u_Kn s q.1 q.2.1 q.2.2 (D.1 k) (D.2 k) := by
  have htw : ∀ w ∈ pv_W, w.before args s = true := fun w h => hts w (List.mem_filter.mp h).1

  obtain ⟨c0, i0, h0⟩ := u_known (C := RX11) (T := TX11) (N := 15) (n := 15) htw inF11 (hts _ w1_31)
  obtain ⟨c1, i1, h1⟩ := u_known (C := RX13) (T := TX13) (N := 45) (n := 45) htw inF13 (hts _ w8_193)
  obtain ⟨c2, i2, h2⟩ := u_known (C := RX9) (T := TX9) (N := 6) (n := 6) htw inF9 (hts _ w1_45)
  obtain ⟨c3, i3, h3⟩ := u_known (C := RX6) (T := TX6) (N := 2) (n := 2) htw inF6 (hts _ w1_83)
  obtain ⟨c4, i4, h4⟩ := u_known (C := RX0) (T := TX0) (N := 18) (n := 18) htw inF0 (hts _ w1_77)
  obtain ⟨c5, i5, h5⟩ := u_known (C := RX2) (T := TX2) (N := 7) (n := 7) htw inF2 (hts _ w1_155)
  obtain ⟨c6, i6, h6⟩ := u_known (C := RX3) (T := TX3) (N := 5) (n := 5) htw inF3 (hts _ w1_161)
  obtain ⟨c7, i7, h7⟩ := u_known (C := RX10) (T := TX10) (N := 7) (n := 7) htw inF10 (hts _ w1_216)
  obtain ⟨c8, i8, h8⟩ := u_known (C := RX1) (T := TX1) (N := 7) (n := 7) htw inF1 (hts _ w1_167)
  obtain ⟨c9, i9, h9⟩ := u_known (C := RX7) (T := TX7) (N := 2) (n := 2) htw inF7 (hts _ w5_25)
  obtain ⟨c10, i10, h10⟩ := u_known (C := RX4) (T := TX4) (N := 6) (n := 6) htw inF4 (hts _ w7_151)
  obtain ⟨c11, i11, h11⟩ := u_known (C := RX12) (T := TX12) (N := 2) (n := 2) htw inF12 (hts _ w9_123)
  refine ⟨(fun k => if k = 0 then c0 else if k = 1 then c1 else if k = 2 then c2 else if k = 3 then c3 else if k = 4 then c4 else if k = 5 then c5 else if k = 6 then c6 else if k = 7 then c7 else if k = 8 then c8 else if k = 9 then c9 else if k = 10 then c10 else c11, fun k => if k = 0 then i0 else if k = 1 then i1 else if k = 2 then i2 else if k = 3 then i3 else if k = 4 then i4 else if k = 5 then i5 else if k = 6 then i6 else if k = 7 then i7 else if k = 8 then i8 else if k = 9 then i9 else if k = 10 then i10 else i11), ?_⟩
  intro k q hq
  match k, hq with
  | 0, hq => cases hq; exact h0
  | 1, hq => cases hq; exact h1
  | 2, hq => cases hq; exact h2
  | 3, hq => cases hq; exact h3
  | 4, hq => cases hq; exact h4
  | 5, hq => cases hq; exact h5
  | 6, hq => cases hq; exact h6
  | 7, hq => cases hq; exact h7
  | 8, hq => cases hq; exact h8
  | 9, hq => cases hq; exact h9
  | 10, hq => cases hq; exact h10
  | 11, hq => cases hq; exact h11
  | k + 12, hq => simp [pv_cl] at hq
theorem dL_law_45 : decode cL_law 45 = .ok (.tableswitch 3676 0 52 #[227, 295, 363, 431, 499, 567, 635, 648, 704, 760, 816, 884, 951, 1031, 1089, 1157, 1225, 1305, 1397, 1452, 1508, 1576, 1644, 1712, 1780, 1836, 1904, 1972, 2035, 2091, 2159, 2227, 2307, 2387, 2467, 2523, 2591, 2647, 2715, 2795, 2887, 2955, 3030, 3086, 3206, 3276, 3320, 3364, 3420, 3476, 3532, 3598, 3663], 227) := by decide +kernel
theorem dL_law_0 : decode cL_law 0 = .ok (.new 8, 3) := by decide +kernel
theorem w1_30 : (Jvm.Cond.classLink "PolyforgeLaw" (8 : Nat) "Polyforge") ∈ lw_tbl := pv_t1 (pv_mg 30 rfl)
theorem dL_law_3 : decode cL_law 3 = .ok (.dup, 1) := by decide +kernel
theorem dL_law_4 : decode cL_law 4 = .ok (.invokespecial 189, 3) := by decide +kernel
theorem w1_32 : (Jvm.Cond.methodLink "PolyforgeLaw" (189 : Nat) ({ cls := "Polyforge", name := "<init>", desc := "()V" } : Jvm.MethodName)) ∈ lw_tbl := pv_t1 (pv_mg 32 rfl)
theorem w1_34 : (Jvm.Cond.code ({ cls := "Polyforge", name := "<init>", desc := "()V" } : Jvm.MethodName) prog_1_method_1_code (1 : Nat) (Option.none : Option Jvm.ClassFile.FieldType)) ∈ lw_tbl := pv_t1 (pv_mg 34 rfl)
theorem w1_33 : (Jvm.Cond.instanceMethod ({ cls := "Polyforge", name := "<init>", desc := "()V" } : Jvm.MethodName)) ∈ lw_tbl := pv_t1 (pv_mg 33 rfl)
theorem dL_law_7 : decode cL_law 7 = .ok (.astore_n 1, 1) := by decide +kernel
theorem dL_law_8 : decode cL_law 8 = .ok (.new 190, 3) := by decide +kernel
theorem w8_192 : (Jvm.Cond.classLink "PolyforgeLaw" (190 : Nat) "PolyforgeModel") ∈ lw_tbl := pv_t8 (pv_mg 192 rfl)
theorem dL_law_11 : decode cL_law 11 = .ok (.dup, 1) := by decide +kernel
theorem dL_law_12 : decode cL_law 12 = .ok (.invokespecial 192, 3) := by decide +kernel
theorem w8_194 : (Jvm.Cond.methodLink "PolyforgeLaw" (192 : Nat) ({ cls := "PolyforgeModel", name := "<init>", desc := "()V" } : Jvm.MethodName)) ∈ lw_tbl := pv_t8 (pv_mg 194 rfl)
theorem w8_196 : (Jvm.Cond.code ({ cls := "PolyforgeModel", name := "<init>", desc := "()V" } : Jvm.MethodName) prog_14_method_1_code (2 : Nat) (Option.none : Option Jvm.ClassFile.FieldType)) ∈ lw_tbl := pv_t8 (pv_mg 196 rfl)
theorem w8_195 : (Jvm.Cond.instanceMethod ({ cls := "PolyforgeModel", name := "<init>", desc := "()V" } : Jvm.MethodName)) ∈ lw_tbl := pv_t8 (pv_mg 195 rfl)
theorem dL_law_15 : decode cL_law 15 = .ok (.astore_n 2, 1) := by decide +kernel
theorem dL_law_16 : decode cL_law 16 = .ok (.iconst 1, 1) := by decide +kernel
theorem dL_law_17 : decode cL_law 17 = .ok (.newarray .long, 2) := by decide +kernel
theorem dL_law_19 : decode cL_law 19 = .ok (.astore_n 3, 1) := by decide +kernel
theorem dL_law_20 : decode cL_law 20 = .ok (.iconst 1, 1) := by decide +kernel
theorem dL_law_21 : decode cL_law 21 = .ok (.newarray .double, 2) := by decide +kernel
theorem w11_126 : (Jvm.Cond.arrayClass Jvm.ClassFile.FieldType.double) ∈ lw_tbl := pv_t11 (pv_mg 126 rfl)
theorem dL_law_23 : decode cL_law 23 = .ok (.astore 4, 2) := by decide +kernel
theorem dL_law_25 : decode cL_law 25 = .ok (.iconst 0, 1) := by decide +kernel
theorem dL_law_26 : decode cL_law 26 = .ok (.istore 5, 2) := by decide +kernel
theorem dL_law_38 : decode cL_law 38 = .ok (.aload_n 0, 1) := by decide +kernel
theorem dL_law_39 : decode cL_law 39 = .ok (.iload 5, 2) := by decide +kernel
theorem dL_law_41 : decode cL_law 41 = .ok (.iaload, 1) := by decide +kernel
theorem dL_law_42 : decode cL_law 42 = .ok (.bipush 63, 2) := by decide +kernel
theorem dL_law_44 : decode cL_law 44 = .ok (.iand, 1) := by decide +kernel
set_option maxHeartbeats 4000000 in
set_option maxRecDepth 100000 in
/-- THE LAW, from its entry -/
theorem whole_start {p : Program} {e : Env} {s : State} {m : MethodId} {below : List Frame} {meth : Method} {c : Code} (l : Launch) (hflags : l.flags = flags0) {b L : Nat} {xs : Nat → Int32} (hL : L ≤ 7) (C0 : lw_At p s m meth c b L xs) : W p l e room_1 s m #[Value.ref b] below meth c s.heap [] 0 0 (lw_Z below #[Value.ref b] s) (entryFrame m ([Value.ref b] : List Value).toArray 9) := by
  have hfl : l.stackTraces = false := by rw [Launch.stackTraces, hflags]; decide +kernel
  obtain ⟨hx, hb, hr, hml, hown, hts0, hX, hbl, hlocks, hgv⟩ := id C0
  have hts : ∀ w ∈ pv_W, w.before #[Value.ref b] s = true := fun w h => hts0 w (List.mem_filter.mp h).1
  have hg := fun {w : Cond} (h : w ∈ lw_tbl) (g : goodWord w = true) => hts w (pv_in h g)
  obtain ⟨D, hKn⟩ := pv_known hts0
  have hE0 := pv_env (hKn 0 _ rfl).2.1 hts0 hgv
  obtain ⟨A, hAe⟩ : ∃ A : Nat → Prop, A = fun q : Nat => s.heap.size ≤ q := ⟨_, rfl⟩
  have hA : ∀ q : Nat, s.heap.size ≤ q → A q := fun q h => by rw [hAe]; exact h
  have hAf : ∀ q : Nat, A q → s.heap.size ≤ q := fun q h => by rw [hAe] at h; exact h
  have hbA : ¬ A b := fun h => Nat.not_le.mpr hbl (hAf b h)
  have hE : pv_E A s s.heap := by rw [hAe]; exact hE0
  have hS : va_S A s.heap s.heap [] := va_S.rf
  have hK : va_K D pv_cl [] s := ⟨hKn, fun k q h => by simp at h⟩
  have hP : va_P D pv_cl [] s.heap := fun k q h => by simp at h
  have hD : va_D A [] := ⟨fun i j p q h => by simp at h, fun k q h => by simp at h⟩
  have hl := lv_entry ([.ref b]) (n := 9) (Nat.le_of_ble_eq_true rfl)
  rw [lg_entry_eq]
  generalize (lg_sl ([.ref b]) ++ List.replicate (9 - (lg_sl ([.ref b])).length) Slot.unset).toArray = ls at hl ⊢
  have hl : lv_has ls 9 [(0, .ref b)] := hl
  refine va_new (own := RL) (ci := 0) (fs := [.null, .int 0, .int 0, .null, .int 0, .null, .int 0, .null, .null, .int 0, .null, .null, .null, .null, .null]) (C := RX11) (T := TX11) (N := 15) hx hb hts inF11 tyX11 tyX11_ok hown (hg w1_30 rfl) (hg w1_31 rfl) (hg w1_1 rfl) hK hP hD hS hA rfl (by decide +kernel) (Nat.le_of_ble_eq_true rfl) (Nat.le_of_ble_eq_true rfl) dL_law_0 (fun q_1 H hP hD hS => ?_)
  have hP : va_P D pv_cl [(q_1, .inr (0, [.null, .int 0, .int 0, .null, .int 0, .null, .int 0, .null, .null, .int 0, .null, .null, .null, .null, .null]))] _ := hP
  have hD : va_D A [(q_1, .inr (0, [.null, .int 0, .int 0, .null, .int 0, .null, .int 0, .null, .null, .int 0, .null, .null, .null, .null, .null]))] := hD
  refine W.widen (k := 1) (n := 15) (Nat.le_of_ble_eq_true rfl) (Nat.le_of_ble_eq_true rfl) ?_
  refine lv_dup hx hb dL_law_3 rfl ?_
  have hF := va_free (wc := [(q_1, .inr (0, [.null, .int 0, .int 0, .null, .int 0, .null, .int 0, .null, .null, .int 0, .null, .null, .null, .null, .null]))]) hD hS hA [0] rfl
  refine va_callv (va_runI (As := []) (rest := [.ref q_1]) ⟨hx, hb, hml, hown, hts⟩ (c_X11_init l hfl D _ q_1) (cwI 0 hts (pv_gC w1_34) rfl rfl rfl (hg w1_1 rfl) (hg w1_32 rfl) (hg w1_33 rfl) rfl (by decide +kernel) ⟨Nat.le_of_ble_eq_true rfl, Nat.le_of_ble_eq_true rfl⟩) (pv_ps hE hS hF (hP.sub [0] rfl) (hK.sub [] rfl) (hD.sub [0] (by decide) rfl)) rfl rfl hl.1 rfl (lv_room (Nat.le_of_ble_eq_true rfl)) dL_law_4 ⟨Nat.le_of_ble_eq_true rfl, Nat.le_of_ble_eq_true rfl⟩) hS (fun q _ h => hF q h) hF (fun u t H1 locs1 ht hvm hw hB hz1 hk1 hS => ?_)
  refine W.widen (k := 85) (n := 38514) (Nat.le_of_ble_eq_true rfl) (Nat.le_of_ble_eq_true rfl) ?_
  obtain ⟨xq, xw, xJ, xP, xO, xC, xI, xsg, xsf, hxsg, hP1, hK1, hD1⟩ := hB
  rw [ht] at hP1
  have hK1 := va_K.moved hvm.symm hK1
  obtain ⟨hP, hD⟩ := va_join (wr := []) (w1 := [(q_1, .inr (0, [.ref (xq 0), .int 0, .int 108, .ref (xq 1), .int 0, .ref (xq 2), .int 0, .ref (xq 3), .ref (xq 4), .int 1, .ref (xq 5), .ref (xq 6), .ref (xq 7), .ref (xq 8), .ref (xq 9)])), ((xq 6), .inr (2, [.ref (xw 0), .ref (xw 1), .ref (xw 2), .ref (xw 3), .int 0, .int 0])), ((xw 2), .inl (xJ, 64, .inr (.inl (fun _ => 0)))), ((xq 0), .inl (xP, 60, .inr (.inr (.inr (.inr (fun _ => none)))))), ((xq 1), .inl (xO, 5, .inr (.inr (.inr (.inr (fun _ => none)))))), ((xq 3), .inl (xC, 3, .inl xsg)), ((xq 4), .inl (xI, 3, .inl xsf))]) hP hD [0] [] rfl rfl (by decide) (by decide) hk1 hF hP1 hD1
  have hP : va_P D pv_cl [(q_1, .inr (0, [.ref (xq 0), .int 0, .int 108, .ref (xq 1), .int 0, .ref (xq 2), .int 0, .ref (xq 3), .ref (xq 4), .int 1, .ref (xq 5), .ref (xq 6), .ref (xq 7), .ref (xq 8), .ref (xq 9)])), ((xq 6), .inr (2, [.ref (xw 0), .ref (xw 1), .ref (xw 2), .ref (xw 3), .int 0, .int 0])), ((xw 2), .inl (xJ, 64, .inr (.inl (fun _ => 0)))), ((xq 0), .inl (xP, 60, .inr (.inr (.inr (.inr (fun _ => none)))))), ((xq 1), .inl (xO, 5, .inr (.inr (.inr (.inr (fun _ => none)))))), ((xq 3), .inl (xC, 3, .inl xsg)), ((xq 4), .inl (xI, 3, .inl xsf))] _ := hP
  have hD : va_D A [(q_1, .inr (0, [.ref (xq 0), .int 0, .int 108, .ref (xq 1), .int 0, .ref (xq 2), .int 0, .ref (xq 3), .ref (xq 4), .int 1, .ref (xq 5), .ref (xq 6), .ref (xq 7), .ref (xq 8), .ref (xq 9)])), ((xq 6), .inr (2, [.ref (xw 0), .ref (xw 1), .ref (xw 2), .ref (xw 3), .int 0, .int 0])), ((xw 2), .inl (xJ, 64, .inr (.inl (fun _ => 0)))), ((xq 0), .inl (xP, 60, .inr (.inr (.inr (.inr (fun _ => none)))))), ((xq 1), .inl (xO, 5, .inr (.inr (.inr (.inr (fun _ => none)))))), ((xq 3), .inl (xC, 3, .inl xsg)), ((xq 4), .inl (xI, 3, .inl xsf))] := hD
  have hK := (hK.sub [] rfl).app hK1
  have hK : va_K D pv_cl [(xJ, .long), (xP, .object "Polyforge$Polynomial"), (xO, .object "Polyforge$Ideal"), (xC, .char), (xI, .int)] s := hK
  refine lv_astore_n (lv' := [(1, .ref q_1), (0, .ref b)]) hx hb dL_law_7 rfl hl (by decide) rfl (fun ls hl => ?_)
  refine va_new (own := RL) (ci := 1) (fs := [.int 0, .int 0, .int 0, .null, .null, .int 0, .int 0, .null, .null, .null, .int 0, .null, .null, .null, .null, .int 0, .null, .null, .int 0, .int 0, .null, .null, .null, .null, .null, .null, .null, .int 0, .int 0, .int 0, .int 0, .null, .null, .null, .null, .null, .null, .int 0, .null, .null, .null, .null, .int 0, .null, .null]) (C := RX13) (T := TX13) (N := 45) hx hb hts inF13 tyX13 tyX13_ok hown (hg w8_192 rfl) (hg w8_193 rfl) (hg w1_10 rfl) hK hP hD hS hA rfl (by decide +kernel) (Nat.le_of_ble_eq_true rfl) (Nat.le_of_ble_eq_true rfl) dL_law_8 (fun q_3 H hP hD hS => ?_)
  have hP : va_P D pv_cl [(q_1, .inr (0, [.ref (xq 0), .int 0, .int 108, .ref (xq 1), .int 0, .ref (xq 2), .int 0, .ref (xq 3), .ref (xq 4), .int 1, .ref (xq 5), .ref (xq 6), .ref (xq 7), .ref (xq 8), .ref (xq 9)])), ((xq 6), .inr (2, [.ref (xw 0), .ref (xw 1), .ref (xw 2), .ref (xw 3), .int 0, .int 0])), ((xw 2), .inl (xJ, 64, .inr (.inl (fun _ => 0)))), ((xq 0), .inl (xP, 60, .inr (.inr (.inr (.inr (fun _ => none)))))), ((xq 1), .inl (xO, 5, .inr (.inr (.inr (.inr (fun _ => none)))))), ((xq 3), .inl (xC, 3, .inl xsg)), ((xq 4), .inl (xI, 3, .inl xsf)), (q_3, .inr (1, [.int 0, .int 0, .int 0, .null, .null, .int 0, .int 0, .null, .null, .null, .int 0, .null, .null, .null, .null, .int 0, .null, .null, .int 0, .int 0, .null, .null, .null, .null, .null, .null, .null, .int 0, .int 0, .int 0, .int 0, .null, .null, .null, .null, .null, .null, .int 0, .null, .null, .null, .null, .int 0, .null, .null]))] _ := hP
  have hD : va_D A [(q_1, .inr (0, [.ref (xq 0), .int 0, .int 108, .ref (xq 1), .int 0, .ref (xq 2), .int 0, .ref (xq 3), .ref (xq 4), .int 1, .ref (xq 5), .ref (xq 6), .ref (xq 7), .ref (xq 8), .ref (xq 9)])), ((xq 6), .inr (2, [.ref (xw 0), .ref (xw 1), .ref (xw 2), .ref (xw 3), .int 0, .int 0])), ((xw 2), .inl (xJ, 64, .inr (.inl (fun _ => 0)))), ((xq 0), .inl (xP, 60, .inr (.inr (.inr (.inr (fun _ => none)))))), ((xq 1), .inl (xO, 5, .inr (.inr (.inr (.inr (fun _ => none)))))), ((xq 3), .inl (xC, 3, .inl xsg)), ((xq 4), .inl (xI, 3, .inl xsf)), (q_3, .inr (1, [.int 0, .int 0, .int 0, .null, .null, .int 0, .int 0, .null, .null, .null, .int 0, .null, .null, .null, .null, .int 0, .null, .null, .int 0, .int 0, .null, .null, .null, .null, .null, .null, .null, .int 0, .int 0, .int 0, .int 0, .null, .null, .null, .null, .null, .null, .int 0, .null, .null, .null, .null, .int 0, .null, .null]))] := hD
  refine W.widen (k := 86) (n := 38559) (Nat.le_of_ble_eq_true rfl) (Nat.le_of_ble_eq_true rfl) ?_
  refine lv_dup hx hb dL_law_11 rfl ?_
  have hF := va_free (wc := [(q_3, .inr (1, [.int 0, .int 0, .int 0, .null, .null, .int 0, .int 0, .null, .null, .null, .int 0, .null, .null, .null, .null, .int 0, .null, .null, .int 0, .int 0, .null, .null, .null, .null, .null, .null, .null, .int 0, .int 0, .int 0, .int 0, .null, .null, .null, .null, .null, .null, .int 0, .null, .null, .null, .null, .int 0, .null, .null]))]) hD hS hA [7] rfl
  refine va_callv (va_runI (As := []) (rest := [.ref q_3]) ⟨hx, hb, hml, hown, hts⟩ (c_X13_init l hfl D _ q_3) (cwI 0 hts (pv_gC w8_196) rfl rfl rfl (hg w1_10 rfl) (hg w8_194 rfl) (hg w8_195 rfl) rfl (by decide +kernel) ⟨Nat.le_of_ble_eq_true rfl, Nat.le_of_ble_eq_true rfl⟩) (pv_ps hE hS hF (hP.sub [7] rfl) (hK.sub [] rfl) (hD.sub [7] (by decide) rfl)) rfl rfl hl.1 rfl (lv_room (Nat.le_of_ble_eq_true rfl)) dL_law_12 ⟨Nat.le_of_ble_eq_true rfl, Nat.le_of_ble_eq_true rfl⟩) hS (fun q _ h => hF q h) hF (fun u t H1 locs1 ht hvm hw hB hz1 hk1 hS => ?_)
  refine W.widen (k := 395) (n := 653819) (Nat.le_of_ble_eq_true rfl) (Nat.le_of_ble_eq_true rfl) ?_
  obtain ⟨mq, mI, mI2, mI3, mT, mC, msg, msf, hmsg, hP1, hK1, hD1⟩ := hB
  rw [ht] at hP1
  have hK1 := va_K.moved hvm.symm hK1
  obtain ⟨hP, hD⟩ := va_join (wr := [(q_1, .inr (0, [.ref (xq 0), .int 0, .int 108, .ref (xq 1), .int 0, .ref (xq 2), .int 0, .ref (xq 3), .ref (xq 4), .int 1, .ref (xq 5), .ref (xq 6), .ref (xq 7), .ref (xq 8), .ref (xq 9)])), ((xq 6), .inr (2, [.ref (xw 0), .ref (xw 1), .ref (xw 2), .ref (xw 3), .int 0, .int 0])), ((xw 2), .inl (xJ, 64, .inr (.inl (fun _ => 0)))), ((xq 0), .inl (xP, 60, .inr (.inr (.inr (.inr (fun _ => none)))))), ((xq 1), .inl (xO, 5, .inr (.inr (.inr (.inr (fun _ => none)))))), ((xq 3), .inl (xC, 3, .inl xsg)), ((xq 4), .inl (xI, 3, .inl xsf))]) (w1 := [(q_3, .inr (1, pv_m 0 mq)), ((mq 0), .inl (mI, 60, .inl (fun _ => 0))), ((mq 1), .inl (mT, 60, .inr (.inr (.inr (.inr (fun _ => none)))))), ((mq 2), .inl (mI2, 5, .inl (fun _ => 0))), ((mq 9), .inl (mC, 3, .inl msg)), ((mq 10), .inl (mI3, 3, .inl msf))]) hP hD [7] [0, 1, 2, 3, 4, 5, 6] rfl rfl (by decide) (by decide) hk1 hF hP1 hD1
  have hP : va_P D pv_cl [(q_1, .inr (0, [.ref (xq 0), .int 0, .int 108, .ref (xq 1), .int 0, .ref (xq 2), .int 0, .ref (xq 3), .ref (xq 4), .int 1, .ref (xq 5), .ref (xq 6), .ref (xq 7), .ref (xq 8), .ref (xq 9)])), ((xq 6), .inr (2, [.ref (xw 0), .ref (xw 1), .ref (xw 2), .ref (xw 3), .int 0, .int 0])), ((xw 2), .inl (xJ, 64, .inr (.inl (fun _ => 0)))), ((xq 0), .inl (xP, 60, .inr (.inr (.inr (.inr (fun _ => none)))))), ((xq 1), .inl (xO, 5, .inr (.inr (.inr (.inr (fun _ => none)))))), ((xq 3), .inl (xC, 3, .inl xsg)), ((xq 4), .inl (xI, 3, .inl xsf)), (q_3, .inr (1, pv_m 0 mq)), ((mq 0), .inl (mI, 60, .inl (fun _ => 0))), ((mq 1), .inl (mT, 60, .inr (.inr (.inr (.inr (fun _ => none)))))), ((mq 2), .inl (mI2, 5, .inl (fun _ => 0))), ((mq 9), .inl (mC, 3, .inl msg)), ((mq 10), .inl (mI3, 3, .inl msf))] _ := hP
  have hD : va_D A [(q_1, .inr (0, [.ref (xq 0), .int 0, .int 108, .ref (xq 1), .int 0, .ref (xq 2), .int 0, .ref (xq 3), .ref (xq 4), .int 1, .ref (xq 5), .ref (xq 6), .ref (xq 7), .ref (xq 8), .ref (xq 9)])), ((xq 6), .inr (2, [.ref (xw 0), .ref (xw 1), .ref (xw 2), .ref (xw 3), .int 0, .int 0])), ((xw 2), .inl (xJ, 64, .inr (.inl (fun _ => 0)))), ((xq 0), .inl (xP, 60, .inr (.inr (.inr (.inr (fun _ => none)))))), ((xq 1), .inl (xO, 5, .inr (.inr (.inr (.inr (fun _ => none)))))), ((xq 3), .inl (xC, 3, .inl xsg)), ((xq 4), .inl (xI, 3, .inl xsf)), (q_3, .inr (1, pv_m 0 mq)), ((mq 0), .inl (mI, 60, .inl (fun _ => 0))), ((mq 1), .inl (mT, 60, .inr (.inr (.inr (.inr (fun _ => none)))))), ((mq 2), .inl (mI2, 5, .inl (fun _ => 0))), ((mq 9), .inl (mC, 3, .inl msg)), ((mq 10), .inl (mI3, 3, .inl msf))] := hD
  have hK := (hK.sub [0, 1, 2, 3, 4] rfl).app hK1
  have hK : va_K D pv_cl [(xJ, .long), (xP, .object "Polyforge$Polynomial"), (xO, .object "Polyforge$Ideal"), (xC, .char), (xI, .int), (mI, .int), (mT, .object "PolyforgeModel$Terms"), (mI2, .int), (mC, .char), (mI3, .int)] s := hK
  refine lv_astore_n (lv' := [(2, .ref q_3), (1, .ref q_1), (0, .ref b)]) hx hb dL_law_15 rfl hl (by decide) rfl (fun ls hl => ?_)
  refine lv_iconst (v := 1) hx hb dL_law_16 (by decide) ?_
  refine va_newa (atype := .long) hx hb (hg w1_75 rfl) (ty := .long) rfl hK hP hD hS hA (a0 := (1, .inr (.inl (fun _ => 0)))) (fun _ => rfl) (by decide) (by decide +kernel) (Nat.le_of_ble_eq_true rfl) (Nat.le_of_ble_eq_true rfl) (Nat.le_of_ble_eq_true rfl) dL_law_17 (fun q_5 cA_6 H hK hP hD hS => ?_)
  have hP : va_P D pv_cl [(q_1, .inr (0, [.ref (xq 0), .int 0, .int 108, .ref (xq 1), .int 0, .ref (xq 2), .int 0, .ref (xq 3), .ref (xq 4), .int 1, .ref (xq 5), .ref (xq 6), .ref (xq 7), .ref (xq 8), .ref (xq 9)])), ((xq 6), .inr (2, [.ref (xw 0), .ref (xw 1), .ref (xw 2), .ref (xw 3), .int 0, .int 0])), ((xw 2), .inl (xJ, 64, .inr (.inl (fun _ => 0)))), ((xq 0), .inl (xP, 60, .inr (.inr (.inr (.inr (fun _ => none)))))), ((xq 1), .inl (xO, 5, .inr (.inr (.inr (.inr (fun _ => none)))))), ((xq 3), .inl (xC, 3, .inl xsg)), ((xq 4), .inl (xI, 3, .inl xsf)), (q_3, .inr (1, pv_m 0 mq)), ((mq 0), .inl (mI, 60, .inl (fun _ => 0))), ((mq 1), .inl (mT, 60, .inr (.inr (.inr (.inr (fun _ => none)))))), ((mq 2), .inl (mI2, 5, .inl (fun _ => 0))), ((mq 9), .inl (mC, 3, .inl msg)), ((mq 10), .inl (mI3, 3, .inl msf)), (q_5, .inl (cA_6, 1, .inr (.inl (fun _ => 0))))] _ := hP
  have hD : va_D A [(q_1, .inr (0, [.ref (xq 0), .int 0, .int 108, .ref (xq 1), .int 0, .ref (xq 2), .int 0, .ref (xq 3), .ref (xq 4), .int 1, .ref (xq 5), .ref (xq 6), .ref (xq 7), .ref (xq 8), .ref (xq 9)])), ((xq 6), .inr (2, [.ref (xw 0), .ref (xw 1), .ref (xw 2), .ref (xw 3), .int 0, .int 0])), ((xw 2), .inl (xJ, 64, .inr (.inl (fun _ => 0)))), ((xq 0), .inl (xP, 60, .inr (.inr (.inr (.inr (fun _ => none)))))), ((xq 1), .inl (xO, 5, .inr (.inr (.inr (.inr (fun _ => none)))))), ((xq 3), .inl (xC, 3, .inl xsg)), ((xq 4), .inl (xI, 3, .inl xsf)), (q_3, .inr (1, pv_m 0 mq)), ((mq 0), .inl (mI, 60, .inl (fun _ => 0))), ((mq 1), .inl (mT, 60, .inr (.inr (.inr (.inr (fun _ => none)))))), ((mq 2), .inl (mI2, 5, .inl (fun _ => 0))), ((mq 9), .inl (mC, 3, .inl msg)), ((mq 10), .inl (mI3, 3, .inl msf)), (q_5, .inl (cA_6, 1, .inr (.inl (fun _ => 0))))] := hD
  have hK : va_K D pv_cl [(xJ, .long), (xP, .object "Polyforge$Polynomial"), (xO, .object "Polyforge$Ideal"), (xC, .char), (xI, .int), (mI, .int), (mT, .object "PolyforgeModel$Terms"), (mI2, .int), (mC, .char), (mI3, .int), (cA_6, .long)] s := hK
  refine W.widen (k := 396) (n := 653820) (Nat.le_of_ble_eq_true rfl) (Nat.le_of_ble_eq_true rfl) ?_
  refine lv_astore_n (lv' := [(3, .ref q_5), (2, .ref q_3), (1, .ref q_1), (0, .ref b)]) hx hb dL_law_19 rfl hl (by decide) rfl (fun ls hl => ?_)
  refine pv_pc 20 rfl ?_
  refine lv_iconst (v := 1) hx hb dL_law_20 (by decide) ?_
  refine va_newa (atype := .double) hx hb (hg w11_126 rfl) (ty := .double) rfl hK hP hD hS hA (a0 := (1, .inr (.inr (.inr (.inl (fun _ => 0)))))) (fun _ => rfl) (by decide) (by decide +kernel) (Nat.le_of_ble_eq_true rfl) (Nat.le_of_ble_eq_true rfl) (Nat.le_of_ble_eq_true rfl) dL_law_21 (fun q_7 cA_8 H hK hP hD hS => ?_)
  have hP : va_P D pv_cl [(q_1, .inr (0, [.ref (xq 0), .int 0, .int 108, .ref (xq 1), .int 0, .ref (xq 2), .int 0, .ref (xq 3), .ref (xq 4), .int 1, .ref (xq 5), .ref (xq 6), .ref (xq 7), .ref (xq 8), .ref (xq 9)])), ((xq 6), .inr (2, [.ref (xw 0), .ref (xw 1), .ref (xw 2), .ref (xw 3), .int 0, .int 0])), ((xw 2), .inl (xJ, 64, .inr (.inl (fun _ => 0)))), ((xq 0), .inl (xP, 60, .inr (.inr (.inr (.inr (fun _ => none)))))), ((xq 1), .inl (xO, 5, .inr (.inr (.inr (.inr (fun _ => none)))))), ((xq 3), .inl (xC, 3, .inl xsg)), ((xq 4), .inl (xI, 3, .inl xsf)), (q_3, .inr (1, pv_m 0 mq)), ((mq 0), .inl (mI, 60, .inl (fun _ => 0))), ((mq 1), .inl (mT, 60, .inr (.inr (.inr (.inr (fun _ => none)))))), ((mq 2), .inl (mI2, 5, .inl (fun _ => 0))), ((mq 9), .inl (mC, 3, .inl msg)), ((mq 10), .inl (mI3, 3, .inl msf)), (q_5, .inl (cA_6, 1, .inr (.inl (fun _ => 0)))), (q_7, .inl (cA_8, 1, .inr (.inr (.inr (.inl (fun _ => 0))))))] _ := hP
  have hD : va_D A [(q_1, .inr (0, [.ref (xq 0), .int 0, .int 108, .ref (xq 1), .int 0, .ref (xq 2), .int 0, .ref (xq 3), .ref (xq 4), .int 1, .ref (xq 5), .ref (xq 6), .ref (xq 7), .ref (xq 8), .ref (xq 9)])), ((xq 6), .inr (2, [.ref (xw 0), .ref (xw 1), .ref (xw 2), .ref (xw 3), .int 0, .int 0])), ((xw 2), .inl (xJ, 64, .inr (.inl (fun _ => 0)))), ((xq 0), .inl (xP, 60, .inr (.inr (.inr (.inr (fun _ => none)))))), ((xq 1), .inl (xO, 5, .inr (.inr (.inr (.inr (fun _ => none)))))), ((xq 3), .inl (xC, 3, .inl xsg)), ((xq 4), .inl (xI, 3, .inl xsf)), (q_3, .inr (1, pv_m 0 mq)), ((mq 0), .inl (mI, 60, .inl (fun _ => 0))), ((mq 1), .inl (mT, 60, .inr (.inr (.inr (.inr (fun _ => none)))))), ((mq 2), .inl (mI2, 5, .inl (fun _ => 0))), ((mq 9), .inl (mC, 3, .inl msg)), ((mq 10), .inl (mI3, 3, .inl msf)), (q_5, .inl (cA_6, 1, .inr (.inl (fun _ => 0)))), (q_7, .inl (cA_8, 1, .inr (.inr (.inr (.inl (fun _ => 0))))))] := hD
  have hK : va_K D pv_cl [(xJ, .long), (xP, .object "Polyforge$Polynomial"), (xO, .object "Polyforge$Ideal"), (xC, .char), (xI, .int), (mI, .int), (mT, .object "PolyforgeModel$Terms"), (mI2, .int), (mC, .char), (mI3, .int), (cA_6, .long), (cA_8, .double)] s := hK
  refine W.widen (k := 397) (n := 653821) (Nat.le_of_ble_eq_true rfl) (Nat.le_of_ble_eq_true rfl) ?_
  refine lv_astore (lv' := [(4, .ref q_7), (3, .ref q_5), (2, .ref q_3), (1, .ref q_1), (0, .ref b)]) hx hb dL_law_23 hl (by decide) rfl (fun ls hl => ?_)
  refine lv_iconst (v := 0) hx hb dL_law_25 (by decide) ?_
  refine lv_istore (lv' := [(5, .int 0), (4, .ref q_7), (3, .ref q_5), (2, .ref q_3), (1, .ref q_1), (0, .ref b)]) hx hb dL_law_26 hl (by decide) rfl (fun ls hl => ?_)
  have hP : va_P D pv_cl [(q_1, .inr (0, [.ref (xq 0), .int 0, .int 108, .ref (xq 1), .int 0, .ref (xq 2), .int 0, .ref (xq 3), .ref (xq 4), .int 1, .ref (xq 5), .ref (xq 6), .ref (xq 7), .ref (xq 8), .ref (xq 9)])), ((xq 6), .inr (2, [.ref (xw 0), .ref (xw 1), .ref (xw 2), .ref (xw 3), .int 0, .int 0])), ((xw 2), .inl (xJ, 64, .inr (.inl (fun _ => 0)))), ((xq 0), .inl (xP, 60, .inr (.inr (.inr (.inr (fun _ => none)))))), ((xq 1), .inl (xO, 5, .inr (.inr (.inr (.inr (fun _ => none)))))), ((xq 3), .inl (xC, 3, .inl xsg)), ((xq 4), .inl (xI, 3, .inl xsf)), (q_3, .inr (1, pv_m 0 mq)), ((mq 0), .inl (mI, 60, .inl (fun _ => 0))), ((mq 1), .inl (mT, 60, .inr (.inr (.inr (.inr (fun _ => none)))))), ((mq 2), .inl (mI2, 5, .inl (fun _ => 0))), ((mq 9), .inl (mC, 3, .inl msg)), ((mq 10), .inl (mI3, 3, .inl msf)), (q_5, .inl (cA_6, 1, .inr (.inl (fun _ => 0))))] _ := hP.sub [0, 1, 2, 3, 4, 5, 6, 7, 8, 9, 10, 11, 12, 13] rfl
  have hD : va_D A [(q_1, .inr (0, [.ref (xq 0), .int 0, .int 108, .ref (xq 1), .int 0, .ref (xq 2), .int 0, .ref (xq 3), .ref (xq 4), .int 1, .ref (xq 5), .ref (xq 6), .ref (xq 7), .ref (xq 8), .ref (xq 9)])), ((xq 6), .inr (2, [.ref (xw 0), .ref (xw 1), .ref (xw 2), .ref (xw 3), .int 0, .int 0])), ((xw 2), .inl (xJ, 64, .inr (.inl (fun _ => 0)))), ((xq 0), .inl (xP, 60, .inr (.inr (.inr (.inr (fun _ => none)))))), ((xq 1), .inl (xO, 5, .inr (.inr (.inr (.inr (fun _ => none)))))), ((xq 3), .inl (xC, 3, .inl xsg)), ((xq 4), .inl (xI, 3, .inl xsf)), (q_3, .inr (1, pv_m 0 mq)), ((mq 0), .inl (mI, 60, .inl (fun _ => 0))), ((mq 1), .inl (mT, 60, .inr (.inr (.inr (.inr (fun _ => none)))))), ((mq 2), .inl (mI2, 5, .inl (fun _ => 0))), ((mq 9), .inl (mC, 3, .inl msg)), ((mq 10), .inl (mI3, 3, .inl msf)), (q_5, .inl (cA_6, 1, .inr (.inl (fun _ => 0))))] := hD.sub [0, 1, 2, 3, 4, 5, 6, 7, 8, 9, 10, 11, 12, 13] (by decide) rfl
  have hK : va_K D pv_cl [(xJ, .long), (xP, .object "Polyforge$Polynomial"), (xO, .object "Polyforge$Ideal"), (xC, .char), (xI, .int), (mI, .int), (mT, .object "PolyforgeModel$Terms"), (mI2, .int), (mC, .char), (mI3, .int), (cA_6, .long)] s := hK.sub [0, 1, 2, 3, 4, 5, 6, 7, 8, 9, 10] rfl
  rcases (show L = 0 ∨ L = 1 ∨ L = 2 ∨ L = 3 ∨ L = 4 ∨ L = 5 ∨ L = 6 ∨ L = 7 by omega) with rfl | rfl | rfl | rfl | rfl | rfl | rfl | rfl
  · refine pv_pc 28 rfl ?_
    refine lv_iload hx hb dL_law_28 (lv_at hl 0 rfl) ?_
    refine lv_aload_n hx hb dL_law_30 rfl (lv_at hl 5 rfl) ?_
    refine va_slen hx hb hX hbl hbA hS dL_law_31 ?_
    refine pv_setI 0 rfl ?_
    refine lv_bipush (v := 7) hx hb dL_law_32 (by decide) ?_
    refine lv_isub hx hb dL_law_34 ?_
    refine pv_setI (-7) (by decide) ?_
    refine lv_icmp_gt (tgt := 3727) hx hb dL_law_35 (by decide) (fun _ => ?_) (fun c_9 => absurd (by decide) c_9)
    refine lv_iconst (v := 1) hx hb dL_law_3727 (by decide) ?_
    refine va_forget (fun q hq => hAf _ (hS.2.2 q hq)) ?_
    refine W.widen (k := 600006) (n := 7302064) (Nat.le_of_ble_eq_true rfl) (Nat.le_of_ble_eq_true rfl) ?_
    exact lw_ret (d0 := s.drawn) (Drawn.sameBut.refl s.drawn lw_cs) hx hb hr hlocks dL_law_3728
  · refine pv_pc 28 rfl ?_
    refine lv_iload hx hb dL_law_28 (lv_at hl 0 rfl) ?_
    refine lv_aload_n hx hb dL_law_30 rfl (lv_at hl 5 rfl) ?_
    refine va_slen hx hb hX hbl hbA hS dL_law_31 ?_
    refine pv_setI 1 rfl ?_
    refine lv_bipush (v := 7) hx hb dL_law_32 (by decide) ?_
    refine lv_isub hx hb dL_law_34 ?_
    refine pv_setI (-6) (by decide) ?_
    refine lv_icmp_gt (tgt := 3727) hx hb dL_law_35 (by decide) (fun _ => ?_) (fun c_10 => absurd (by decide) c_10)
    refine lv_iconst (v := 1) hx hb dL_law_3727 (by decide) ?_
    refine va_forget (fun q hq => hAf _ (hS.2.2 q hq)) ?_
    refine W.widen (k := 600006) (n := 7302064) (Nat.le_of_ble_eq_true rfl) (Nat.le_of_ble_eq_true rfl) ?_
    exact lw_ret (d0 := s.drawn) (Drawn.sameBut.refl s.drawn lw_cs) hx hb hr hlocks dL_law_3728
  · refine pv_pc 28 rfl ?_
    refine lv_iload hx hb dL_law_28 (lv_at hl 0 rfl) ?_
    refine lv_aload_n hx hb dL_law_30 rfl (lv_at hl 5 rfl) ?_
    refine va_slen hx hb hX hbl hbA hS dL_law_31 ?_
    refine pv_setI 2 rfl ?_
    refine lv_bipush (v := 7) hx hb dL_law_32 (by decide) ?_
    refine lv_isub hx hb dL_law_34 ?_
    refine pv_setI (-5) (by decide) ?_
    refine lv_icmp_gt (tgt := 3727) hx hb dL_law_35 (by decide) (fun _ => ?_) (fun c_11 => absurd (by decide) c_11)
    refine lv_iconst (v := 1) hx hb dL_law_3727 (by decide) ?_
    refine va_forget (fun q hq => hAf _ (hS.2.2 q hq)) ?_
    refine W.widen (k := 600006) (n := 7302064) (Nat.le_of_ble_eq_true rfl) (Nat.le_of_ble_eq_true rfl) ?_
    exact lw_ret (d0 := s.drawn) (Drawn.sameBut.refl s.drawn lw_cs) hx hb hr hlocks dL_law_3728
  · refine pv_pc 28 rfl ?_
    refine lv_iload hx hb dL_law_28 (lv_at hl 0 rfl) ?_
    refine lv_aload_n hx hb dL_law_30 rfl (lv_at hl 5 rfl) ?_
    refine va_slen hx hb hX hbl hbA hS dL_law_31 ?_
    refine pv_setI 3 rfl ?_
    refine lv_bipush (v := 7) hx hb dL_law_32 (by decide) ?_
    refine lv_isub hx hb dL_law_34 ?_
    refine pv_setI (-4) (by decide) ?_
    refine lv_icmp_gt (tgt := 3727) hx hb dL_law_35 (by decide) (fun _ => ?_) (fun c_12 => absurd (by decide) c_12)
    refine lv_iconst (v := 1) hx hb dL_law_3727 (by decide) ?_
    refine va_forget (fun q hq => hAf _ (hS.2.2 q hq)) ?_
    refine W.widen (k := 600006) (n := 7302064) (Nat.le_of_ble_eq_true rfl) (Nat.le_of_ble_eq_true rfl) ?_
    exact lw_ret (d0 := s.drawn) (Drawn.sameBut.refl s.drawn lw_cs) hx hb hr hlocks dL_law_3728
  · refine pv_pc 28 rfl ?_
    refine lv_iload hx hb dL_law_28 (lv_at hl 0 rfl) ?_
    refine lv_aload_n hx hb dL_law_30 rfl (lv_at hl 5 rfl) ?_
    refine va_slen hx hb hX hbl hbA hS dL_law_31 ?_
    refine pv_setI 4 rfl ?_
    refine lv_bipush (v := 7) hx hb dL_law_32 (by decide) ?_
    refine lv_isub hx hb dL_law_34 ?_
    refine pv_setI (-3) (by decide) ?_
    refine lv_icmp_gt (tgt := 3727) hx hb dL_law_35 (by decide) (fun _ => ?_) (fun c_13 => absurd (by decide) c_13)
    refine lv_iconst (v := 1) hx hb dL_law_3727 (by decide) ?_
    refine va_forget (fun q hq => hAf _ (hS.2.2 q hq)) ?_
    refine W.widen (k := 600006) (n := 7302064) (Nat.le_of_ble_eq_true rfl) (Nat.le_of_ble_eq_true rfl) ?_
    exact lw_ret (d0 := s.drawn) (Drawn.sameBut.refl s.drawn lw_cs) hx hb hr hlocks dL_law_3728
  · refine pv_pc 28 rfl ?_
    refine lv_iload hx hb dL_law_28 (lv_at hl 0 rfl) ?_
    refine lv_aload_n hx hb dL_law_30 rfl (lv_at hl 5 rfl) ?_
    refine va_slen hx hb hX hbl hbA hS dL_law_31 ?_
    refine pv_setI 5 rfl ?_
    refine lv_bipush (v := 7) hx hb dL_law_32 (by decide) ?_
    refine lv_isub hx hb dL_law_34 ?_
    refine pv_setI (-2) (by decide) ?_
    refine lv_icmp_gt (tgt := 3727) hx hb dL_law_35 (by decide) (fun _ => ?_) (fun c_14 => absurd (by decide) c_14)
    refine lv_iconst (v := 1) hx hb dL_law_3727 (by decide) ?_
    refine va_forget (fun q hq => hAf _ (hS.2.2 q hq)) ?_
    refine W.widen (k := 600006) (n := 7302064) (Nat.le_of_ble_eq_true rfl) (Nat.le_of_ble_eq_true rfl) ?_
    exact lw_ret (d0 := s.drawn) (Drawn.sameBut.refl s.drawn lw_cs) hx hb hr hlocks dL_law_3728
  · refine pv_pc 28 rfl ?_
    refine lv_iload hx hb dL_law_28 (lv_at hl 0 rfl) ?_
    refine lv_aload_n hx hb dL_law_30 rfl (lv_at hl 5 rfl) ?_
    refine va_slen hx hb hX hbl hbA hS dL_law_31 ?_
    refine pv_setI 6 rfl ?_
    refine lv_bipush (v := 7) hx hb dL_law_32 (by decide) ?_
    refine lv_isub hx hb dL_law_34 ?_
    refine pv_setI (-1) (by decide) ?_
    refine lv_icmp_gt (tgt := 3727) hx hb dL_law_35 (by decide) (fun _ => ?_) (fun c_15 => absurd (by decide) c_15)
    refine lv_iconst (v := 1) hx hb dL_law_3727 (by decide) ?_
    refine va_forget (fun q hq => hAf _ (hS.2.2 q hq)) ?_
    refine W.widen (k := 600006) (n := 7302064) (Nat.le_of_ble_eq_true rfl) (Nat.le_of_ble_eq_true rfl) ?_
    exact lw_ret (d0 := s.drawn) (Drawn.sameBut.refl s.drawn lw_cs) hx hb hr hlocks dL_law_3728
  · refine pv_pc 28 rfl ?_
    refine lv_iload hx hb dL_law_28 (lv_at hl 0 rfl) ?_
    refine lv_aload_n hx hb dL_law_30 rfl (lv_at hl 5 rfl) ?_
    refine va_slen hx hb hX hbl hbA hS dL_law_31 ?_
    refine pv_setI 7 rfl ?_
    refine lv_bipush (v := 7) hx hb dL_law_32 (by decide) ?_
    refine lv_isub hx hb dL_law_34 ?_
    refine pv_setI 0 (by decide) ?_
    refine lv_icmp_gt (tgt := 3727) hx hb dL_law_35 (by decide) (fun c_16 => absurd c_16 (by decide)) (fun _ => ?_)
    refine lv_aload_n hx hb dL_law_38 rfl (lv_at hl 5 rfl) ?_
    refine lv_iload hx hb dL_law_39 (lv_at hl 0 rfl) ?_
    refine va_sld hx hb hX hbl hbA hS (by unfold vp_in; decide) dL_law_41 ?_
    refine pv_setI (xs 0) rfl ?_
    refine lv_bipush (v := 63) hx hb dL_law_42 (by decide) ?_
    refine lv_iand hx hb dL_law_44 ?_
    refine lv_topi (fun x_17 ex_17 => ?_)
    obtain ⟨j, hj, ej⟩ := pk_andE (xs 0) (m := 63) 6 (by decide)
    rw [ej] at ex_17
    subst ex_17
    have hl : lv_has ls 9 [(0, .ref b), (1, .ref q_1), (2, .ref q_3), (3, .ref q_5), (4, .ref q_7), (5, .int 0)] := lv_sub hl [5, 4, 3, 2, 1, 0] rfl
    revert j
    suffices hh : ∀ j : Nat, 0 ≤ j → j < 64 → W p l e room_1 s m #[Value.ref b] below meth c H locs1 397 653821 (lw_Z below #[Value.ref b] s) (F0 m 45 ls [.int (nI j)]) from fun j hj _ => hh j (Nat.zero_le j) hj
    refine pv_nx 0 (fun _ => ?_) ?_
    · refine lv_tableIn (off := 227) (tgt := 272) hx hb dL_law_45 (by decide +kernel) (by decide +kernel) (by decide +kernel) (by decide) ?_
      exact law_case_0 l hfl C0 hA hAf hbA hE hxsg hmsg hK hP hD hS hl
    refine pv_nx 1 (fun _ => ?_) ?_
    · refine lv_tableIn (off := 295) (tgt := 340) hx hb dL_law_45 (by decide +kernel) (by decide +kernel) (by decide +kernel) (by decide) ?_
      exact law_case_1 l hfl C0 hA hAf hbA hE hxsg hmsg hK hP hD hS hl
    refine pv_nx 2 (fun _ => ?_) ?_
    · refine lv_tableIn (off := 363) (tgt := 408) hx hb dL_law_45 (by decide +kernel) (by decide +kernel) (by decide +kernel) (by decide) ?_
      exact law_case_2 l hfl C0 hA hAf hbA hE hxsg hmsg hK hP hD hS hl
    refine pv_nx 3 (fun _ => ?_) ?_
    · refine lv_tableIn (off := 431) (tgt := 476) hx hb dL_law_45 (by decide +kernel) (by decide +kernel) (by decide +kernel) (by decide) ?_
      exact law_case_3 l hfl C0 hA hAf hbA hE hxsg hmsg hK hP hD hS hl
    refine pv_nx 4 (fun _ => ?_) ?_
    · refine lv_tableIn (off := 499) (tgt := 544) hx hb dL_law_45 (by decide +kernel) (by decide +kernel) (by decide +kernel) (by decide) ?_
      exact law_case_4 l hfl C0 hA hAf hbA hE hxsg hmsg hK hP hD hS hl
    refine pv_nx 5 (fun _ => ?_) ?_
    · refine lv_tableIn (off := 567) (tgt := 612) hx hb dL_law_45 (by decide +kernel) (by decide +kernel) (by decide +kernel) (by decide) ?_
      exact law_case_5 l hfl C0 hA hAf hbA hE hxsg hmsg hK hP hD hS hl
    refine pv_nx 6 (fun _ => ?_) ?_
    · refine lv_tableIn (off := 635) (tgt := 680) hx hb dL_law_45 (by decide +kernel) (by decide +kernel) (by decide +kernel) (by decide) ?_
      exact law_case_6 l hfl C0 hA hAf hbA hE hxsg hmsg hK hP hD hS hl
    refine pv_nx 7 (fun _ => ?_) ?_
    · refine lv_tableIn (off := 648) (tgt := 693) hx hb dL_law_45 (by decide +kernel) (by decide +kernel) (by decide +kernel) (by decide) ?_
      exact law_case_7 l hfl C0 hA hAf hbA hE hxsg hmsg hK hP hD hS hl
    refine pv_nx 8 (fun _ => ?_) ?_
    · refine lv_tableIn (off := 704) (tgt := 749) hx hb dL_law_45 (by decide +kernel) (by decide +kernel) (by decide +kernel) (by decide) ?_
      exact law_case_8 l hfl C0 hA hAf hbA hE hxsg hmsg hK hP hD hS hl
    refine pv_nx 9 (fun _ => ?_) ?_
    · refine lv_tableIn (off := 760) (tgt := 805) hx hb dL_law_45 (by decide +kernel) (by decide +kernel) (by decide +kernel) (by decide) ?_
      exact law_case_9 l hfl C0 hA hAf hbA hE hxsg hmsg hK hP hD hS hl
    refine pv_nx 10 (fun _ => ?_) ?_
    · refine lv_tableIn (off := 816) (tgt := 861) hx hb dL_law_45 (by decide +kernel) (by decide +kernel) (by decide +kernel) (by decide) ?_
      exact law_case_10 l hfl C0 hA hAf hbA hE hxsg hmsg hK hP hD hS hl
    refine pv_nx 11 (fun _ => ?_) ?_
    · refine lv_tableIn (off := 884) (tgt := 929) hx hb dL_law_45 (by decide +kernel) (by decide +kernel) (by decide +kernel) (by decide) ?_
      exact law_case_11 l hfl C0 hA hAf hbA hE hxsg hmsg hK hP hD hS hl
    refine pv_nx 12 (fun _ => ?_) ?_
    · refine lv_tableIn (off := 951) (tgt := 996) hx hb dL_law_45 (by decide +kernel) (by decide +kernel) (by decide +kernel) (by decide) ?_
      exact law_case_12 l hfl C0 hA hAf hbA hE hxsg hmsg hK hP hD hS hl
    refine pv_nx 13 (fun _ => ?_) ?_
    · refine lv_tableIn (off := 1031) (tgt := 1076) hx hb dL_law_45 (by decide +kernel) (by decide +kernel) (by decide +kernel) (by decide) ?_
      exact law_case_13 l hfl C0 hA hAf hbA hE hxsg hmsg hK hP hD hS hl
    refine pv_nx 14 (fun _ => ?_) ?_
    · refine lv_tableIn (off := 1089) (tgt := 1134) hx hb dL_law_45 (by decide +kernel) (by decide +kernel) (by decide +kernel) (by decide) ?_
      exact law_case_14 l hfl C0 hA hAf hbA hE hxsg hmsg hK hP hD hS hl
    refine pv_nx 15 (fun _ => ?_) ?_
    · refine lv_tableIn (off := 1157) (tgt := 1202) hx hb dL_law_45 (by decide +kernel) (by decide +kernel) (by decide +kernel) (by decide) ?_
      exact law_case_15 l hfl C0 hA hAf hbA hE hxsg hmsg hK hP hD hS hl
    refine pv_nx 16 (fun _ => ?_) ?_
    · refine lv_tableIn (off := 1225) (tgt := 1270) hx hb dL_law_45 (by decide +kernel) (by decide +kernel) (by decide +kernel) (by decide) ?_
      exact law_case_16 l hfl C0 hA hAf hbA hE hxsg hmsg hK hP hD hS hl
    refine pv_nx 17 (fun _ => ?_) ?_
    · refine lv_tableIn (off := 1305) (tgt := 1350) hx hb dL_law_45 (by decide +kernel) (by decide +kernel) (by decide +kernel) (by decide) ?_
      exact law_case_17 l hfl C0 hA hAf hbA hE hxsg hmsg hK hP hD hS hl
    refine pv_nx 18 (fun _ => ?_) ?_
    · refine lv_tableIn (off := 1397) (tgt := 1442) hx hb dL_law_45 (by decide +kernel) (by decide +kernel) (by decide +kernel) (by decide) ?_
      exact law_case_18 l hfl C0 hA hAf hbA hE hxsg hmsg hK hP hD hS hl
    refine pv_nx 19 (fun _ => ?_) ?_
    · refine lv_tableIn (off := 1452) (tgt := 1497) hx hb dL_law_45 (by decide +kernel) (by decide +kernel) (by decide +kernel) (by decide) ?_
      exact law_case_19 l hfl C0 hA hAf hbA hE hxsg hmsg hK hP hD hS hl
    refine pv_nx 20 (fun _ => ?_) ?_
    · refine lv_tableIn (off := 1508) (tgt := 1553) hx hb dL_law_45 (by decide +kernel) (by decide +kernel) (by decide +kernel) (by decide) ?_
      exact law_case_20 l hfl C0 hA hAf hbA hE hxsg hmsg hK hP hD hS hl
    refine pv_nx 21 (fun _ => ?_) ?_
    · refine lv_tableIn (off := 1576) (tgt := 1621) hx hb dL_law_45 (by decide +kernel) (by decide +kernel) (by decide +kernel) (by decide) ?_
      exact law_case_21 l hfl C0 hA hAf hbA hE hxsg hmsg hK hP hD hS hl
    refine pv_nx 22 (fun _ => ?_) ?_
    · refine lv_tableIn (off := 1644) (tgt := 1689) hx hb dL_law_45 (by decide +kernel) (by decide +kernel) (by decide +kernel) (by decide) ?_
      exact law_case_22 l hfl C0 hA hAf hbA hE hxsg hmsg hK hP hD hS hl
    refine pv_nx 23 (fun _ => ?_) ?_
    · refine lv_tableIn (off := 1712) (tgt := 1757) hx hb dL_law_45 (by decide +kernel) (by decide +kernel) (by decide +kernel) (by decide) ?_
      exact law_case_23 l hfl C0 hA hAf hbA hE hxsg hmsg hK hP hD hS hl
    refine pv_nx 24 (fun _ => ?_) ?_
    · refine lv_tableIn (off := 1780) (tgt := 1825) hx hb dL_law_45 (by decide +kernel) (by decide +kernel) (by decide +kernel) (by decide) ?_
      exact law_case_24 l hfl C0 hA hAf hbA hE hxsg hmsg hK hP hD hS hl
    refine pv_nx 25 (fun _ => ?_) ?_
    · refine lv_tableIn (off := 1836) (tgt := 1881) hx hb dL_law_45 (by decide +kernel) (by decide +kernel) (by decide +kernel) (by decide) ?_
      exact law_case_25 l hfl C0 hA hAf hbA hE hxsg hmsg hK hP hD hS hl
    refine pv_nx 26 (fun _ => ?_) ?_
    · refine lv_tableIn (off := 1904) (tgt := 1949) hx hb dL_law_45 (by decide +kernel) (by decide +kernel) (by decide +kernel) (by decide) ?_
      exact law_case_26 l hfl C0 hA hAf hbA hE hxsg hmsg hK hP hD hS hl
    refine pv_nx 27 (fun _ => ?_) ?_
    · refine lv_tableIn (off := 1972) (tgt := 2017) hx hb dL_law_45 (by decide +kernel) (by decide +kernel) (by decide +kernel) (by decide) ?_
      exact law_case_27 l hfl C0 hA hAf hbA hE hxsg hmsg hK hP hD hS hl
    refine pv_nx 28 (fun _ => ?_) ?_
    · refine lv_tableIn (off := 2035) (tgt := 2080) hx hb dL_law_45 (by decide +kernel) (by decide +kernel) (by decide +kernel) (by decide) ?_
      exact law_case_28 l hfl C0 hA hAf hbA hE hxsg hmsg hK hP hD hS hl
    refine pv_nx 29 (fun _ => ?_) ?_
    · refine lv_tableIn (off := 2091) (tgt := 2136) hx hb dL_law_45 (by decide +kernel) (by decide +kernel) (by decide +kernel) (by decide) ?_
      exact law_case_29 l hfl C0 hA hAf hbA hE hxsg hmsg hK hP hD hS hl
    refine pv_nx 30 (fun _ => ?_) ?_
    · refine lv_tableIn (off := 2159) (tgt := 2204) hx hb dL_law_45 (by decide +kernel) (by decide +kernel) (by decide +kernel) (by decide) ?_
      exact law_case_30 l hfl C0 hA hAf hbA hE hxsg hmsg hK hP hD hS hl
    refine pv_nx 31 (fun _ => ?_) ?_
    · refine lv_tableIn (off := 2227) (tgt := 2272) hx hb dL_law_45 (by decide +kernel) (by decide +kernel) (by decide +kernel) (by decide) ?_
      exact law_case_31 l hfl C0 hA hAf hbA hE hxsg hmsg hK hP hD hS hl
    refine pv_nx 32 (fun _ => ?_) ?_
    · refine lv_tableIn (off := 2307) (tgt := 2352) hx hb dL_law_45 (by decide +kernel) (by decide +kernel) (by decide +kernel) (by decide) ?_
      exact law_case_32 l hfl C0 hA hAf hbA hE hxsg hmsg hK hP hD hS hl
    refine pv_nx 33 (fun _ => ?_) ?_
    · refine lv_tableIn (off := 2387) (tgt := 2432) hx hb dL_law_45 (by decide +kernel) (by decide +kernel) (by decide +kernel) (by decide) ?_
      exact law_case_33 l hfl C0 hA hAf hbA hE hxsg hmsg hK hP hD hS hl
    refine pv_nx 34 (fun _ => ?_) ?_
    · refine lv_tableIn (off := 2467) (tgt := 2512) hx hb dL_law_45 (by decide +kernel) (by decide +kernel) (by decide +kernel) (by decide) ?_
      exact law_case_34 l hfl C0 hA hAf hbA hE hxsg hmsg hK hP hD hS hl
    refine pv_nx 35 (fun _ => ?_) ?_
    · refine lv_tableIn (off := 2523) (tgt := 2568) hx hb dL_law_45 (by decide +kernel) (by decide +kernel) (by decide +kernel) (by decide) ?_
      exact law_case_35 l hfl C0 hA hAf hbA hE hxsg hmsg hK hP hD hS hl
    refine pv_nx 36 (fun _ => ?_) ?_
    · refine lv_tableIn (off := 2591) (tgt := 2636) hx hb dL_law_45 (by decide +kernel) (by decide +kernel) (by decide +kernel) (by decide) ?_
      exact law_case_36 l hfl C0 hA hAf hbA hE hxsg hmsg hK hP hD hS hl
    refine pv_nx 37 (fun _ => ?_) ?_
    · refine lv_tableIn (off := 2647) (tgt := 2692) hx hb dL_law_45 (by decide +kernel) (by decide +kernel) (by decide +kernel) (by decide) ?_
      exact law_case_37 l hfl C0 hA hAf hbA hE hxsg hmsg hK hP hD hS hl
    refine pv_nx 38 (fun _ => ?_) ?_
    · refine lv_tableIn (off := 2715) (tgt := 2760) hx hb dL_law_45 (by decide +kernel) (by decide +kernel) (by decide +kernel) (by decide) ?_
      exact law_case_38 l hfl C0 hA hAf hbA hE hxsg hmsg hK hP hD hS hl
    refine pv_nx 39 (fun _ => ?_) ?_
    · refine lv_tableIn (off := 2795) (tgt := 2840) hx hb dL_law_45 (by decide +kernel) (by decide +kernel) (by decide +kernel) (by decide) ?_
      exact law_case_39 l hfl C0 hA hAf hbA hE hxsg hmsg hK hP hD hS hl
    refine pv_nx 40 (fun _ => ?_) ?_
    · refine lv_tableIn (off := 2887) (tgt := 2932) hx hb dL_law_45 (by decide +kernel) (by decide +kernel) (by decide +kernel) (by decide) ?_
      exact law_case_40 l hfl C0 hA hAf hbA hE hxsg hmsg hK hP hD hS hl
    refine pv_nx 41 (fun _ => ?_) ?_
    · refine lv_tableIn (off := 2955) (tgt := 3000) hx hb dL_law_45 (by decide +kernel) (by decide +kernel) (by decide +kernel) (by decide) ?_
      exact law_case_41 l hfl C0 hA hAf hbA hE hxsg hmsg hK hP hD hS hl
    refine pv_nx 42 (fun _ => ?_) ?_
    · refine lv_tableIn (off := 3030) (tgt := 3075) hx hb dL_law_45 (by decide +kernel) (by decide +kernel) (by decide +kernel) (by decide) ?_
      exact law_case_42 l hfl C0 hA hAf hbA hE hxsg hmsg hK hP hD hS hl
    refine pv_nx 43 (fun _ => ?_) ?_
    · refine lv_tableIn (off := 3086) (tgt := 3131) hx hb dL_law_45 (by decide +kernel) (by decide +kernel) (by decide +kernel) (by decide) ?_
      exact law_case_43 l hfl C0 hA hAf hbA hE hxsg hmsg hK hP hD hS hl
    refine pv_nx 44 (fun _ => ?_) ?_
    · refine lv_tableIn (off := 3206) (tgt := 3251) hx hb dL_law_45 (by decide +kernel) (by decide +kernel) (by decide +kernel) (by decide) ?_
      exact law_case_44 l hfl C0 hA hAf hbA hE hxsg hmsg hK hP hD hS hl
    refine pv_nx 45 (fun _ => ?_) ?_
    · refine lv_tableIn (off := 3276) (tgt := 3321) hx hb dL_law_45 (by decide +kernel) (by decide +kernel) (by decide +kernel) (by decide) ?_
      exact law_case_45 l hfl C0 hA hAf hbA hE hxsg hmsg hK hP hD hS hl
    refine pv_nx 46 (fun _ => ?_) ?_
    · refine lv_tableIn (off := 3320) (tgt := 3365) hx hb dL_law_45 (by decide +kernel) (by decide +kernel) (by decide +kernel) (by decide) ?_
      exact law_case_46 l hfl C0 hA hAf hbA hE hxsg hmsg hK hP hD hS hl
    refine pv_nx 47 (fun _ => ?_) ?_
    · refine lv_tableIn (off := 3364) (tgt := 3409) hx hb dL_law_45 (by decide +kernel) (by decide +kernel) (by decide +kernel) (by decide) ?_
      exact law_case_47 l hfl C0 hA hAf hbA hE hxsg hmsg hK hP hD hS hl
    refine pv_nx 48 (fun _ => ?_) ?_
    · refine lv_tableIn (off := 3420) (tgt := 3465) hx hb dL_law_45 (by decide +kernel) (by decide +kernel) (by decide +kernel) (by decide) ?_
      exact law_case_48 l hfl C0 hA hAf hbA hE hxsg hmsg hK hP hD hS hl
    refine pv_nx 49 (fun _ => ?_) ?_
    · refine lv_tableIn (off := 3476) (tgt := 3521) hx hb dL_law_45 (by decide +kernel) (by decide +kernel) (by decide +kernel) (by decide) ?_
      exact law_case_49 l hfl C0 hA hAf hbA hE hxsg hmsg hK hP hD hS hl
    refine pv_nx 50 (fun _ => ?_) ?_
    · refine lv_tableIn (off := 3532) (tgt := 3577) hx hb dL_law_45 (by decide +kernel) (by decide +kernel) (by decide +kernel) (by decide) ?_
      exact law_case_50 l hfl C0 hA hAf hbA hE hxsg hmsg hK hP hD hS hl
    refine pv_nx 51 (fun _ => ?_) ?_
    · refine lv_tableIn (off := 3598) (tgt := 3643) hx hb dL_law_45 (by decide +kernel) (by decide +kernel) (by decide +kernel) (by decide) ?_
      exact law_case_51 l hfl C0 hA hAf hbA hE hxsg hmsg hK hP hD hS hl
    refine pv_nx 52 (fun _ => ?_) ?_
    · refine lv_tableIn (off := 3663) (tgt := 3708) hx hb dL_law_45 (by decide +kernel) (by decide +kernel) (by decide +kernel) (by decide) ?_
      exact law_case_52 l hfl C0 hA hAf hbA hE hxsg hmsg hK hP hD hS hl
    intro j hj1 hj
    refine lv_tableOut (tgt := 3721) hx hb dL_law_45 (Or.inr (by rw [nI_toInt (by omega)]; omega)) (by decide) ?_
    refine pv_pc 3721 rfl ?_
    refine lv_iinc (v := 7) (lv' := [(5, .int 7), (0, .ref b), (1, .ref q_1), (2, .ref q_3), (3, .ref q_5), (4, .ref q_7)]) hx hb dL_law_3721 hl (k := 5) rfl (by decide) (by decide) rfl (fun ls hl => ?_)
    refine lv_goto (tgt := 28) hx hb dL_law_3724 (by decide) ?_
    refine lv_iload hx hb dL_law_28 (lv_at hl 0 rfl) ?_
    refine lv_aload_n hx hb dL_law_30 rfl (lv_at hl 1 rfl) ?_
    refine va_slen hx hb hX hbl hbA hS dL_law_31 ?_
    refine pv_setI 7 rfl ?_
    refine lv_bipush (v := 7) hx hb dL_law_32 (by decide) ?_
    refine lv_isub hx hb dL_law_34 ?_
    refine pv_setI 0 (by decide) ?_
    refine lv_icmp_gt (tgt := 3727) hx hb dL_law_35 (by decide) (fun _ => ?_) (fun c_18 => absurd (by decide) c_18)
    refine lv_iconst (v := 1) hx hb dL_law_3727 (by decide) ?_
    refine va_forget (fun q hq => hAf _ (hS.2.2 q hq)) ?_
    refine W.widen (k := 600006) (n := 7302064) (Nat.le_of_ble_eq_true rfl) (Nat.le_of_ble_eq_true rfl) ?_
    exact lw_ret (d0 := s.drawn) (Drawn.sameBut.refl s.drawn lw_cs) hx hb hr hlocks dL_law_3728
