-- the words of the tables that keep, and what goes with every method
def pv_W : List Cond := lw_tbl.filter goodWord
theorem pv_in {w : Cond} (h : w ∈ lw_tbl) (g : goodWord w = true) : w ∈ pv_W := List.mem_filter.mpr ⟨h, g⟩
theorem pv_gd : ∀ w ∈ pv_W, (w.onTables && w.keeps) = true ∨ ∃ ty, w = .arrayClass ty := fun _ h => good_of_word (List.mem_filter.mp h).2
theorem pv_mg {l : List Cond} (k : Nat) {w : Cond} (h : l[k]? = some w) : w ∈ l := List.mem_of_getElem? h
theorem pv_t {w : Cond} (h : w ∈ tables_1) : w ∈ lw_tbl := List.mem_append_right _ h
theorem pv_gC {y : MethodName} {b : ByteArray} {n : Nat} {r : Option FieldType} (h : Cond.code y b n r ∈ lw_tbl) : GoodIn pv_W (Cond.code y b n r :: pv_W) := fun w hw => (List.mem_cons.mp hw).elim (fun e => by subst e; exact ⟨pv_in h rfl, Or.inl rfl⟩) (fun h2 => ⟨h2, pv_gd w h2⟩)
theorem pv_gCW {y : MethodName} {b : ByteArray} {n : Nat} {r : Option FieldType} {hh : List (Nat × Nat × Nat × Nat)} (h : Cond.codeWith y b n r hh ∈ lw_tbl) : GoodIn pv_W (Cond.codeWith y b n r hh :: pv_W) := fun w hw => (List.mem_cons.mp hw).elim (fun e => by subst e; exact ⟨pv_in h rfl, Or.inl rfl⟩) (fun h2 => ⟨h2, pv_gd w h2⟩)
theorem pv_g1 {w : Cond} (h : w ∈ lw_tbl) (g : goodWord w = true) : w ∈ pv_W ∧ ((w.onTables && w.keeps) = true ∨ ∃ ty, w = .arrayClass ty) := ⟨pv_in h g, good_of_word g⟩
theorem pv_gS {own : String} {idx : Nat} {y : MethodName} {b : ByteArray} {n : Nat} {r : Option FieldType} (h1 : Cond.methodLink own idx y ∈ lw_tbl) (h2 : Cond.static y ∈ lw_tbl) (h3 : Cond.initialized y.cls ∈ lw_tbl) (h4 : Cond.code y b n r ∈ lw_tbl) : GoodIn pv_W (va_wsS own idx y (Cond.code y b n r :: pv_W)) := fun w hw => (List.mem_append.mp hw).elim (fun h => by
    simp only [List.mem_cons, List.not_mem_nil, or_false] at h
    rcases h with rfl | rfl | rfl
    · exact pv_g1 h1 rfl
    · exact pv_g1 h2 rfl
    · exact pv_g1 h3 rfl) (fun h => pv_gC h4 w h)
theorem pv_gSW {own : String} {idx : Nat} {y : MethodName} {b : ByteArray} {n : Nat} {r : Option FieldType} {hh : List (Nat × Nat × Nat × Nat)} (h1 : Cond.methodLink own idx y ∈ lw_tbl) (h2 : Cond.static y ∈ lw_tbl) (h3 : Cond.initialized y.cls ∈ lw_tbl) (h4 : Cond.codeWith y b n r hh ∈ lw_tbl) : GoodIn pv_W (va_wsS own idx y (Cond.codeWith y b n r hh :: pv_W)) := fun w hw => (List.mem_append.mp hw).elim (fun h => by
    simp only [List.mem_cons, List.not_mem_nil, or_false] at h
    rcases h with rfl | rfl | rfl
    · exact pv_g1 h1 rfl
    · exact pv_g1 h2 rfl
    · exact pv_g1 h3 rfl) (fun h => pv_gCW h4 w h)
theorem pv_gV {own C : String} {idx : Nat} {y : MethodName} {b : ByteArray} {n : Nat} {r : Option FieldType} (h1 : Cond.methodLink own idx y ∈ lw_tbl) (h2 : Cond.instanceMethod y ∈ lw_tbl) (h5 : Cond.selects C y y ∈ lw_tbl) (h3 : Cond.initialized C ∈ lw_tbl) (h4 : Cond.code y b n r ∈ lw_tbl) : GoodIn pv_W (wsV own idx C y (Cond.code y b n r :: pv_W)) := fun w hw => (List.mem_append.mp hw).elim (fun h => by
    simp only [List.mem_cons, List.not_mem_nil, or_false] at h
    rcases h with rfl | rfl | rfl | rfl
    · exact pv_g1 h1 rfl
    · exact pv_g1 h2 rfl
    · exact pv_g1 h5 rfl
    · exact pv_g1 h3 rfl) (fun h => pv_gC h4 w h)
-- words that are no good words: castable, declares, the two of nest mates
def pv_kind : Cond → Bool
  | .declares _ | .castable .. | .fieldLinkNest .. | .methodLinkNest .. => true
  | _ => false
def pv_bw : List Cond := lw_tbl.filter pv_kind
theorem pv_ib {w : Cond} (h : w ∈ lw_tbl) (g : pv_kind w = true) : w ∈ pv_bw := List.mem_filter.mpr ⟨h, g⟩
theorem pv_Nw_warm {w : Cond} {s U : State} (hk : pv_kind w = true) (hW : s.WarmedH U.vm) (h : va_Nw w s) : va_Nw w U := by
  cases w <;> first | exact va_Nw.warmD hW h | exact va_Nw.warmC hW h | exact va_Nw.warmF hW h | exact va_Nw.warmM hW h | (simp [pv_kind] at hk; done)
theorem pv_kind_on {w : Cond} (hk : pv_kind w = true) : w.onTables = true := by
  cases w <;> first | rfl | (simp [pv_kind] at hk; done)
-- the types whose arrays are made
def pv_ot : List FieldType := [.object "Polyforge$Polynomial", .object "Polyforge$Ideal", .object "Polyforge$Rule", .object "Polyforge$Line", .object "PolyforgeModel$Terms", .array .int, .array .boolean, .array .long]
/-- what every call takes along: the statics of Throwable, the words above, the texts -/
def pv_E (A : Nat → Prop) (U : State) (H : Heap) : Prop := vx_Zq Bundle.tN "UNASSIGNED_STACK" Bundle.steD A U H ∧ vx_Zq Bundle.tN "SUPPRESSED_SENTINEL" Bundle.listD A U H ∧ (∀ w ∈ pv_bw, va_Nw w U) ∧ (∀ q ∈ pv_tx, ∃ a : Nat, vk_R RX11 q.1 q.2 a U) ∧ ∀ ty ∈ pv_ot, (Cond.arrayOver ty).before #[] U = true
theorem pv_E.warm {A : Nat → Prop} {s U : State} {H : Heap} (hW : s.WarmedH U.vm) (h : pv_E A s H) : pv_E A U H := by
  obtain ⟨h1, h2, h3, h4, h5⟩ := h
  refine ⟨vx_Zq.moved hW.alike h1, vx_Zq.moved hW.alike h2, fun w hw => pv_Nw_warm (List.mem_filter.mp hw).2 hW (h3 w hw), fun q hq => ?_, fun ty ht => (Cond.arrayOver_setVmC (args := #[]) (s := s) (vm' := U.vm) hW.alike ty).trans (h5 ty ht)⟩
  obtain ⟨a, ha⟩ := h4 q hq
  exact ⟨a, vk_R.warm hW ha⟩
theorem pv_E.kept {A : Nat → Prop} {s : State} {H H1 : Heap} (h : pv_E A s H) (hq : ∀ a : Nat, a < H.size → ¬ A a → H1[a]? = H[a]?) : pv_E A s H1 := ⟨h.1.kept hq, h.2.1.kept hq, h.2.2⟩
theorem pv_E.narrow {A B : Nat → Prop} {s : State} {H : Heap} (h : pv_E A s H) (hAB : ∀ q, B q → A q) : pv_E B s H := ⟨h.1.narrow hAB, h.2.1.narrow hAB, h.2.2⟩
def pv_P (D : va_G) (tys : List (ClassId × FieldType)) (ws : va_W) (A : Nat → Prop) (sz : Nat) (U : State) : Prop := U.heap.size = sz ∧ pv_E A U U.heap ∧ va_P D pv_cl ws U.heap ∧ va_K D pv_cl tys U ∧ va_D (fun _ => True) ws
theorem pv_blind {av : List Value} {D : va_G} {tys : List (ClassId × FieldType)} {ws : va_W} {A : Nat → Prop} {sz : Nat} : FrameBlind (va_Pc av (pv_P D tys ws A sz)) := by
  intro a U g mk h
  obtain ⟨h0, h1, h2, h3, h4, h5⟩ := h
  exact ⟨h0, h1, pv_E.warm (s := U) (U := U.calling g mk a) (State.WarmedH.refl U) h2, h3, va_K.moved (u := U) (U := U.calling g mk a) (Vm.Alike.refl U.vm) h4, h5⟩
theorem pv_pre {D : va_G} {tys : List (ClassId × FieldType)} {ws : va_W} {A0 B A9 : Nat → Prop} {s U : State} {H : Heap} {locs : List Loc} (hE : pv_E A0 s s.heap) (hS : va_S A0 s.heap H locs) (hB : ∀ q, B q → A0 q) (hP : va_P D pv_cl ws H) (hK : va_K D pv_cl tys s) (hD : va_D A9 ws) (hU : U.heap = H) (hW : s.WarmedH U.vm) : pv_P D tys ws B H.size U := by
  refine ⟨by rw [hU], ?_, by rw [hU]; exact hP, va_K.moved hW.alike hK, hD.weaken (fun _ _ _ _ => trivial)⟩
  rw [hU]
  exact ((hE.kept (fun a h1 h2 => hS.2.1 a h1 h2)).narrow hB).warm hW
/-- the call's start, all that it wants of the state -/
theorem pv_ps {As : List Value} {D : va_G} {tys : List (ClassId × FieldType)} {ws : va_W} {A0 B A9 : Nat → Prop} {s : State} {H : Heap} {locs : List Loc} (hE : pv_E A0 s s.heap) (hS : va_S A0 s.heap H locs) (hB : ∀ q, B q → A0 q) (hP : va_P D pv_cl ws H) (hK : va_K D pv_cl tys s) (hD : va_D A9 ws) : PreS s H (va_Pc As (pv_P D tys ws B H.size)) As := ⟨pv_blind, fun _ hU hW => ⟨rfl, pv_pre hE hS hB hP hK hD hU hW⟩⟩
theorem pv_pV {C : String} {b : Addr} {As : List Value} {D : va_G} {tys : List (ClassId × FieldType)} {ws : va_W} {A0 B A9 : Nat → Prop} {s : State} {H : Heap} {locs : List Loc} (hE : pv_E A0 s s.heap) (hS : va_S A0 s.heap H locs) (hB : ∀ q, B q → A0 q) (hP : va_P D pv_cl ws H) (hK : va_K D pv_cl tys s) (hD : va_D A9 ws) (hr : ∃ cellB : Cell, H[b]? = some cellB ∧ cellB.vm.isStatics = false ∧ s.vm.findClass C = some cellB.cls) : PreV s H C b (va_Pc (.ref b :: As) (pv_P D tys ws B H.size)) As := ⟨pv_blind, hr, fun _ hU hW => ⟨rfl, pv_pre hE hS hB hP hK hD hU hW⟩⟩
/-- what isn't its own stays: the world behind a call that changes nothing of it -/
theorem pv_keep {D : va_G} {cl : List vw_C} {ws : va_W} {H H1 : Heap} {n : Nat} (hP : va_P D cl ws H) (hn : n = H.size) (hk : ∀ q : Nat, q < H.size → ¬ va_A [] n q → H1[q]? = H[q]?) : va_P D cl ws H1 := by
  subst hn
  refine hP.kept (fun k q hq => ?_)
  have hl := vx_lt hP hq
  refine hk q.1 hl ?_
  rintro (⟨k, e, h⟩ | h)
  · simp at h
  · omega
theorem pv_new {sz : Nat} {A : Nat → Prop} {H : Heap} (hA : ∀ q : Nat, sz ≤ q → A q) (h : sz ≤ H.size) : ∀ q, va_A [] H.size q → A q := by
  rintro q (⟨k, e, h1⟩ | h1)
  · simp at h1
  · exact hA q (Nat.le_trans h h1)
theorem pv_setI {p : Program} {l : Launch} {e : Env} {R : Room} {s : State} {m : MethodId} {args : Array Value} {below : List Frame} {meth : Method} {c : Code} {H : Heap} {locs : List Loc} {cells slots : Nat} {Q : State → Prop} {pc : Nat} {ls : Array Slot} {rest : List Value} {x : Int32} (y : Int32) (h : x = y) (k : W p l e R s m args below meth c H locs cells slots Q (F0 m pc ls (.int y :: rest))) : W p l e R s m args below meth c H locs cells slots Q (F0 m pc ls (.int x :: rest)) := by
  subst h; exact k
theorem pv_setL {p : Program} {l : Launch} {e : Env} {R : Room} {s : State} {m : MethodId} {args : Array Value} {below : List Frame} {meth : Method} {c : Code} {H : Heap} {locs : List Loc} {cells slots : Nat} {Q : State → Prop} {pc : Nat} {ls : Array Slot} {rest : List Value} {x : Int64} (y : Int64) (h : x = y) (k : W p l e R s m args below meth c H locs cells slots Q (F0 m pc ls (.long y :: rest))) : W p l e R s m args below meth c H locs cells slots Q (F0 m pc ls (.long x :: rest)) := by
  subst h; exact k
theorem pv_r {ws : List Cond} (ps : List Nat) (hp : ws = ps.filterMap (fun i => lw_tbl[i]?)) (h : ws.all goodWord = true) : ∀ w ∈ ws, w ∈ pv_W := fun w hw => pv_in ((goodIn_r ws ps hp h) w hw).1 (List.all_eq_true.mp h w hw)
theorem inF0 : ∀ w ∈ u_ws RX0 TX0 18, w ∈ pv_W := pv_r [234, 236, 238, 240, 242, 244, 246, 248, 250, 252, 254, 256, 258, 260, 262, 264, 266, 268] (by decide +kernel) (by decide +kernel)
theorem inF1 : ∀ w ∈ u_ws RX1 TX1 7, w ∈ pv_W := pv_r [298, 300, 302, 304, 306, 308, 310] (by decide +kernel) (by decide +kernel)
theorem inF2 : ∀ w ∈ u_ws RX2 TX2 7, w ∈ pv_W := pv_r [379, 381, 383, 385, 387, 389, 391] (by decide +kernel) (by decide +kernel)
theorem inF3 : ∀ w ∈ u_ws RX3 TX3 5, w ∈ pv_W := pv_r [321, 323, 325, 327, 329] (by decide +kernel) (by decide +kernel)
theorem inF4 : ∀ w ∈ u_ws RX4 TX4 6, w ∈ pv_W := pv_r [1727, 1729, 1731, 1733, 1735, 1737] (by decide +kernel) (by decide +kernel)
theorem inF6 : ∀ w ∈ u_ws RX6 TX6 2, w ∈ pv_W := pv_r [209, 211] (by decide +kernel) (by decide +kernel)
theorem inF7 : ∀ w ∈ u_ws RX7 TX7 2, w ∈ pv_W := pv_r [1121, 1123] (by decide +kernel) (by decide +kernel)
theorem inF9 : ∀ w ∈ u_ws RX9 TX9 6, w ∈ pv_W := pv_r [177, 179, 181, 183, 185, 187] (by decide +kernel) (by decide +kernel)
theorem inF10 : ∀ w ∈ u_ws RX10 TX10 7, w ∈ pv_W := pv_r [356, 358, 360, 362, 364, 366, 368] (by decide +kernel) (by decide +kernel)
theorem inF11 : ∀ w ∈ u_ws RX11 TX11 15, w ∈ pv_W := pv_r [409, 411, 413, 415, 417, 419, 421, 423, 425, 427, 429, 431, 433, 435, 437] (by decide +kernel) (by decide +kernel)
theorem inF12 : ∀ w ∈ u_ws RX12 TX12 2, w ∈ pv_W := pv_r [2169, 2171] (by decide +kernel) (by decide +kernel)
theorem inF13 : ∀ w ∈ u_ws RX13 TX13 45, w ∈ pv_W := pv_r [2047, 2049, 2051, 2053, 2055, 2057, 2059, 2061, 2063, 2065, 2067, 2069, 2071, 2073, 2075, 2077, 2079, 2081, 2083, 2085, 2087, 2089, 2091, 2093, 2095, 2097, 2099, 2101, 2103, 2105, 2107, 2109, 2111, 2113, 2115, 2117, 2119, 2121, 2123, 2125, 2127, 2129, 2131, 2133, 2135] (by decide +kernel) (by decide +kernel)
