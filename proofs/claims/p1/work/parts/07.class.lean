theorem pv_ao {A : Nat → Prop} {s : State} {H : Heap} (h : pv_E A s H) {C : String} (hC : FieldType.object C ∈ pv_ot) : va_AO C s := h.2.2.2.2 _ hC
def pv_pr (g : Int32) : Prop := g = 2 ∨ g = 3 ∨ g = 5 ∨ g = 7 ∨ g = 11 ∨ g = 13
def pv_vr (v : Int32) : Prop := ¬ v < 0 ∧ ¬ (3 : Int32) ≤ v
def pv_sn (c : Int32) : Prop := c = 43 ∨ c = 45 ∨ c = 48
def pv_od (c : Int32) : Prop := c = 108 ∨ c = 100 ∨ c = 114
theorem pv_no6 {g : Int32} (a : ¬ g = 2) (b : ¬ g = 3) (c : ¬ g = 5) (d : ¬ g = 7) (e : ¬ g = 11) (f : ¬ g = 13) : ¬ pv_pr g := fun h => h.elim a (fun h => h.elim b (fun h => h.elim c (fun h => h.elim d (fun h => h.elim e f))))
theorem pv_no3 {P Q R : Prop} (a : ¬ P) (b : ¬ Q) (c : ¬ R) : ¬ (P ∨ Q ∨ R) := fun h => h.elim a (fun h => h.elim b c)
theorem pv_no2 {P Q : Prop} (a : ¬ P) (b : ¬ Q) : ¬ (P ∨ Q) := fun h => h.elim a b
theorem pv_vin {v : Int32} (h : pv_vr v) : vp_in v 3 := by
  rw [vp_in_iff]
  have h1 := Int32.not_lt.mp h.1
  have h2 := h.2
  rw [Int32.le_iff_toInt_le] at h1 h2
  have e0 : (0 : Int32).toInt = 0 := rfl
  have e3 : (3 : Int32).toInt = 3 := rfl
  omega
theorem pv_v3 {v : Int32} (h : pv_vr v) : v = 0 ∨ v = 1 ∨ v = 2 := by
  obtain ⟨j, hj, rfl⟩ := vp_in_of (pv_vin h) (by decide)
  rcases (show j = 0 ∨ j = 1 ∨ j = 2 by omega) with rfl | rfl | rfl
  · exact Or.inl rfl
  · exact Or.inr (Or.inl rfl)
  · exact Or.inr (Or.inr rfl)
def pv_ch (f : Nat → Int32) : Prop := ∀ j, j < 3 → narrow .char (.int (f j)) = .int (f j)
theorem pv_ch63 {f : Nat → Int32} (h : ∀ j, j < 3 → f j = 63) : pv_ch f := fun j hj => by rw [h j hj]; rfl
theorem pv_ch_upd {f : Nat → Int32} (h : pv_ch f) (k : Nat) {x : Int32} (hx : narrow .char (.int x) = .int x) : pv_ch (upd f k x) := fun j hj => by
  by_cases e : j = k
  · subst e; rw [pk_us]; exact hx
  · rw [pk_un e]; exact h j hj
theorem pv_vcl {v : Int32} (h : pv_vr v) : v.toNatClampNeg < 3 := by
  obtain ⟨j, hj, rfl⟩ := vp_in_of (pv_vin h) (by decide)
  rw [nI_clamp (by omega)]; exact hj

theorem dX11_isPrime_0 : decode cX11_isPrime 0 = .ok (.iload_n 0, 1) := by decide +kernel
theorem dX11_isPrime_1 : decode cX11_isPrime 1 = .ok (.iconst 2, 1) := by decide +kernel
theorem dX11_isPrime_2 : decode cX11_isPrime 2 = .ok (.if_icmp .eq 31, 3) := by decide +kernel
theorem dX11_isPrime_33 : decode cX11_isPrime 33 = .ok (.iconst 1, 1) := by decide +kernel
theorem dX11_isPrime_34 : decode cX11_isPrime 34 = .ok (.goto 4, 3) := by decide +kernel
theorem dX11_isPrime_38 : decode cX11_isPrime 38 = .ok (.ireturn, 1) := by decide +kernel
theorem dX11_isPrime_5 : decode cX11_isPrime 5 = .ok (.iload_n 0, 1) := by decide +kernel
theorem dX11_isPrime_6 : decode cX11_isPrime 6 = .ok (.iconst 3, 1) := by decide +kernel
theorem dX11_isPrime_7 : decode cX11_isPrime 7 = .ok (.if_icmp .eq 26, 3) := by decide +kernel
theorem dX11_isPrime_10 : decode cX11_isPrime 10 = .ok (.iload_n 0, 1) := by decide +kernel
theorem dX11_isPrime_11 : decode cX11_isPrime 11 = .ok (.iconst 5, 1) := by decide +kernel
theorem dX11_isPrime_12 : decode cX11_isPrime 12 = .ok (.if_icmp .eq 21, 3) := by decide +kernel
theorem dX11_isPrime_15 : decode cX11_isPrime 15 = .ok (.iload_n 0, 1) := by decide +kernel
theorem dX11_isPrime_16 : decode cX11_isPrime 16 = .ok (.bipush 7, 2) := by decide +kernel
theorem dX11_isPrime_18 : decode cX11_isPrime 18 = .ok (.if_icmp .eq 15, 3) := by decide +kernel
theorem dX11_isPrime_21 : decode cX11_isPrime 21 = .ok (.iload_n 0, 1) := by decide +kernel
theorem dX11_isPrime_22 : decode cX11_isPrime 22 = .ok (.bipush 11, 2) := by decide +kernel
theorem dX11_isPrime_24 : decode cX11_isPrime 24 = .ok (.if_icmp .eq 9, 3) := by decide +kernel
theorem dX11_isPrime_27 : decode cX11_isPrime 27 = .ok (.iload_n 0, 1) := by decide +kernel
theorem dX11_isPrime_28 : decode cX11_isPrime 28 = .ok (.bipush 13, 2) := by decide +kernel
theorem dX11_isPrime_30 : decode cX11_isPrime 30 = .ok (.if_icmp .ne 7, 3) := by decide +kernel
theorem dX11_isPrime_37 : decode cX11_isPrime 37 = .ok (.iconst 0, 1) := by decide +kernel
set_option maxHeartbeats 4000000 in
set_option maxRecDepth 100000 in
/-- isPrime -/
theorem c_X11_isPrime (l : Launch) (hfl : l.stackTraces = false) (D : va_G) (sz : Nat) (p0 : Int32) : Met l yX11_isPrime (Cond.code yX11_isPrime cX11_isPrime 1 (some .boolean) :: pv_W) ({ frames := 0, cells := 0, slots := 0, locals := 0 } : Room) (va_Pc [.int p0] (pv_P D [] [] (va_A [] sz) sz)) (va_Qi (fun r (_ : Unit) => (r = 1 ∧ pv_pr p0) ∨ (r = 0 ∧ ¬ pv_pr p0)) (fun _ _ => True) (va_A [] sz)) 0 0 (va_A [] sz) := by
  refine Met.ofW (cc := cX11_isPrime) (maxL := 1) (ret := (some .boolean)) (by decide) rfl ?_
  intro p e s m args below meth c s₁ B hml hv
  obtain ⟨rfl, hsz, hE, hP, hK, hD0⟩ := hv
  have hx := B.exec
  have hb := B.bytes
  have hr := B.returns
  have hts := fun (w : Cond) (h : w ∈ pv_W) => atoms_spec (ws := Cond.code yX11_isPrime cX11_isPrime 1 (some .boolean) :: pv_W) B.pre w (List.mem_cons_of_mem _ h)
  have hg := fun {w : Cond} (h : w ∈ lw_tbl) (g : goodWord w = true) => hts w (pv_in h g)
  have hown : s.vm.findClass RX11 = some m.cls := findClass_of_methodNamed B.named
  have hlocks := B.notSynchronized
  subst hsz
  have hD := hD0.self (sz := s.heap.size)
  generalize hAe : va_A [] s.heap.size = A at hD hE ⊢
  have hA : ∀ q : Nat, s.heap.size ≤ q → A q := fun q h => by rw [← hAe]; exact Or.inr h
  have hS : va_S A s.heap s.heap [] := va_S.rf
  have hP : va_P D pv_cl [] s.heap := hP
  have hl := lv_entry ([.int p0]) (n := 1) (Nat.le_of_ble_eq_true rfl)
  rw [lg_entry_eq]
  generalize (lg_sl ([.int p0]) ++ List.replicate (1 - (lg_sl ([.int p0])).length) Slot.unset).toArray = ls at hl ⊢
  have hl : lv_has ls 1 [(0, .int p0)] := hl
  refine lv_iload_n hx hb dX11_isPrime_0 rfl (lv_at hl 0 rfl) ?_
  refine lv_iconst (v := 2) hx hb dX11_isPrime_1 (by decide) ?_
  refine lv_icmp_eq (tgt := 33) hx hb dX11_isPrime_2 (by decide) (fun c_1 => ?_) (fun c_1 => ?_)
  · refine lv_iconst (v := 1) hx hb dX11_isPrime_33 (by decide) ?_
    refine lv_goto (tgt := 38) hx hb dX11_isPrime_34 (by decide) ?_
    refine W.widen (k := 0) (n := 0) (Nat.le_of_ble_eq_true rfl) (Nat.le_of_ble_eq_true rfl) ?_
    exact W.zret (v := 1) (ty := .boolean) hx hb hr rfl (fun t ht hW => ⟨⟨1, (), rfl, Or.inl ⟨rfl, Or.inl c_1⟩, trivial⟩, hS.F ht⟩) hS.2.2 dX11_isPrime_38
  · refine lv_iload_n hx hb dX11_isPrime_5 rfl (lv_at hl 0 rfl) ?_
    refine lv_iconst (v := 3) hx hb dX11_isPrime_6 (by decide) ?_
    refine lv_icmp_eq (tgt := 33) hx hb dX11_isPrime_7 (by decide) (fun c_2 => ?_) (fun c_2 => ?_)
    · refine lv_iconst (v := 1) hx hb dX11_isPrime_33 (by decide) ?_
      refine lv_goto (tgt := 38) hx hb dX11_isPrime_34 (by decide) ?_
      refine W.widen (k := 0) (n := 0) (Nat.le_of_ble_eq_true rfl) (Nat.le_of_ble_eq_true rfl) ?_
      exact W.zret (v := 1) (ty := .boolean) hx hb hr rfl (fun t ht hW => ⟨⟨1, (), rfl, Or.inl ⟨rfl, Or.inr (Or.inl c_2)⟩, trivial⟩, hS.F ht⟩) hS.2.2 dX11_isPrime_38
    · refine lv_iload_n hx hb dX11_isPrime_10 rfl (lv_at hl 0 rfl) ?_
      refine lv_iconst (v := 5) hx hb dX11_isPrime_11 (by decide) ?_
      refine lv_icmp_eq (tgt := 33) hx hb dX11_isPrime_12 (by decide) (fun c_3 => ?_) (fun c_3 => ?_)
      · refine lv_iconst (v := 1) hx hb dX11_isPrime_33 (by decide) ?_
        refine lv_goto (tgt := 38) hx hb dX11_isPrime_34 (by decide) ?_
        refine W.widen (k := 0) (n := 0) (Nat.le_of_ble_eq_true rfl) (Nat.le_of_ble_eq_true rfl) ?_
        exact W.zret (v := 1) (ty := .boolean) hx hb hr rfl (fun t ht hW => ⟨⟨1, (), rfl, Or.inl ⟨rfl, Or.inr (Or.inr (Or.inl c_3))⟩, trivial⟩, hS.F ht⟩) hS.2.2 dX11_isPrime_38
      · refine lv_iload_n hx hb dX11_isPrime_15 rfl (lv_at hl 0 rfl) ?_
        refine lv_bipush (v := 7) hx hb dX11_isPrime_16 (by decide) ?_
        refine lv_icmp_eq (tgt := 33) hx hb dX11_isPrime_18 (by decide) (fun c_4 => ?_) (fun c_4 => ?_)
        · refine lv_iconst (v := 1) hx hb dX11_isPrime_33 (by decide) ?_
          refine lv_goto (tgt := 38) hx hb dX11_isPrime_34 (by decide) ?_
          refine W.widen (k := 0) (n := 0) (Nat.le_of_ble_eq_true rfl) (Nat.le_of_ble_eq_true rfl) ?_
          exact W.zret (v := 1) (ty := .boolean) hx hb hr rfl (fun t ht hW => ⟨⟨1, (), rfl, Or.inl ⟨rfl, Or.inr (Or.inr (Or.inr (Or.inl c_4)))⟩, trivial⟩, hS.F ht⟩) hS.2.2 dX11_isPrime_38
        · refine lv_iload_n hx hb dX11_isPrime_21 rfl (lv_at hl 0 rfl) ?_
          refine lv_bipush (v := 11) hx hb dX11_isPrime_22 (by decide) ?_
          refine lv_icmp_eq (tgt := 33) hx hb dX11_isPrime_24 (by decide) (fun c_5 => ?_) (fun c_5 => ?_)
          · refine lv_iconst (v := 1) hx hb dX11_isPrime_33 (by decide) ?_
            refine lv_goto (tgt := 38) hx hb dX11_isPrime_34 (by decide) ?_
            refine W.widen (k := 0) (n := 0) (Nat.le_of_ble_eq_true rfl) (Nat.le_of_ble_eq_true rfl) ?_
            exact W.zret (v := 1) (ty := .boolean) hx hb hr rfl (fun t ht hW => ⟨⟨1, (), rfl, Or.inl ⟨rfl, Or.inr (Or.inr (Or.inr (Or.inr (Or.inl c_5))))⟩, trivial⟩, hS.F ht⟩) hS.2.2 dX11_isPrime_38
          · refine lv_iload_n hx hb dX11_isPrime_27 rfl (lv_at hl 0 rfl) ?_
            refine lv_bipush (v := 13) hx hb dX11_isPrime_28 (by decide) ?_
            refine lv_icmp_ne (tgt := 37) hx hb dX11_isPrime_30 (by decide) (fun c_6 => ?_) (fun c_6 => ?_)
            · refine lv_iconst (v := 0) hx hb dX11_isPrime_37 (by decide) ?_
              refine W.widen (k := 0) (n := 0) (Nat.le_of_ble_eq_true rfl) (Nat.le_of_ble_eq_true rfl) ?_
              exact W.zret (v := 0) (ty := .boolean) hx hb hr rfl (fun t ht hW => ⟨⟨0, (), rfl, Or.inr ⟨rfl, pv_no6 c_1 c_2 c_3 c_4 c_5 c_6⟩, trivial⟩, hS.F ht⟩) hS.2.2 dX11_isPrime_38
            · refine lv_iconst (v := 1) hx hb dX11_isPrime_33 (by decide) ?_
              refine lv_goto (tgt := 38) hx hb dX11_isPrime_34 (by decide) ?_
              refine W.widen (k := 0) (n := 0) (Nat.le_of_ble_eq_true rfl) (Nat.le_of_ble_eq_true rfl) ?_
              exact W.zret (v := 1) (ty := .boolean) hx hb hr rfl (fun t ht hW => ⟨⟨1, (), rfl, Or.inl ⟨rfl, Or.inr (Or.inr (Or.inr (Or.inr (Or.inr (c_6)))))⟩, trivial⟩, hS.F ht⟩) hS.2.2 dX11_isPrime_38

theorem dX13_isPrime_0 : decode cX13_isPrime 0 = .ok (.iload_n 0, 1) := by decide +kernel
theorem dX13_isPrime_1 : decode cX13_isPrime 1 = .ok (.iconst 2, 1) := by decide +kernel
theorem dX13_isPrime_2 : decode cX13_isPrime 2 = .ok (.if_icmp .eq 31, 3) := by decide +kernel
theorem dX13_isPrime_33 : decode cX13_isPrime 33 = .ok (.iconst 1, 1) := by decide +kernel
theorem dX13_isPrime_34 : decode cX13_isPrime 34 = .ok (.goto 4, 3) := by decide +kernel
theorem dX13_isPrime_38 : decode cX13_isPrime 38 = .ok (.ireturn, 1) := by decide +kernel
theorem dX13_isPrime_5 : decode cX13_isPrime 5 = .ok (.iload_n 0, 1) := by decide +kernel
theorem dX13_isPrime_6 : decode cX13_isPrime 6 = .ok (.iconst 3, 1) := by decide +kernel
theorem dX13_isPrime_7 : decode cX13_isPrime 7 = .ok (.if_icmp .eq 26, 3) := by decide +kernel
theorem dX13_isPrime_10 : decode cX13_isPrime 10 = .ok (.iload_n 0, 1) := by decide +kernel
theorem dX13_isPrime_11 : decode cX13_isPrime 11 = .ok (.iconst 5, 1) := by decide +kernel
theorem dX13_isPrime_12 : decode cX13_isPrime 12 = .ok (.if_icmp .eq 21, 3) := by decide +kernel
theorem dX13_isPrime_15 : decode cX13_isPrime 15 = .ok (.iload_n 0, 1) := by decide +kernel
theorem dX13_isPrime_16 : decode cX13_isPrime 16 = .ok (.bipush 7, 2) := by decide +kernel
theorem dX13_isPrime_18 : decode cX13_isPrime 18 = .ok (.if_icmp .eq 15, 3) := by decide +kernel
theorem dX13_isPrime_21 : decode cX13_isPrime 21 = .ok (.iload_n 0, 1) := by decide +kernel
theorem dX13_isPrime_22 : decode cX13_isPrime 22 = .ok (.bipush 11, 2) := by decide +kernel
theorem dX13_isPrime_24 : decode cX13_isPrime 24 = .ok (.if_icmp .eq 9, 3) := by decide +kernel
theorem dX13_isPrime_27 : decode cX13_isPrime 27 = .ok (.iload_n 0, 1) := by decide +kernel
theorem dX13_isPrime_28 : decode cX13_isPrime 28 = .ok (.bipush 13, 2) := by decide +kernel
theorem dX13_isPrime_30 : decode cX13_isPrime 30 = .ok (.if_icmp .ne 7, 3) := by decide +kernel
theorem dX13_isPrime_37 : decode cX13_isPrime 37 = .ok (.iconst 0, 1) := by decide +kernel
set_option maxHeartbeats 4000000 in
set_option maxRecDepth 100000 in
/-- isPrime -/
theorem c_X13_isPrime (l : Launch) (hfl : l.stackTraces = false) (D : va_G) (sz : Nat) (p0 : Int32) : Met l yX13_isPrime (Cond.code yX13_isPrime cX13_isPrime 1 (some .boolean) :: pv_W) ({ frames := 0, cells := 0, slots := 0, locals := 0 } : Room) (va_Pc [.int p0] (pv_P D [] [] (va_A [] sz) sz)) (va_Qi (fun r (_ : Unit) => (r = 1 ∧ pv_pr p0) ∨ (r = 0 ∧ ¬ pv_pr p0)) (fun _ _ => True) (va_A [] sz)) 0 0 (va_A [] sz) := by
  refine Met.ofW (cc := cX13_isPrime) (maxL := 1) (ret := (some .boolean)) (by decide) rfl ?_
  intro p e s m args below meth c s₁ B hml hv
  obtain ⟨rfl, hsz, hE, hP, hK, hD0⟩ := hv
  have hx := B.exec
  have hb := B.bytes
  have hr := B.returns
  have hts := fun (w : Cond) (h : w ∈ pv_W) => atoms_spec (ws := Cond.code yX13_isPrime cX13_isPrime 1 (some .boolean) :: pv_W) B.pre w (List.mem_cons_of_mem _ h)
  have hg := fun {w : Cond} (h : w ∈ lw_tbl) (g : goodWord w = true) => hts w (pv_in h g)
  have hown : s.vm.findClass RX13 = some m.cls := findClass_of_methodNamed B.named
  have hlocks := B.notSynchronized
  subst hsz
  have hD := hD0.self (sz := s.heap.size)
  generalize hAe : va_A [] s.heap.size = A at hD hE ⊢
  have hA : ∀ q : Nat, s.heap.size ≤ q → A q := fun q h => by rw [← hAe]; exact Or.inr h
  have hS : va_S A s.heap s.heap [] := va_S.rf
  have hP : va_P D pv_cl [] s.heap := hP
  have hl := lv_entry ([.int p0]) (n := 1) (Nat.le_of_ble_eq_true rfl)
  rw [lg_entry_eq]
  generalize (lg_sl ([.int p0]) ++ List.replicate (1 - (lg_sl ([.int p0])).length) Slot.unset).toArray = ls at hl ⊢
  have hl : lv_has ls 1 [(0, .int p0)] := hl
  refine lv_iload_n hx hb dX13_isPrime_0 rfl (lv_at hl 0 rfl) ?_
  refine lv_iconst (v := 2) hx hb dX13_isPrime_1 (by decide) ?_
  refine lv_icmp_eq (tgt := 33) hx hb dX13_isPrime_2 (by decide) (fun c_1 => ?_) (fun c_1 => ?_)
  · refine lv_iconst (v := 1) hx hb dX13_isPrime_33 (by decide) ?_
    refine lv_goto (tgt := 38) hx hb dX13_isPrime_34 (by decide) ?_
    refine W.widen (k := 0) (n := 0) (Nat.le_of_ble_eq_true rfl) (Nat.le_of_ble_eq_true rfl) ?_
    exact W.zret (v := 1) (ty := .boolean) hx hb hr rfl (fun t ht hW => ⟨⟨1, (), rfl, Or.inl ⟨rfl, Or.inl c_1⟩, trivial⟩, hS.F ht⟩) hS.2.2 dX13_isPrime_38
  · refine lv_iload_n hx hb dX13_isPrime_5 rfl (lv_at hl 0 rfl) ?_
    refine lv_iconst (v := 3) hx hb dX13_isPrime_6 (by decide) ?_
    refine lv_icmp_eq (tgt := 33) hx hb dX13_isPrime_7 (by decide) (fun c_2 => ?_) (fun c_2 => ?_)
    · refine lv_iconst (v := 1) hx hb dX13_isPrime_33 (by decide) ?_
      refine lv_goto (tgt := 38) hx hb dX13_isPrime_34 (by decide) ?_
      refine W.widen (k := 0) (n := 0) (Nat.le_of_ble_eq_true rfl) (Nat.le_of_ble_eq_true rfl) ?_
      exact W.zret (v := 1) (ty := .boolean) hx hb hr rfl (fun t ht hW => ⟨⟨1, (), rfl, Or.inl ⟨rfl, Or.inr (Or.inl c_2)⟩, trivial⟩, hS.F ht⟩) hS.2.2 dX13_isPrime_38
    · refine lv_iload_n hx hb dX13_isPrime_10 rfl (lv_at hl 0 rfl) ?_
      refine lv_iconst (v := 5) hx hb dX13_isPrime_11 (by decide) ?_
      refine lv_icmp_eq (tgt := 33) hx hb dX13_isPrime_12 (by decide) (fun c_3 => ?_) (fun c_3 => ?_)
      · refine lv_iconst (v := 1) hx hb dX13_isPrime_33 (by decide) ?_
        refine lv_goto (tgt := 38) hx hb dX13_isPrime_34 (by decide) ?_
        refine W.widen (k := 0) (n := 0) (Nat.le_of_ble_eq_true rfl) (Nat.le_of_ble_eq_true rfl) ?_
        exact W.zret (v := 1) (ty := .boolean) hx hb hr rfl (fun t ht hW => ⟨⟨1, (), rfl, Or.inl ⟨rfl, Or.inr (Or.inr (Or.inl c_3))⟩, trivial⟩, hS.F ht⟩) hS.2.2 dX13_isPrime_38
      · refine lv_iload_n hx hb dX13_isPrime_15 rfl (lv_at hl 0 rfl) ?_
        refine lv_bipush (v := 7) hx hb dX13_isPrime_16 (by decide) ?_
        refine lv_icmp_eq (tgt := 33) hx hb dX13_isPrime_18 (by decide) (fun c_4 => ?_) (fun c_4 => ?_)
        · refine lv_iconst (v := 1) hx hb dX13_isPrime_33 (by decide) ?_
          refine lv_goto (tgt := 38) hx hb dX13_isPrime_34 (by decide) ?_
          refine W.widen (k := 0) (n := 0) (Nat.le_of_ble_eq_true rfl) (Nat.le_of_ble_eq_true rfl) ?_
          exact W.zret (v := 1) (ty := .boolean) hx hb hr rfl (fun t ht hW => ⟨⟨1, (), rfl, Or.inl ⟨rfl, Or.inr (Or.inr (Or.inr (Or.inl c_4)))⟩, trivial⟩, hS.F ht⟩) hS.2.2 dX13_isPrime_38
        · refine lv_iload_n hx hb dX13_isPrime_21 rfl (lv_at hl 0 rfl) ?_
          refine lv_bipush (v := 11) hx hb dX13_isPrime_22 (by decide) ?_
          refine lv_icmp_eq (tgt := 33) hx hb dX13_isPrime_24 (by decide) (fun c_5 => ?_) (fun c_5 => ?_)
          · refine lv_iconst (v := 1) hx hb dX13_isPrime_33 (by decide) ?_
            refine lv_goto (tgt := 38) hx hb dX13_isPrime_34 (by decide) ?_
            refine W.widen (k := 0) (n := 0) (Nat.le_of_ble_eq_true rfl) (Nat.le_of_ble_eq_true rfl) ?_
            exact W.zret (v := 1) (ty := .boolean) hx hb hr rfl (fun t ht hW => ⟨⟨1, (), rfl, Or.inl ⟨rfl, Or.inr (Or.inr (Or.inr (Or.inr (Or.inl c_5))))⟩, trivial⟩, hS.F ht⟩) hS.2.2 dX13_isPrime_38
          · refine lv_iload_n hx hb dX13_isPrime_27 rfl (lv_at hl 0 rfl) ?_
            refine lv_bipush (v := 13) hx hb dX13_isPrime_28 (by decide) ?_
            refine lv_icmp_ne (tgt := 37) hx hb dX13_isPrime_30 (by decide) (fun c_6 => ?_) (fun c_6 => ?_)
            · refine lv_iconst (v := 0) hx hb dX13_isPrime_37 (by decide) ?_
              refine W.widen (k := 0) (n := 0) (Nat.le_of_ble_eq_true rfl) (Nat.le_of_ble_eq_true rfl) ?_
              exact W.zret (v := 0) (ty := .boolean) hx hb hr rfl (fun t ht hW => ⟨⟨0, (), rfl, Or.inr ⟨rfl, pv_no6 c_1 c_2 c_3 c_4 c_5 c_6⟩, trivial⟩, hS.F ht⟩) hS.2.2 dX13_isPrime_38
            · refine lv_iconst (v := 1) hx hb dX13_isPrime_33 (by decide) ?_
              refine lv_goto (tgt := 38) hx hb dX13_isPrime_34 (by decide) ?_
              refine W.widen (k := 0) (n := 0) (Nat.le_of_ble_eq_true rfl) (Nat.le_of_ble_eq_true rfl) ?_
              exact W.zret (v := 1) (ty := .boolean) hx hb hr rfl (fun t ht hW => ⟨⟨1, (), rfl, Or.inl ⟨rfl, Or.inr (Or.inr (Or.inr (Or.inr (Or.inr (c_6)))))⟩, trivial⟩, hS.F ht⟩) hS.2.2 dX13_isPrime_38

theorem dX11_isVariable_0 : decode cX11_isVariable 0 = .ok (.iload_n 0, 1) := by decide +kernel
theorem dX11_isVariable_1 : decode cX11_isVariable 1 = .ok (.ifCond .lt 12, 3) := by decide +kernel
theorem dX11_isVariable_13 : decode cX11_isVariable 13 = .ok (.iconst 0, 1) := by decide +kernel
theorem dX11_isVariable_14 : decode cX11_isVariable 14 = .ok (.ireturn, 1) := by decide +kernel
theorem dX11_isVariable_4 : decode cX11_isVariable 4 = .ok (.iload_n 0, 1) := by decide +kernel
theorem dX11_isVariable_5 : decode cX11_isVariable 5 = .ok (.iconst 3, 1) := by decide +kernel
theorem dX11_isVariable_6 : decode cX11_isVariable 6 = .ok (.if_icmp .ge 7, 3) := by decide +kernel
theorem dX11_isVariable_9 : decode cX11_isVariable 9 = .ok (.iconst 1, 1) := by decide +kernel
theorem dX11_isVariable_10 : decode cX11_isVariable 10 = .ok (.goto 4, 3) := by decide +kernel
set_option maxHeartbeats 4000000 in
set_option maxRecDepth 100000 in
/-- isVariable -/
theorem c_X11_isVariable (l : Launch) (hfl : l.stackTraces = false) (D : va_G) (sz : Nat) (p0 : Int32) : Met l yX11_isVariable (Cond.code yX11_isVariable cX11_isVariable 1 (some .boolean) :: pv_W) ({ frames := 0, cells := 0, slots := 0, locals := 0 } : Room) (va_Pc [.int p0] (pv_P D [] [] (va_A [] sz) sz)) (va_Qi (fun r (_ : Unit) => (r = 1 ∧ pv_vr p0) ∨ (r = 0 ∧ ¬ pv_vr p0)) (fun _ _ => True) (va_A [] sz)) 0 0 (va_A [] sz) := by
  refine Met.ofW (cc := cX11_isVariable) (maxL := 1) (ret := (some .boolean)) (by decide) rfl ?_
  intro p e s m args below meth c s₁ B hml hv
  obtain ⟨rfl, hsz, hE, hP, hK, hD0⟩ := hv
  have hx := B.exec
  have hb := B.bytes
  have hr := B.returns
  have hts := fun (w : Cond) (h : w ∈ pv_W) => atoms_spec (ws := Cond.code yX11_isVariable cX11_isVariable 1 (some .boolean) :: pv_W) B.pre w (List.mem_cons_of_mem _ h)
  have hg := fun {w : Cond} (h : w ∈ lw_tbl) (g : goodWord w = true) => hts w (pv_in h g)
  have hown : s.vm.findClass RX11 = some m.cls := findClass_of_methodNamed B.named
  have hlocks := B.notSynchronized
  subst hsz
  have hD := hD0.self (sz := s.heap.size)
  generalize hAe : va_A [] s.heap.size = A at hD hE ⊢
  have hA : ∀ q : Nat, s.heap.size ≤ q → A q := fun q h => by rw [← hAe]; exact Or.inr h
  have hS : va_S A s.heap s.heap [] := va_S.rf
  have hP : va_P D pv_cl [] s.heap := hP
  have hl := lv_entry ([.int p0]) (n := 1) (Nat.le_of_ble_eq_true rfl)
  rw [lg_entry_eq]
  generalize (lg_sl ([.int p0]) ++ List.replicate (1 - (lg_sl ([.int p0])).length) Slot.unset).toArray = ls at hl ⊢
  have hl : lv_has ls 1 [(0, .int p0)] := hl
  refine lv_iload_n hx hb dX11_isVariable_0 rfl (lv_at hl 0 rfl) ?_
  refine lv_if_lt (tgt := 13) hx hb dX11_isVariable_1 (by decide) (fun c_1 => ?_) (fun c_1 => ?_)
  · refine lv_iconst (v := 0) hx hb dX11_isVariable_13 (by decide) ?_
    refine W.widen (k := 0) (n := 0) (Nat.le_of_ble_eq_true rfl) (Nat.le_of_ble_eq_true rfl) ?_
    exact W.zret (v := 0) (ty := .boolean) hx hb hr rfl (fun t ht hW => ⟨⟨0, (), rfl, Or.inr ⟨rfl, fun h => h.1 c_1⟩, trivial⟩, hS.F ht⟩) hS.2.2 dX11_isVariable_14
  · refine lv_iload_n hx hb dX11_isVariable_4 rfl (lv_at hl 0 rfl) ?_
    refine lv_iconst (v := 3) hx hb dX11_isVariable_5 (by decide) ?_
    refine lv_icmp_ge (tgt := 13) hx hb dX11_isVariable_6 (by decide) (fun c_2 => ?_) (fun c_2 => ?_)
    · refine lv_iconst (v := 0) hx hb dX11_isVariable_13 (by decide) ?_
      refine W.widen (k := 0) (n := 0) (Nat.le_of_ble_eq_true rfl) (Nat.le_of_ble_eq_true rfl) ?_
      exact W.zret (v := 0) (ty := .boolean) hx hb hr rfl (fun t ht hW => ⟨⟨0, (), rfl, Or.inr ⟨rfl, fun h => h.2 c_2⟩, trivial⟩, hS.F ht⟩) hS.2.2 dX11_isVariable_14
    · refine lv_iconst (v := 1) hx hb dX11_isVariable_9 (by decide) ?_
      refine lv_goto (tgt := 14) hx hb dX11_isVariable_10 (by decide) ?_
      refine W.widen (k := 0) (n := 0) (Nat.le_of_ble_eq_true rfl) (Nat.le_of_ble_eq_true rfl) ?_
      exact W.zret (v := 1) (ty := .boolean) hx hb hr rfl (fun t ht hW => ⟨⟨1, (), rfl, Or.inl ⟨rfl, c_1, c_2⟩, trivial⟩, hS.F ht⟩) hS.2.2 dX11_isVariable_14

theorem dX11_requireGround_0 : decode cX11_requireGround 0 = .ok (.iload_n 0, 1) := by decide +kernel
theorem dX11_requireGround_1 : decode cX11_requireGround 1 = .ok (.ifCond .eq 21, 3) := by decide +kernel
theorem dX11_requireGround_22 : decode cX11_requireGround 22 = .ok (.return_, 1) := by decide +kernel
theorem dX11_requireGround_4 : decode cX11_requireGround 4 = .ok (.iload_n 0, 1) := by decide +kernel
theorem dX11_requireGround_5 : decode cX11_requireGround 5 = .ok (.invokestatic 445, 3) := by decide +kernel
theorem w4_148 : (Jvm.Cond.methodLink "Polyforge" (445 : Nat) ({ cls := "Polyforge", name := "isPrime", desc := "(I)Z" } : Jvm.MethodName)) ∈ lw_tbl := pv_t4 (pv_mg 148 rfl)
theorem w4_150 : (Jvm.Cond.code ({ cls := "Polyforge", name := "isPrime", desc := "(I)Z" } : Jvm.MethodName) prog_1_method_57_code (1 : Nat) (Option.some Jvm.ClassFile.FieldType.boolean)) ∈ lw_tbl := pv_t4 (pv_mg 150 rfl)
theorem w4_149 : (Jvm.Cond.static ({ cls := "Polyforge", name := "isPrime", desc := "(I)Z" } : Jvm.MethodName)) ∈ lw_tbl := pv_t4 (pv_mg 149 rfl)
theorem dX11_requireGround_8 : decode cX11_requireGround 8 = .ok (.ifCond .ne 14, 3) := by decide +kernel
theorem dX11_requireGround_11 : decode cX11_requireGround 11 = .ok (.new 129, 3) := by decide +kernel
theorem dX11_requireGround_14 : decode cX11_requireGround 14 = .ok (.dup, 1) := by decide +kernel
theorem dX11_requireGround_15 : decode cX11_requireGround 15 = .ok (.ldc_w 448, 3) := by decide +kernel
theorem dX11_requireGround_18 : decode cX11_requireGround 18 = .ok (.invokespecial 133, 3) := by decide +kernel
theorem dX11_requireGround_21 : decode cX11_requireGround 21 = .ok (.athrow, 1) := by decide +kernel
theorem vx_at_133_g : ∀ w ∈ (vx_atS RX11 133 "java/lang/IllegalArgumentException" ["java/lang/RuntimeException", "java/lang/Exception"]).filter goodWord, w ∈ lw_tbl := by decide +kernel
theorem vx_at_133_b : ∀ w ∈ (vx_atS RX11 133 "java/lang/IllegalArgumentException" ["java/lang/RuntimeException", "java/lang/Exception"]).filter (fun w => !goodWord w), w ∈ pv_bw := by decide +kernel
theorem vx_at_133_t : ∀ w ∈ Cond.classLink RX11 129 "java/lang/IllegalArgumentException" :: Cond.initialized "java/lang/IllegalArgumentException" :: vx_atS RX11 133 "java/lang/IllegalArgumentException" ["java/lang/RuntimeException", "java/lang/Exception"], vx_ot w = true := by decide +kernel
theorem w4_151 : (Jvm.Cond.classLink "Polyforge" (129 : Nat) "java/lang/IllegalArgumentException") ∈ lw_tbl := pv_t4 (pv_mg 151 rfl)
theorem w1_14 : (Jvm.Cond.initialized "java/lang/IllegalArgumentException") ∈ lw_tbl := pv_t1 (pv_mg 14 rfl)
set_option maxHeartbeats 4000000 in
set_option maxRecDepth 100000 in
/-- X11_requireGround -/
theorem c_X11_requireGround (l : Launch) (hfl : l.stackTraces = false) (D : va_G) (sz : Nat) (p0 : Int32) : vx_Met l yX11_requireGround (Cond.code yX11_requireGround cX11_requireGround 1 none :: pv_W) ({ frames := 7, cells := 1, slots := 6, locals := 100 } : Room) (va_Pc [.int p0] (pv_P D [] [] (va_A [] sz) sz)) (va_Qv (fun (_ : Unit) => (p0 = 0 ∨ pv_pr p0)) (fun _ _ => True) (va_A [] sz)) (vx_X (fun _ : Unit => True) (fun E _ _ => E = "java/lang/IllegalArgumentException" ∧ ¬ (p0 = 0 ∨ pv_pr p0)) (va_A [] sz)) 1 6 (va_A [] sz) := by
  refine vx_ofW (cc := cX11_requireGround) (maxL := 1) (ret := none) (by decide) rfl ?_
  intro p e s m args below meth c s₁ B hml hnt hv
  obtain ⟨rfl, hsz, hE, hP, hK, hD0⟩ := hv
  have hx := B.exec
  have hb := B.bytes
  have hr := B.returns
  have hts := fun (w : Cond) (h : w ∈ pv_W) => atoms_spec (ws := Cond.code yX11_requireGround cX11_requireGround 1 none :: pv_W) B.pre w (List.mem_cons_of_mem _ h)
  have hg := fun {w : Cond} (h : w ∈ lw_tbl) (g : goodWord w = true) => hts w (pv_in h g)
  have hown : s.vm.findClass RX11 = some m.cls := findClass_of_methodNamed B.named
  have hlocks := B.notSynchronized
  subst hsz
  have hD := hD0.self (sz := s.heap.size)
  generalize hAe : va_A [] s.heap.size = A at hD hE ⊢
  have hA : ∀ q : Nat, s.heap.size ≤ q → A q := fun q h => by rw [← hAe]; exact Or.inr h
  have hS : va_S A s.heap s.heap [] := va_S.rf
  have hP : va_P D pv_cl [] s.heap := hP
  have hl := lv_entry ([.int p0]) (n := 1) (Nat.le_of_ble_eq_true rfl)
  rw [lg_entry_eq]
  generalize (lg_sl ([.int p0]) ++ List.replicate (1 - (lg_sl ([.int p0])).length) Slot.unset).toArray = ls at hl ⊢
  have hl : lv_has ls 1 [(0, .int p0)] := hl
  refine lv_iload_n hx hb dX11_requireGround_0 rfl (lv_at hl 0 rfl) ?_
  refine lv_if_eq (tgt := 22) hx hb dX11_requireGround_1 (by decide) (fun c_1 => ?_) (fun c_1 => ?_)
  · refine vx_ret ?_
    refine W.widen (k := 1) (n := 6) (Nat.le_of_ble_eq_true rfl) (Nat.le_of_ble_eq_true rfl) ?_
    exact W.vret hx hb hr (fun t ht hW => ⟨⟨(), rfl, Or.inl c_1, trivial⟩, hS.F ht⟩) hS.2.2 dX11_requireGround_22
  · refine lv_iload_n hx hb dX11_requireGround_4 rfl (lv_at hl 0 rfl) ?_
    have hF := pv_new hA hS.1
    refine va_calli (va_runS (As := [.int p0]) (rest := []) ⟨hx, hb, hml, hown, hts⟩ (c_X11_isPrime l hfl D _ p0) (va_cwS 1 hts (pv_gS w4_148 w4_149 w1_1 w4_150) rfl rfl rfl (by decide +kernel) ⟨Nat.le_of_ble_eq_true rfl, Nat.le_of_ble_eq_true rfl⟩) (pv_ps hE hS hF (hP.sub [] rfl) (hK.sub [] rfl) (hD.sub [] (by decide) rfl)) rfl rfl hl.1 rfl (lv_room (Nat.le_of_ble_eq_true rfl)) dX11_requireGround_5 ⟨Nat.le_of_ble_eq_true rfl, Nat.le_of_ble_eq_true rfl⟩) hS (fun q _ h => hF q h) hF (fun r_1 u t H1 locs1 ht hvm hw hB hz1 hk1 hS => ?_)
    refine W.widen (k := 0) (n := 0) (Nat.le_of_ble_eq_true rfl) (Nat.le_of_ble_eq_true rfl) ?_
    have hP := pv_keep hP rfl hk1
    rcases hw with ⟨rfl, a_3⟩ | ⟨rfl, a_3⟩
    · refine lv_if_ne (tgt := 22) hx hb dX11_requireGround_8 (by decide) (fun _ => ?_) (fun c_4 => absurd c_4 (by decide))
      refine vx_ret ?_
      refine W.widen (k := 1) (n := 6) (Nat.le_of_ble_eq_true rfl) (Nat.le_of_ble_eq_true rfl) ?_
      exact W.vret hx hb hr (fun t ht hW => ⟨⟨(), rfl, Or.inr a_3, trivial⟩, hS.F ht⟩) hS.2.2 dX11_requireGround_22
    · refine lv_if_ne (tgt := 22) hx hb dX11_requireGround_8 (by decide) (fun c_5 => absurd (by decide) c_5) (fun _ => ?_)
      obtain ⟨sa, hsa⟩ := hE.2.2.2.1 (448, "no such ground") (by decide)
      exact vx_throwSW (own := RX11) (cls := "java/lang/IllegalArgumentException") (names := ["java/lang/RuntimeException", "java/lang/Exception"]) hx hb hfl hown rfl (by decide) (hg w4_151 rfl) (hg w1_14 rfl) hsa (vx_hat (fun w h => hts w (pv_in (vx_at_133_g w h) (List.mem_filter.mp h).2)) vx_at_133_b (fun w h => va_Nw.use (pv_kind_on (List.mem_filter.mp h).2) (hE.2.2.1 w h))) vx_at_133_t hE.1 hE.2.1 hS (hl.1.trans hml.symm) dX11_requireGround_11 dX11_requireGround_14 dX11_requireGround_15 dX11_requireGround_18 dX11_requireGround_21 (fun x h9 => absurd (hnt x h9) id) (Nat.le_of_ble_eq_true rfl) (Nat.le_of_ble_eq_true rfl) (Nat.le_of_ble_eq_true rfl) (Nat.le_of_ble_eq_true rfl) hlocks (fun t h1 h2 h3 => ⟨(), trivial, ⟨rfl, pv_no2 c_1 a_3⟩, Nat.le_trans hS.1 h2, fun q h4 h5 => (h3 q (Nat.lt_of_lt_of_le h4 hS.1)).trans (hS.2.1 q h4 h5)⟩) hS.2.2 (Nat.le_of_ble_eq_true rfl) (Nat.le_of_ble_eq_true rfl)

theorem dX11_requirePrime_0 : decode cX11_requirePrime 0 = .ok (.iload_n 0, 1) := by decide +kernel
theorem dX11_requirePrime_1 : decode cX11_requirePrime 1 = .ok (.invokestatic 445, 3) := by decide +kernel
theorem dX11_requirePrime_4 : decode cX11_requirePrime 4 = .ok (.ifCond .ne 14, 3) := by decide +kernel
theorem dX11_requirePrime_18 : decode cX11_requirePrime 18 = .ok (.return_, 1) := by decide +kernel
theorem dX11_requirePrime_7 : decode cX11_requirePrime 7 = .ok (.new 129, 3) := by decide +kernel
theorem dX11_requirePrime_10 : decode cX11_requirePrime 10 = .ok (.dup, 1) := by decide +kernel
theorem dX11_requirePrime_11 : decode cX11_requirePrime 11 = .ok (.ldc_w 450, 3) := by decide +kernel
theorem dX11_requirePrime_14 : decode cX11_requirePrime 14 = .ok (.invokespecial 133, 3) := by decide +kernel
theorem dX11_requirePrime_17 : decode cX11_requirePrime 17 = .ok (.athrow, 1) := by decide +kernel
set_option maxHeartbeats 4000000 in
set_option maxRecDepth 100000 in
/-- X11_requirePrime -/
theorem c_X11_requirePrime (l : Launch) (hfl : l.stackTraces = false) (D : va_G) (sz : Nat) (p0 : Int32) : vx_Met l yX11_requirePrime (Cond.code yX11_requirePrime cX11_requirePrime 1 none :: pv_W) ({ frames := 7, cells := 1, slots := 6, locals := 100 } : Room) (va_Pc [.int p0] (pv_P D [] [] (va_A [] sz) sz)) (va_Qv (fun (_ : Unit) => (pv_pr p0)) (fun _ _ => True) (va_A [] sz)) (vx_X (fun _ : Unit => True) (fun E _ _ => E = "java/lang/IllegalArgumentException" ∧ ¬ (pv_pr p0)) (va_A [] sz)) 1 6 (va_A [] sz) := by
  refine vx_ofW (cc := cX11_requirePrime) (maxL := 1) (ret := none) (by decide) rfl ?_
  intro p e s m args below meth c s₁ B hml hnt hv
  obtain ⟨rfl, hsz, hE, hP, hK, hD0⟩ := hv
  have hx := B.exec
  have hb := B.bytes
  have hr := B.returns
  have hts := fun (w : Cond) (h : w ∈ pv_W) => atoms_spec (ws := Cond.code yX11_requirePrime cX11_requirePrime 1 none :: pv_W) B.pre w (List.mem_cons_of_mem _ h)
  have hg := fun {w : Cond} (h : w ∈ lw_tbl) (g : goodWord w = true) => hts w (pv_in h g)
  have hown : s.vm.findClass RX11 = some m.cls := findClass_of_methodNamed B.named
  have hlocks := B.notSynchronized
  subst hsz
  have hD := hD0.self (sz := s.heap.size)
  generalize hAe : va_A [] s.heap.size = A at hD hE ⊢
  have hA : ∀ q : Nat, s.heap.size ≤ q → A q := fun q h => by rw [← hAe]; exact Or.inr h
  have hS : va_S A s.heap s.heap [] := va_S.rf
  have hP : va_P D pv_cl [] s.heap := hP
  have hl := lv_entry ([.int p0]) (n := 1) (Nat.le_of_ble_eq_true rfl)
  rw [lg_entry_eq]
  generalize (lg_sl ([.int p0]) ++ List.replicate (1 - (lg_sl ([.int p0])).length) Slot.unset).toArray = ls at hl ⊢
  have hl : lv_has ls 1 [(0, .int p0)] := hl
  refine lv_iload_n hx hb dX11_requirePrime_0 rfl (lv_at hl 0 rfl) ?_
  have hF := pv_new hA hS.1
  refine va_calli (va_runS (As := [.int p0]) (rest := []) ⟨hx, hb, hml, hown, hts⟩ (c_X11_isPrime l hfl D _ p0) (va_cwS 1 hts (pv_gS w4_148 w4_149 w1_1 w4_150) rfl rfl rfl (by decide +kernel) ⟨Nat.le_of_ble_eq_true rfl, Nat.le_of_ble_eq_true rfl⟩) (pv_ps hE hS hF (hP.sub [] rfl) (hK.sub [] rfl) (hD.sub [] (by decide) rfl)) rfl rfl hl.1 rfl (lv_room (Nat.le_of_ble_eq_true rfl)) dX11_requirePrime_1 ⟨Nat.le_of_ble_eq_true rfl, Nat.le_of_ble_eq_true rfl⟩) hS (fun q _ h => hF q h) hF (fun r_0 u t H1 locs1 ht hvm hw hB hz1 hk1 hS => ?_)
  refine W.widen (k := 0) (n := 0) (Nat.le_of_ble_eq_true rfl) (Nat.le_of_ble_eq_true rfl) ?_
  have hP := pv_keep hP rfl hk1
  rcases hw with ⟨rfl, a_2⟩ | ⟨rfl, a_2⟩
  · refine lv_if_ne (tgt := 18) hx hb dX11_requirePrime_4 (by decide) (fun _ => ?_) (fun c_3 => absurd c_3 (by decide))
    refine vx_ret ?_
    refine W.widen (k := 1) (n := 6) (Nat.le_of_ble_eq_true rfl) (Nat.le_of_ble_eq_true rfl) ?_
    exact W.vret hx hb hr (fun t ht hW => ⟨⟨(), rfl, a_2, trivial⟩, hS.F ht⟩) hS.2.2 dX11_requirePrime_18
  · refine lv_if_ne (tgt := 18) hx hb dX11_requirePrime_4 (by decide) (fun c_4 => absurd (by decide) c_4) (fun _ => ?_)
    obtain ⟨sa, hsa⟩ := hE.2.2.2.1 (450, "no such prime") (by decide)
    exact vx_throwSW (own := RX11) (cls := "java/lang/IllegalArgumentException") (names := ["java/lang/RuntimeException", "java/lang/Exception"]) hx hb hfl hown rfl (by decide) (hg w4_151 rfl) (hg w1_14 rfl) hsa (vx_hat (fun w h => hts w (pv_in (vx_at_133_g w h) (List.mem_filter.mp h).2)) vx_at_133_b (fun w h => va_Nw.use (pv_kind_on (List.mem_filter.mp h).2) (hE.2.2.1 w h))) vx_at_133_t hE.1 hE.2.1 hS (hl.1.trans hml.symm) dX11_requirePrime_7 dX11_requirePrime_10 dX11_requirePrime_11 dX11_requirePrime_14 dX11_requirePrime_17 (fun x h9 => absurd (hnt x h9) id) (Nat.le_of_ble_eq_true rfl) (Nat.le_of_ble_eq_true rfl) (Nat.le_of_ble_eq_true rfl) (Nat.le_of_ble_eq_true rfl) hlocks (fun t h1 h2 h3 => ⟨(), trivial, ⟨rfl, a_2⟩, Nat.le_trans hS.1 h2, fun q h4 h5 => (h3 q (Nat.lt_of_lt_of_le h4 hS.1)).trans (hS.2.1 q h4 h5)⟩) hS.2.2 (Nat.le_of_ble_eq_true rfl) (Nat.le_of_ble_eq_true rfl)

theorem dX11_requireVariable_0 : decode cX11_requireVariable 0 = .ok (.iload_n 0, 1) := by decide +kernel
theorem dX11_requireVariable_1 : decode cX11_requireVariable 1 = .ok (.invokestatic 452, 3) := by decide +kernel
theorem w5_59 : (Jvm.Cond.methodLink "Polyforge" (452 : Nat) ({ cls := "Polyforge", name := "isVariable", desc := "(I)Z" } : Jvm.MethodName)) ∈ lw_tbl := pv_t5 (pv_mg 59 rfl)
theorem w5_61 : (Jvm.Cond.code ({ cls := "Polyforge", name := "isVariable", desc := "(I)Z" } : Jvm.MethodName) prog_1_method_58_code (1 : Nat) (Option.some Jvm.ClassFile.FieldType.boolean)) ∈ lw_tbl := pv_t5 (pv_mg 61 rfl)
theorem w5_60 : (Jvm.Cond.static ({ cls := "Polyforge", name := "isVariable", desc := "(I)Z" } : Jvm.MethodName)) ∈ lw_tbl := pv_t5 (pv_mg 60 rfl)
theorem dX11_requireVariable_4 : decode cX11_requireVariable 4 = .ok (.ifCond .ne 14, 3) := by decide +kernel
theorem dX11_requireVariable_18 : decode cX11_requireVariable 18 = .ok (.return_, 1) := by decide +kernel
theorem dX11_requireVariable_7 : decode cX11_requireVariable 7 = .ok (.new 129, 3) := by decide +kernel
theorem dX11_requireVariable_10 : decode cX11_requireVariable 10 = .ok (.dup, 1) := by decide +kernel
theorem dX11_requireVariable_11 : decode cX11_requireVariable 11 = .ok (.ldc_w 455, 3) := by decide +kernel
theorem dX11_requireVariable_14 : decode cX11_requireVariable 14 = .ok (.invokespecial 133, 3) := by decide +kernel
theorem dX11_requireVariable_17 : decode cX11_requireVariable 17 = .ok (.athrow, 1) := by decide +kernel
set_option maxHeartbeats 4000000 in
set_option maxRecDepth 100000 in
/-- X11_requireVariable -/
theorem c_X11_requireVariable (l : Launch) (hfl : l.stackTraces = false) (D : va_G) (sz : Nat) (p0 : Int32) : vx_Met l yX11_requireVariable (Cond.code yX11_requireVariable cX11_requireVariable 1 none :: pv_W) ({ frames := 7, cells := 1, slots := 6, locals := 100 } : Room) (va_Pc [.int p0] (pv_P D [] [] (va_A [] sz) sz)) (va_Qv (fun (_ : Unit) => (pv_vr p0)) (fun _ _ => True) (va_A [] sz)) (vx_X (fun _ : Unit => True) (fun E _ _ => E = "java/lang/IllegalArgumentException" ∧ ¬ (pv_vr p0)) (va_A [] sz)) 1 6 (va_A [] sz) := by
  refine vx_ofW (cc := cX11_requireVariable) (maxL := 1) (ret := none) (by decide) rfl ?_
  intro p e s m args below meth c s₁ B hml hnt hv
  obtain ⟨rfl, hsz, hE, hP, hK, hD0⟩ := hv
  have hx := B.exec
  have hb := B.bytes
  have hr := B.returns
  have hts := fun (w : Cond) (h : w ∈ pv_W) => atoms_spec (ws := Cond.code yX11_requireVariable cX11_requireVariable 1 none :: pv_W) B.pre w (List.mem_cons_of_mem _ h)
  have hg := fun {w : Cond} (h : w ∈ lw_tbl) (g : goodWord w = true) => hts w (pv_in h g)
  have hown : s.vm.findClass RX11 = some m.cls := findClass_of_methodNamed B.named
  have hlocks := B.notSynchronized
  subst hsz
  have hD := hD0.self (sz := s.heap.size)
  generalize hAe : va_A [] s.heap.size = A at hD hE ⊢
  have hA : ∀ q : Nat, s.heap.size ≤ q → A q := fun q h => by rw [← hAe]; exact Or.inr h
  have hS : va_S A s.heap s.heap [] := va_S.rf
  have hP : va_P D pv_cl [] s.heap := hP
  have hl := lv_entry ([.int p0]) (n := 1) (Nat.le_of_ble_eq_true rfl)
  rw [lg_entry_eq]
  generalize (lg_sl ([.int p0]) ++ List.replicate (1 - (lg_sl ([.int p0])).length) Slot.unset).toArray = ls at hl ⊢
  have hl : lv_has ls 1 [(0, .int p0)] := hl
  refine lv_iload_n hx hb dX11_requireVariable_0 rfl (lv_at hl 0 rfl) ?_
  have hF := pv_new hA hS.1
  refine va_calli (va_runS (As := [.int p0]) (rest := []) ⟨hx, hb, hml, hown, hts⟩ (c_X11_isVariable l hfl D _ p0) (va_cwS 1 hts (pv_gS w5_59 w5_60 w1_1 w5_61) rfl rfl rfl (by decide +kernel) ⟨Nat.le_of_ble_eq_true rfl, Nat.le_of_ble_eq_true rfl⟩) (pv_ps hE hS hF (hP.sub [] rfl) (hK.sub [] rfl) (hD.sub [] (by decide) rfl)) rfl rfl hl.1 rfl (lv_room (Nat.le_of_ble_eq_true rfl)) dX11_requireVariable_1 ⟨Nat.le_of_ble_eq_true rfl, Nat.le_of_ble_eq_true rfl⟩) hS (fun q _ h => hF q h) hF (fun r_0 u t H1 locs1 ht hvm hw hB hz1 hk1 hS => ?_)
  refine W.widen (k := 0) (n := 0) (Nat.le_of_ble_eq_true rfl) (Nat.le_of_ble_eq_true rfl) ?_
  have hP := pv_keep hP rfl hk1
  rcases hw with ⟨rfl, a_2⟩ | ⟨rfl, a_2⟩
  · refine lv_if_ne (tgt := 18) hx hb dX11_requireVariable_4 (by decide) (fun _ => ?_) (fun c_3 => absurd c_3 (by decide))
    refine vx_ret ?_
    refine W.widen (k := 1) (n := 6) (Nat.le_of_ble_eq_true rfl) (Nat.le_of_ble_eq_true rfl) ?_
    exact W.vret hx hb hr (fun t ht hW => ⟨⟨(), rfl, a_2, trivial⟩, hS.F ht⟩) hS.2.2 dX11_requireVariable_18
  · refine lv_if_ne (tgt := 18) hx hb dX11_requireVariable_4 (by decide) (fun c_4 => absurd (by decide) c_4) (fun _ => ?_)
    obtain ⟨sa, hsa⟩ := hE.2.2.2.1 (455, "no such variable") (by decide)
    exact vx_throwSW (own := RX11) (cls := "java/lang/IllegalArgumentException") (names := ["java/lang/RuntimeException", "java/lang/Exception"]) hx hb hfl hown rfl (by decide) (hg w4_151 rfl) (hg w1_14 rfl) hsa (vx_hat (fun w h => hts w (pv_in (vx_at_133_g w h) (List.mem_filter.mp h).2)) vx_at_133_b (fun w h => va_Nw.use (pv_kind_on (List.mem_filter.mp h).2) (hE.2.2.1 w h))) vx_at_133_t hE.1 hE.2.1 hS (hl.1.trans hml.symm) dX11_requireVariable_7 dX11_requireVariable_10 dX11_requireVariable_11 dX11_requireVariable_14 dX11_requireVariable_17 (fun x h9 => absurd (hnt x h9) id) (Nat.le_of_ble_eq_true rfl) (Nat.le_of_ble_eq_true rfl) (Nat.le_of_ble_eq_true rfl) (Nat.le_of_ble_eq_true rfl) hlocks (fun t h1 h2 h3 => ⟨(), trivial, ⟨rfl, a_2⟩, Nat.le_trans hS.1 h2, fun q h4 h5 => (h3 q (Nat.lt_of_lt_of_le h4 hS.1)).trans (hS.2.1 q h4 h5)⟩) hS.2.2 (Nat.le_of_ble_eq_true rfl) (Nat.le_of_ble_eq_true rfl)

theorem dX11_requireSign_0 : decode cX11_requireSign 0 = .ok (.iload_n 0, 1) := by decide +kernel
theorem dX11_requireSign_1 : decode cX11_requireSign 1 = .ok (.bipush 43, 2) := by decide +kernel
theorem dX11_requireSign_3 : decode cX11_requireSign 3 = .ok (.if_icmp .eq 26, 3) := by decide +kernel
theorem dX11_requireSign_29 : decode cX11_requireSign 29 = .ok (.return_, 1) := by decide +kernel
theorem dX11_requireSign_6 : decode cX11_requireSign 6 = .ok (.iload_n 0, 1) := by decide +kernel
theorem dX11_requireSign_7 : decode cX11_requireSign 7 = .ok (.bipush 45, 2) := by decide +kernel
theorem dX11_requireSign_9 : decode cX11_requireSign 9 = .ok (.if_icmp .eq 20, 3) := by decide +kernel
theorem dX11_requireSign_12 : decode cX11_requireSign 12 = .ok (.iload_n 0, 1) := by decide +kernel
theorem dX11_requireSign_13 : decode cX11_requireSign 13 = .ok (.bipush 48, 2) := by decide +kernel
theorem dX11_requireSign_15 : decode cX11_requireSign 15 = .ok (.if_icmp .eq 14, 3) := by decide +kernel
theorem dX11_requireSign_18 : decode cX11_requireSign 18 = .ok (.new 129, 3) := by decide +kernel
theorem dX11_requireSign_21 : decode cX11_requireSign 21 = .ok (.dup, 1) := by decide +kernel
theorem dX11_requireSign_22 : decode cX11_requireSign 22 = .ok (.ldc_w 457, 3) := by decide +kernel
theorem dX11_requireSign_25 : decode cX11_requireSign 25 = .ok (.invokespecial 133, 3) := by decide +kernel
theorem dX11_requireSign_28 : decode cX11_requireSign 28 = .ok (.athrow, 1) := by decide +kernel
set_option maxHeartbeats 4000000 in
set_option maxRecDepth 100000 in
/-- X11_requireSign -/
theorem c_X11_requireSign (l : Launch) (hfl : l.stackTraces = false) (D : va_G) (sz : Nat) (p0 : Int32) : vx_Met l yX11_requireSign (Cond.code yX11_requireSign cX11_requireSign 1 none :: pv_W) ({ frames := 7, cells := 1, slots := 6, locals := 100 } : Room) (va_Pc [.int p0] (pv_P D [] [] (va_A [] sz) sz)) (va_Qv (fun (_ : Unit) => (pv_sn p0)) (fun _ _ => True) (va_A [] sz)) (vx_X (fun _ : Unit => True) (fun E _ _ => E = "java/lang/IllegalArgumentException" ∧ ¬ (pv_sn p0)) (va_A [] sz)) 1 6 (va_A [] sz) := by
  refine vx_ofW (cc := cX11_requireSign) (maxL := 1) (ret := none) (by decide) rfl ?_
  intro p e s m args below meth c s₁ B hml hnt hv
  obtain ⟨rfl, hsz, hE, hP, hK, hD0⟩ := hv
  have hx := B.exec
  have hb := B.bytes
  have hr := B.returns
  have hts := fun (w : Cond) (h : w ∈ pv_W) => atoms_spec (ws := Cond.code yX11_requireSign cX11_requireSign 1 none :: pv_W) B.pre w (List.mem_cons_of_mem _ h)
  have hg := fun {w : Cond} (h : w ∈ lw_tbl) (g : goodWord w = true) => hts w (pv_in h g)
  have hown : s.vm.findClass RX11 = some m.cls := findClass_of_methodNamed B.named
  have hlocks := B.notSynchronized
  subst hsz
  have hD := hD0.self (sz := s.heap.size)
  generalize hAe : va_A [] s.heap.size = A at hD hE ⊢
  have hA : ∀ q : Nat, s.heap.size ≤ q → A q := fun q h => by rw [← hAe]; exact Or.inr h
  have hS : va_S A s.heap s.heap [] := va_S.rf
  have hP : va_P D pv_cl [] s.heap := hP
  have hl := lv_entry ([.int p0]) (n := 1) (Nat.le_of_ble_eq_true rfl)
  rw [lg_entry_eq]
  generalize (lg_sl ([.int p0]) ++ List.replicate (1 - (lg_sl ([.int p0])).length) Slot.unset).toArray = ls at hl ⊢
  have hl : lv_has ls 1 [(0, .int p0)] := hl
  refine lv_iload_n hx hb dX11_requireSign_0 rfl (lv_at hl 0 rfl) ?_
  refine lv_bipush (v := 43) hx hb dX11_requireSign_1 (by decide) ?_
  refine lv_icmp_eq (tgt := 29) hx hb dX11_requireSign_3 (by decide) (fun c_1 => ?_) (fun c_1 => ?_)
  · refine vx_ret ?_
    refine W.widen (k := 1) (n := 6) (Nat.le_of_ble_eq_true rfl) (Nat.le_of_ble_eq_true rfl) ?_
    exact W.vret hx hb hr (fun t ht hW => ⟨⟨(), rfl, Or.inl c_1, trivial⟩, hS.F ht⟩) hS.2.2 dX11_requireSign_29
  · refine lv_iload_n hx hb dX11_requireSign_6 rfl (lv_at hl 0 rfl) ?_
    refine lv_bipush (v := 45) hx hb dX11_requireSign_7 (by decide) ?_
    refine lv_icmp_eq (tgt := 29) hx hb dX11_requireSign_9 (by decide) (fun c_2 => ?_) (fun c_2 => ?_)
    · refine vx_ret ?_
      refine W.widen (k := 1) (n := 6) (Nat.le_of_ble_eq_true rfl) (Nat.le_of_ble_eq_true rfl) ?_
      exact W.vret hx hb hr (fun t ht hW => ⟨⟨(), rfl, Or.inr (Or.inl c_2), trivial⟩, hS.F ht⟩) hS.2.2 dX11_requireSign_29
    · refine lv_iload_n hx hb dX11_requireSign_12 rfl (lv_at hl 0 rfl) ?_
      refine lv_bipush (v := 48) hx hb dX11_requireSign_13 (by decide) ?_
      refine lv_icmp_eq (tgt := 29) hx hb dX11_requireSign_15 (by decide) (fun c_3 => ?_) (fun c_3 => ?_)
      · refine vx_ret ?_
        refine W.widen (k := 1) (n := 6) (Nat.le_of_ble_eq_true rfl) (Nat.le_of_ble_eq_true rfl) ?_
        exact W.vret hx hb hr (fun t ht hW => ⟨⟨(), rfl, Or.inr (Or.inr (c_3)), trivial⟩, hS.F ht⟩) hS.2.2 dX11_requireSign_29
      · obtain ⟨sa, hsa⟩ := hE.2.2.2.1 (457, "no such sign") (by decide)
        exact vx_throwSW (own := RX11) (cls := "java/lang/IllegalArgumentException") (names := ["java/lang/RuntimeException", "java/lang/Exception"]) hx hb hfl hown rfl (by decide) (hg w4_151 rfl) (hg w1_14 rfl) hsa (vx_hat (fun w h => hts w (pv_in (vx_at_133_g w h) (List.mem_filter.mp h).2)) vx_at_133_b (fun w h => va_Nw.use (pv_kind_on (List.mem_filter.mp h).2) (hE.2.2.1 w h))) vx_at_133_t hE.1 hE.2.1 hS (hl.1.trans hml.symm) dX11_requireSign_18 dX11_requireSign_21 dX11_requireSign_22 dX11_requireSign_25 dX11_requireSign_28 (fun x h9 => absurd (hnt x h9) id) (Nat.le_of_ble_eq_true rfl) (Nat.le_of_ble_eq_true rfl) (Nat.le_of_ble_eq_true rfl) (Nat.le_of_ble_eq_true rfl) hlocks (fun t h1 h2 h3 => ⟨(), trivial, ⟨rfl, pv_no3 c_1 c_2 c_3⟩, Nat.le_trans hS.1 h2, fun q h4 h5 => (h3 q (Nat.lt_of_lt_of_le h4 hS.1)).trans (hS.2.1 q h4 h5)⟩) hS.2.2 (Nat.le_of_ble_eq_true rfl) (Nat.le_of_ble_eq_true rfl)

theorem dX11_requireAny_0 : decode cX11_requireAny 0 = .ok (.aload_n 0, 1) := by decide +kernel
theorem dX11_requireAny_1 : decode cX11_requireAny 1 = .ok (.getfield 15, 3) := by decide +kernel
theorem dX11_requireAny_4 : decode cX11_requireAny 4 = .ok (.ifCond .ne 14, 3) := by decide +kernel
theorem dX11_requireAny_7 : decode cX11_requireAny 7 = .ok (.new 174, 3) := by decide +kernel
theorem dX11_requireAny_10 : decode cX11_requireAny 10 = .ok (.dup, 1) := by decide +kernel
theorem dX11_requireAny_11 : decode cX11_requireAny 11 = .ok (.ldc_w 488, 3) := by decide +kernel
theorem dX11_requireAny_14 : decode cX11_requireAny 14 = .ok (.invokespecial 178, 3) := by decide +kernel
theorem dX11_requireAny_17 : decode cX11_requireAny 17 = .ok (.athrow, 1) := by decide +kernel
theorem vx_at_178_g : ∀ w ∈ (vx_atS RX11 178 "java/lang/ArithmeticException" ["java/lang/RuntimeException", "java/lang/Exception"]).filter goodWord, w ∈ lw_tbl := by decide +kernel
theorem vx_at_178_b : ∀ w ∈ (vx_atS RX11 178 "java/lang/ArithmeticException" ["java/lang/RuntimeException", "java/lang/Exception"]).filter (fun w => !goodWord w), w ∈ pv_bw := by decide +kernel
theorem vx_at_178_t : ∀ w ∈ Cond.classLink RX11 174 "java/lang/ArithmeticException" :: Cond.initialized "java/lang/ArithmeticException" :: vx_atS RX11 178 "java/lang/ArithmeticException" ["java/lang/RuntimeException", "java/lang/Exception"], vx_ot w = true := by decide +kernel
theorem w5_179 : (Jvm.Cond.classLink "Polyforge" (174 : Nat) "java/lang/ArithmeticException") ∈ lw_tbl := pv_t5 (pv_mg 179 rfl)
theorem w1_23 : (Jvm.Cond.initialized "java/lang/ArithmeticException") ∈ lw_tbl := pv_t1 (pv_mg 23 rfl)
set_option maxHeartbeats 4000000 in
set_option maxRecDepth 100000 in
/-- requireAny on a fresh object: throws -/
theorem c_X11_requireAny (l : Launch) (hfl : l.stackTraces = false) (D : va_G) (sz : Nat) (h0 : Nat) (q : Nat → Nat) : vx_Met l yX11_requireAny (Cond.code yX11_requireAny cX11_requireAny 1 none :: pv_W) ({ frames := 7, cells := 1, slots := 6, locals := 100 } : Room) (va_Pc [.ref h0] (pv_P D [] [(h0, .inr (0, [.ref (q 0), .int 0, .int 108, .ref (q 1), .int 0, .ref (q 2), .int 0, .ref (q 3), .ref (q 4), .int 1, .ref (q 5), .ref (q 6), .ref (q 7), .ref (q 8), .ref (q 9)]))] (va_A [] sz) sz)) (fun _ _ _ _ => False) (vx_X (fun _ : Unit => True) (fun E _ _ => E = "java/lang/ArithmeticException") (va_A [] sz)) 1 6 (va_A [] sz) := by
  refine vx_ofW (cc := cX11_requireAny) (maxL := 1) (ret := none) (by decide) rfl ?_
  intro p e s m args below meth c s₁ B hml hnt hv
  obtain ⟨rfl, hsz, hE, hP, hK, hD0⟩ := hv
  have hx := B.exec
  have hb := B.bytes
  have hr := B.returns
  have hts := fun (w : Cond) (h : w ∈ pv_W) => atoms_spec (ws := Cond.code yX11_requireAny cX11_requireAny 1 none :: pv_W) B.pre w (List.mem_cons_of_mem _ h)
  have hg := fun {w : Cond} (h : w ∈ lw_tbl) (g : goodWord w = true) => hts w (pv_in h g)
  have hown : s.vm.findClass RX11 = some m.cls := findClass_of_methodNamed B.named
  have hlocks := B.notSynchronized
  subst hsz
  have hD := hD0
  generalize hAe : va_A [] s.heap.size = A at hE ⊢
  have hA : ∀ q : Nat, s.heap.size ≤ q → A q := fun q h => by rw [← hAe]; exact Or.inr h
  have hS : va_S A s.heap s.heap [] := va_S.rf
  have hP : va_P D pv_cl [(h0, .inr (0, [.ref (q 0), .int 0, .int 108, .ref (q 1), .int 0, .ref (q 2), .int 0, .ref (q 3), .ref (q 4), .int 1, .ref (q 5), .ref (q 6), .ref (q 7), .ref (q 8), .ref (q 9)]))] s.heap := hP
  have hl := lv_entry ([.ref h0]) (n := 1) (Nat.le_of_ble_eq_true rfl)
  rw [lg_entry_eq]
  generalize (lg_sl ([.ref h0]) ++ List.replicate (1 - (lg_sl ([.ref h0])).length) Slot.unset).toArray = ls at hl ⊢
  have hl : lv_has ls 1 [(0, .ref h0)] := hl
  refine lv_aload_n hx hb dX11_requireAny_0 rfl (lv_at hl 0 rfl) ?_
  refine va_get (own := RX11) (D := D) (ci := 0) (v := .int 0) (C := RX11) (T := TX11) (N := 15) hx hb hts inF11 hown hK hP 0 rfl rfl 1 (by decide) (hg w2_38 rfl) (fun _ h9 => h9) rfl dX11_requireAny_1 ?_
  refine lv_if_ne (tgt := 18) hx hb dX11_requireAny_4 (by decide) (fun c_1 => absurd (by decide) c_1) (fun _ => ?_)
  obtain ⟨sa, hsa⟩ := hE.2.2.2.1 (488, "no polynomial is kept") (by decide)
  exact vx_throwSW (own := RX11) (cls := "java/lang/ArithmeticException") (names := ["java/lang/RuntimeException", "java/lang/Exception"]) hx hb hfl hown rfl (by decide) (hg w5_179 rfl) (hg w1_23 rfl) hsa (vx_hat (fun w h => hts w (pv_in (vx_at_178_g w h) (List.mem_filter.mp h).2)) vx_at_178_b (fun w h => va_Nw.use (pv_kind_on (List.mem_filter.mp h).2) (hE.2.2.1 w h))) vx_at_178_t hE.1 hE.2.1 hS (hl.1.trans hml.symm) dX11_requireAny_7 dX11_requireAny_10 dX11_requireAny_11 dX11_requireAny_14 dX11_requireAny_17 (fun x h9 => absurd (hnt x h9) id) (Nat.le_of_ble_eq_true rfl) (Nat.le_of_ble_eq_true rfl) (Nat.le_of_ble_eq_true rfl) (Nat.le_of_ble_eq_true rfl) hlocks (fun t h1 h2 h3 => ⟨(), trivial, rfl, Nat.le_trans hS.1 h2, fun q h4 h5 => (h3 q (Nat.lt_of_lt_of_le h4 hS.1)).trans (hS.2.1 q h4 h5)⟩) hS.2.2 (Nat.le_of_ble_eq_true rfl) (Nat.le_of_ble_eq_true rfl)

theorem dX11_lineShare_0 : decode cX11_lineShare 0 = .ok (.aload_n 0, 1) := by decide +kernel
theorem dX11_lineShare_1 : decode cX11_lineShare 1 = .ok (.invokevirtual 419, 3) := by decide +kernel
theorem w8_176 : (Jvm.Cond.methodLink "Polyforge" (419 : Nat) ({ cls := "Polyforge", name := "requireAny", desc := "()V" } : Jvm.MethodName)) ∈ lw_tbl := pv_t8 (pv_mg 176 rfl)
theorem w8_179 : (Jvm.Cond.code ({ cls := "Polyforge", name := "requireAny", desc := "()V" } : Jvm.MethodName) prog_1_method_73_code (1 : Nat) (Option.none : Option Jvm.ClassFile.FieldType)) ∈ lw_tbl := pv_t8 (pv_mg 179 rfl)
theorem wp5_7 : Cond.selects "Polyforge" ⟨"Polyforge", "requireAny", "()V"⟩ ⟨"Polyforge", "requireAny", "()V"⟩ ∈ lw_tbl := pv_mg 71 rfl
theorem w8_178 : (Jvm.Cond.instanceMethod ({ cls := "Polyforge", name := "requireAny", desc := "()V" } : Jvm.MethodName)) ∈ lw_tbl := pv_t8 (pv_mg 178 rfl)
set_option maxHeartbeats 4000000 in
set_option maxRecDepth 100000 in
/-- lineShare on a fresh object: throws -/
theorem c_X11_lineShare (l : Launch) (hfl : l.stackTraces = false) (D : va_G) (sz : Nat) (h0 : Nat) (q : Nat → Nat) : vx_Met l yX11_lineShare (Cond.code yX11_lineShare cX11_lineShare 3 (some .float) :: pv_W) ({ frames := 8, cells := 1, slots := 6, locals := 120 } : Room) (va_Pc [.ref h0] (pv_P D [] [(h0, .inr (0, [.ref (q 0), .int 0, .int 108, .ref (q 1), .int 0, .ref (q 2), .int 0, .ref (q 3), .ref (q 4), .int 1, .ref (q 5), .ref (q 6), .ref (q 7), .ref (q 8), .ref (q 9)]))] (va_A [] sz) sz)) (fun _ _ _ _ => False) (vx_X (fun _ : Unit => True) (fun E _ _ => E = "java/lang/ArithmeticException") (va_A [] sz)) 1 6 (va_A [] sz) := by
  refine vx_ofW (cc := cX11_lineShare) (maxL := 3) (ret := (some .float)) (by decide) rfl ?_
  intro p e s m args below meth c s₁ B hml hnt hv
  obtain ⟨rfl, hsz, hE, hP, hK, hD0⟩ := hv
  have hx := B.exec
  have hb := B.bytes
  have hr := B.returns
  have hts := fun (w : Cond) (h : w ∈ pv_W) => atoms_spec (ws := Cond.code yX11_lineShare cX11_lineShare 3 (some .float) :: pv_W) B.pre w (List.mem_cons_of_mem _ h)
  have hg := fun {w : Cond} (h : w ∈ lw_tbl) (g : goodWord w = true) => hts w (pv_in h g)
  have hown : s.vm.findClass RX11 = some m.cls := findClass_of_methodNamed B.named
  have hlocks := B.notSynchronized
  subst hsz
  have hD := hD0
  generalize hAe : va_A [] s.heap.size = A at hE ⊢
  have hA : ∀ q : Nat, s.heap.size ≤ q → A q := fun q h => by rw [← hAe]; exact Or.inr h
  have hS : va_S A s.heap s.heap [] := va_S.rf
  have hP : va_P D pv_cl [(h0, .inr (0, [.ref (q 0), .int 0, .int 108, .ref (q 1), .int 0, .ref (q 2), .int 0, .ref (q 3), .ref (q 4), .int 1, .ref (q 5), .ref (q 6), .ref (q 7), .ref (q 8), .ref (q 9)]))] s.heap := hP
  have hl := lv_entry ([.ref h0]) (n := 3) (Nat.le_of_ble_eq_true rfl)
  rw [lg_entry_eq]
  generalize (lg_sl ([.ref h0]) ++ List.replicate (3 - (lg_sl ([.ref h0])).length) Slot.unset).toArray = ls at hl ⊢
  have hl : lv_has ls 3 [(0, .ref h0)] := hl
  refine lv_aload_n hx hb dX11_lineShare_0 rfl (lv_at hl 0 rfl) ?_
  have hF := pv_new hA hS.1
  refine pv_thrown (vx_runV (As := []) (rest := []) ⟨hx, hb, hml, hown, hts⟩ (c_X11_requireAny l hfl D _ h0 q ) (cwV 0 hts (pv_gV w8_176 w8_178 wp5_7 w1_1 w8_179) rfl rfl rfl (by decide +kernel) ⟨Nat.le_of_ble_eq_true rfl, Nat.le_of_ble_eq_true rfl⟩) (pv_pV hE hS hF (hP.sub [0] rfl) (hK.sub [] rfl) (hD.sub [0] (by decide) rfl) (va_recv (ci := 0) (q0 := 0) hK hP rfl rfl)) rfl rfl hl.1 rfl (lv_room (Nat.le_of_ble_eq_true rfl)) dX11_lineShare_1 ⟨Nat.le_of_ble_eq_true rfl, Nat.le_of_ble_eq_true rfl⟩) (fun _ _ _ h => h) hS hF hF (fun E ce q9 u t H1 locs1 ht hvm hpx hbx hz1 hk1 hS hce hcv hcl => ?_)
  exact vx_out (fun x h9 => absurd (hnt x h9) id) hlocks hce hcv hcl (fun t ht hvm => ⟨(), trivial, hbx, hS.F ht⟩) hS.2.2 (Nat.le_of_ble_eq_true rfl) (Nat.le_of_ble_eq_true rfl)

theorem dX11_meanTerms_0 : decode cX11_meanTerms 0 = .ok (.aload_n 0, 1) := by decide +kernel
theorem dX11_meanTerms_1 : decode cX11_meanTerms 1 = .ok (.invokevirtual 419, 3) := by decide +kernel
set_option maxHeartbeats 4000000 in
set_option maxRecDepth 100000 in
/-- meanTerms on a fresh object: throws -/
theorem c_X11_meanTerms (l : Launch) (hfl : l.stackTraces = false) (D : va_G) (sz : Nat) (h0 : Nat) (q : Nat → Nat) : vx_Met l yX11_meanTerms (Cond.code yX11_meanTerms cX11_meanTerms 4 (some .double) :: pv_W) ({ frames := 8, cells := 1, slots := 6, locals := 120 } : Room) (va_Pc [.ref h0] (pv_P D [] [(h0, .inr (0, [.ref (q 0), .int 0, .int 108, .ref (q 1), .int 0, .ref (q 2), .int 0, .ref (q 3), .ref (q 4), .int 1, .ref (q 5), .ref (q 6), .ref (q 7), .ref (q 8), .ref (q 9)]))] (va_A [] sz) sz)) (fun _ _ _ _ => False) (vx_X (fun _ : Unit => True) (fun E _ _ => E = "java/lang/ArithmeticException") (va_A [] sz)) 1 6 (va_A [] sz) := by
  refine vx_ofW (cc := cX11_meanTerms) (maxL := 4) (ret := (some .double)) (by decide) rfl ?_
  intro p e s m args below meth c s₁ B hml hnt hv
  obtain ⟨rfl, hsz, hE, hP, hK, hD0⟩ := hv
  have hx := B.exec
  have hb := B.bytes
  have hr := B.returns
  have hts := fun (w : Cond) (h : w ∈ pv_W) => atoms_spec (ws := Cond.code yX11_meanTerms cX11_meanTerms 4 (some .double) :: pv_W) B.pre w (List.mem_cons_of_mem _ h)
  have hg := fun {w : Cond} (h : w ∈ lw_tbl) (g : goodWord w = true) => hts w (pv_in h g)
  have hown : s.vm.findClass RX11 = some m.cls := findClass_of_methodNamed B.named
  have hlocks := B.notSynchronized
  subst hsz
  have hD := hD0
  generalize hAe : va_A [] s.heap.size = A at hE ⊢
  have hA : ∀ q : Nat, s.heap.size ≤ q → A q := fun q h => by rw [← hAe]; exact Or.inr h
  have hS : va_S A s.heap s.heap [] := va_S.rf
  have hP : va_P D pv_cl [(h0, .inr (0, [.ref (q 0), .int 0, .int 108, .ref (q 1), .int 0, .ref (q 2), .int 0, .ref (q 3), .ref (q 4), .int 1, .ref (q 5), .ref (q 6), .ref (q 7), .ref (q 8), .ref (q 9)]))] s.heap := hP
  have hl := lv_entry ([.ref h0]) (n := 4) (Nat.le_of_ble_eq_true rfl)
  rw [lg_entry_eq]
  generalize (lg_sl ([.ref h0]) ++ List.replicate (4 - (lg_sl ([.ref h0])).length) Slot.unset).toArray = ls at hl ⊢
  have hl : lv_has ls 4 [(0, .ref h0)] := hl
  refine lv_aload_n hx hb dX11_meanTerms_0 rfl (lv_at hl 0 rfl) ?_
  have hF := pv_new hA hS.1
  refine pv_thrown (vx_runV (As := []) (rest := []) ⟨hx, hb, hml, hown, hts⟩ (c_X11_requireAny l hfl D _ h0 q ) (cwV 0 hts (pv_gV w8_176 w8_178 wp5_7 w1_1 w8_179) rfl rfl rfl (by decide +kernel) ⟨Nat.le_of_ble_eq_true rfl, Nat.le_of_ble_eq_true rfl⟩) (pv_pV hE hS hF (hP.sub [0] rfl) (hK.sub [] rfl) (hD.sub [0] (by decide) rfl) (va_recv (ci := 0) (q0 := 0) hK hP rfl rfl)) rfl rfl hl.1 rfl (lv_room (Nat.le_of_ble_eq_true rfl)) dX11_meanTerms_1 ⟨Nat.le_of_ble_eq_true rfl, Nat.le_of_ble_eq_true rfl⟩) (fun _ _ _ h => h) hS hF hF (fun E ce q9 u t H1 locs1 ht hvm hpx hbx hz1 hk1 hS hce hcv hcl => ?_)
  exact vx_out (fun x h9 => absurd (hnt x h9) id) hlocks hce hcv hcl (fun t ht hvm => ⟨(), trivial, hbx, hS.F ht⟩) hS.2.2 (Nat.le_of_ble_eq_true rfl) (Nat.le_of_ble_eq_true rfl)

theorem dX11_closeFrame_0 : decode cX11_closeFrame 0 = .ok (.aload_n 0, 1) := by decide +kernel
theorem dX11_closeFrame_1 : decode cX11_closeFrame 1 = .ok (.getfield 49, 3) := by decide +kernel
theorem w2_46 : (Jvm.Cond.fieldLink "Polyforge" (49 : Nat) "Polyforge" "openFrames" "I") ∈ lw_tbl := pv_t2 (pv_mg 46 rfl)
theorem dX11_closeFrame_4 : decode cX11_closeFrame 4 = .ok (.iconst 1, 1) := by decide +kernel
theorem dX11_closeFrame_5 : decode cX11_closeFrame 5 = .ok (.if_icmp .gt 14, 3) := by decide +kernel
theorem dX11_closeFrame_8 : decode cX11_closeFrame 8 = .ok (.new 306, 3) := by decide +kernel
theorem dX11_closeFrame_11 : decode cX11_closeFrame 11 = .ok (.dup, 1) := by decide +kernel
theorem dX11_closeFrame_12 : decode cX11_closeFrame 12 = .ok (.ldc_w 411, 3) := by decide +kernel
theorem dX11_closeFrame_15 : decode cX11_closeFrame 15 = .ok (.invokespecial 310, 3) := by decide +kernel
theorem dX11_closeFrame_18 : decode cX11_closeFrame 18 = .ok (.athrow, 1) := by decide +kernel
theorem vx_at_310_g : ∀ w ∈ (vx_atS RX11 310 "java/lang/IllegalStateException" ["java/lang/RuntimeException", "java/lang/Exception"]).filter goodWord, w ∈ lw_tbl := by decide +kernel
theorem vx_at_310_b : ∀ w ∈ (vx_atS RX11 310 "java/lang/IllegalStateException" ["java/lang/RuntimeException", "java/lang/Exception"]).filter (fun w => !goodWord w), w ∈ pv_bw := by decide +kernel
theorem vx_at_310_t : ∀ w ∈ Cond.classLink RX11 306 "java/lang/IllegalStateException" :: Cond.initialized "java/lang/IllegalStateException" :: vx_atS RX11 310 "java/lang/IllegalStateException" ["java/lang/RuntimeException", "java/lang/Exception"], vx_ot w = true := by decide +kernel
theorem w5_9 : (Jvm.Cond.classLink "Polyforge" (306 : Nat) "java/lang/IllegalStateException") ∈ lw_tbl := pv_t5 (pv_mg 9 rfl)
theorem w1_18 : (Jvm.Cond.initialized "java/lang/IllegalStateException") ∈ lw_tbl := pv_t1 (pv_mg 18 rfl)
set_option maxHeartbeats 4000000 in
set_option maxRecDepth 100000 in
/-- closeFrame on a fresh object: throws -/
theorem c_X11_closeFrame (l : Launch) (hfl : l.stackTraces = false) (D : va_G) (sz : Nat) (h0 : Nat) (q : Nat → Nat) : vx_Met l yX11_closeFrame (Cond.code yX11_closeFrame cX11_closeFrame 3 (some .int) :: pv_W) ({ frames := 7, cells := 1, slots := 6, locals := 100 } : Room) (va_Pc [.ref h0] (pv_P D [] [(h0, .inr (0, [.ref (q 0), .int 0, .int 108, .ref (q 1), .int 0, .ref (q 2), .int 0, .ref (q 3), .ref (q 4), .int 1, .ref (q 5), .ref (q 6), .ref (q 7), .ref (q 8), .ref (q 9)]))] (va_A [] sz) sz)) (fun _ _ _ _ => False) (vx_X (fun _ : Unit => True) (fun E _ _ => E = "java/lang/IllegalStateException") (va_A [] sz)) 1 6 (va_A [] sz) := by
  refine vx_ofW (cc := cX11_closeFrame) (maxL := 3) (ret := (some .int)) (by decide) rfl ?_
  intro p e s m args below meth c s₁ B hml hnt hv
  obtain ⟨rfl, hsz, hE, hP, hK, hD0⟩ := hv
  have hx := B.exec
  have hb := B.bytes
  have hr := B.returns
  have hts := fun (w : Cond) (h : w ∈ pv_W) => atoms_spec (ws := Cond.code yX11_closeFrame cX11_closeFrame 3 (some .int) :: pv_W) B.pre w (List.mem_cons_of_mem _ h)
  have hg := fun {w : Cond} (h : w ∈ lw_tbl) (g : goodWord w = true) => hts w (pv_in h g)
  have hown : s.vm.findClass RX11 = some m.cls := findClass_of_methodNamed B.named
  have hlocks := B.notSynchronized
  subst hsz
  have hD := hD0
  generalize hAe : va_A [] s.heap.size = A at hE ⊢
  have hA : ∀ q : Nat, s.heap.size ≤ q → A q := fun q h => by rw [← hAe]; exact Or.inr h
  have hS : va_S A s.heap s.heap [] := va_S.rf
  have hP : va_P D pv_cl [(h0, .inr (0, [.ref (q 0), .int 0, .int 108, .ref (q 1), .int 0, .ref (q 2), .int 0, .ref (q 3), .ref (q 4), .int 1, .ref (q 5), .ref (q 6), .ref (q 7), .ref (q 8), .ref (q 9)]))] s.heap := hP
  have hl := lv_entry ([.ref h0]) (n := 3) (Nat.le_of_ble_eq_true rfl)
  rw [lg_entry_eq]
  generalize (lg_sl ([.ref h0]) ++ List.replicate (3 - (lg_sl ([.ref h0])).length) Slot.unset).toArray = ls at hl ⊢
  have hl : lv_has ls 3 [(0, .ref h0)] := hl
  refine lv_aload_n hx hb dX11_closeFrame_0 rfl (lv_at hl 0 rfl) ?_
  refine va_get (own := RX11) (D := D) (ci := 0) (v := .int 1) (C := RX11) (T := TX11) (N := 15) hx hb hts inF11 hown hK hP 0 rfl rfl 9 (by decide) (hg w2_46 rfl) (fun _ h9 => h9) rfl dX11_closeFrame_1 ?_
  refine lv_iconst (v := 1) hx hb dX11_closeFrame_4 (by decide) ?_
  refine lv_icmp_gt (tgt := 19) hx hb dX11_closeFrame_5 (by decide) (fun c_1 => absurd c_1 (by decide)) (fun _ => ?_)
  obtain ⟨sa, hsa⟩ := hE.2.2.2.1 (411, "one frame alone is open") (by decide)
  exact vx_throwSW (own := RX11) (cls := "java/lang/IllegalStateException") (names := ["java/lang/RuntimeException", "java/lang/Exception"]) hx hb hfl hown rfl (by decide) (hg w5_9 rfl) (hg w1_18 rfl) hsa (vx_hat (fun w h => hts w (pv_in (vx_at_310_g w h) (List.mem_filter.mp h).2)) vx_at_310_b (fun w h => va_Nw.use (pv_kind_on (List.mem_filter.mp h).2) (hE.2.2.1 w h))) vx_at_310_t hE.1 hE.2.1 hS (hl.1.trans hml.symm) dX11_closeFrame_8 dX11_closeFrame_11 dX11_closeFrame_12 dX11_closeFrame_15 dX11_closeFrame_18 (fun x h9 => absurd (hnt x h9) id) (Nat.le_of_ble_eq_true rfl) (Nat.le_of_ble_eq_true rfl) (Nat.le_of_ble_eq_true rfl) (Nat.le_of_ble_eq_true rfl) hlocks (fun t h1 h2 h3 => ⟨(), trivial, rfl, Nat.le_trans hS.1 h2, fun q h4 h5 => (h3 q (Nat.lt_of_lt_of_le h4 hS.1)).trans (hS.2.1 q h4 h5)⟩) hS.2.2 (Nat.le_of_ble_eq_true rfl) (Nat.le_of_ble_eq_true rfl)

theorem dX11_polynomials_0 : decode cX11_polynomials 0 = .ok (.aload_n 0, 1) := by decide +kernel
theorem dX11_polynomials_1 : decode cX11_polynomials 1 = .ok (.getfield 15, 3) := by decide +kernel
theorem dX11_polynomials_4 : decode cX11_polynomials 4 = .ok (.ireturn, 1) := by decide +kernel
set_option maxHeartbeats 4000000 in
set_option maxRecDepth 100000 in
/-- polynomials on a fresh object -/
theorem c_X11_polynomials (l : Launch) (hfl : l.stackTraces = false) (D : va_G) (sz : Nat) (h0 : Nat) (q : Nat → Nat) : Met l yX11_polynomials (Cond.code yX11_polynomials cX11_polynomials 1 (some .int) :: pv_W) ({ frames := 0, cells := 0, slots := 0, locals := 0 } : Room) (va_Pc [.ref h0] (pv_P D [] [(h0, .inr (0, [.ref (q 0), .int 0, .int 108, .ref (q 1), .int 0, .ref (q 2), .int 0, .ref (q 3), .ref (q 4), .int 1, .ref (q 5), .ref (q 6), .ref (q 7), .ref (q 8), .ref (q 9)]))] (va_A [] sz) sz)) (va_Qi (fun r (_ : Unit) => r = 0) (fun _ _ => True) (va_A [] sz)) 0 0 (va_A [] sz) := by
  refine Met.ofW (cc := cX11_polynomials) (maxL := 1) (ret := (some .int)) (by decide) rfl ?_
  intro p e s m args below meth c s₁ B hml hv
  obtain ⟨rfl, hsz, hE, hP, hK, hD0⟩ := hv
  have hx := B.exec
  have hb := B.bytes
  have hr := B.returns
  have hts := fun (w : Cond) (h : w ∈ pv_W) => atoms_spec (ws := Cond.code yX11_polynomials cX11_polynomials 1 (some .int) :: pv_W) B.pre w (List.mem_cons_of_mem _ h)
  have hg := fun {w : Cond} (h : w ∈ lw_tbl) (g : goodWord w = true) => hts w (pv_in h g)
  have hown : s.vm.findClass RX11 = some m.cls := findClass_of_methodNamed B.named
  have hlocks := B.notSynchronized
  subst hsz
  have hD := hD0
  generalize hAe : va_A [] s.heap.size = A at hE ⊢
  have hA : ∀ q : Nat, s.heap.size ≤ q → A q := fun q h => by rw [← hAe]; exact Or.inr h
  have hS : va_S A s.heap s.heap [] := va_S.rf
  have hP : va_P D pv_cl [(h0, .inr (0, [.ref (q 0), .int 0, .int 108, .ref (q 1), .int 0, .ref (q 2), .int 0, .ref (q 3), .ref (q 4), .int 1, .ref (q 5), .ref (q 6), .ref (q 7), .ref (q 8), .ref (q 9)]))] s.heap := hP
  have hl := lv_entry ([.ref h0]) (n := 1) (Nat.le_of_ble_eq_true rfl)
  rw [lg_entry_eq]
  generalize (lg_sl ([.ref h0]) ++ List.replicate (1 - (lg_sl ([.ref h0])).length) Slot.unset).toArray = ls at hl ⊢
  have hl : lv_has ls 1 [(0, .ref h0)] := hl
  refine lv_aload_n hx hb dX11_polynomials_0 rfl (lv_at hl 0 rfl) ?_
  refine va_get (own := RX11) (D := D) (ci := 0) (v := .int 0) (C := RX11) (T := TX11) (N := 15) hx hb hts inF11 hown hK hP 0 rfl rfl 1 (by decide) (hg w2_38 rfl) (fun _ h9 => h9) rfl dX11_polynomials_1 ?_
  refine W.widen (k := 0) (n := 0) (Nat.le_of_ble_eq_true rfl) (Nat.le_of_ble_eq_true rfl) ?_
  exact W.iret (v := 0) hx hb hr (fun t ht hW => ⟨⟨0, (), rfl, rfl, trivial⟩, hS.F ht⟩) hS.2.2 dX11_polynomials_4

theorem dX11_isSound_0 : decode cX11_isSound 0 = .ok (.iconst 0, 1) := by decide +kernel
theorem dX11_isSound_1 : decode cX11_isSound 1 = .ok (.istore_n 1, 1) := by decide +kernel
theorem dX11_isSound_2 : decode cX11_isSound 2 = .ok (.iload_n 1, 1) := by decide +kernel
theorem dX11_isSound_3 : decode cX11_isSound 3 = .ok (.aload_n 0, 1) := by decide +kernel
theorem dX11_isSound_4 : decode cX11_isSound 4 = .ok (.getfield 15, 3) := by decide +kernel
theorem dX11_isSound_7 : decode cX11_isSound 7 = .ok (.if_icmp .ge 58, 3) := by decide +kernel
theorem dX11_isSound_65 : decode cX11_isSound 65 = .ok (.iconst 0, 1) := by decide +kernel
theorem dX11_isSound_66 : decode cX11_isSound 66 = .ok (.istore_n 1, 1) := by decide +kernel
theorem dX11_isSound_67 : decode cX11_isSound 67 = .ok (.iload_n 1, 1) := by decide +kernel
theorem dX11_isSound_68 : decode cX11_isSound 68 = .ok (.aload_n 0, 1) := by decide +kernel
theorem dX11_isSound_69 : decode cX11_isSound 69 = .ok (.getfield 29, 3) := by decide +kernel
theorem dX11_isSound_72 : decode cX11_isSound 72 = .ok (.if_icmp .ge 34, 3) := by decide +kernel
theorem dX11_isSound_106 : decode cX11_isSound 106 = .ok (.iconst 1, 1) := by decide +kernel
theorem dX11_isSound_107 : decode cX11_isSound 107 = .ok (.ireturn, 1) := by decide +kernel
set_option maxHeartbeats 4000000 in
set_option maxRecDepth 100000 in
/-- isSound on a fresh object -/
theorem c_X11_isSound (l : Launch) (hfl : l.stackTraces = false) (D : va_G) (sz : Nat) (h0 : Nat) (q : Nat → Nat) : Met l yX11_isSound (Cond.code yX11_isSound cX11_isSound 3 (some .boolean) :: pv_W) ({ frames := 0, cells := 0, slots := 0, locals := 0 } : Room) (va_Pc [.ref h0] (pv_P D [] [(h0, .inr (0, [.ref (q 0), .int 0, .int 108, .ref (q 1), .int 0, .ref (q 2), .int 0, .ref (q 3), .ref (q 4), .int 1, .ref (q 5), .ref (q 6), .ref (q 7), .ref (q 8), .ref (q 9)]))] (va_A [] sz) sz)) (va_Qi (fun r (_ : Unit) => r = 1) (fun _ _ => True) (va_A [] sz)) 0 0 (va_A [] sz) := by
  refine Met.ofW (cc := cX11_isSound) (maxL := 3) (ret := (some .boolean)) (by decide) rfl ?_
  intro p e s m args below meth c s₁ B hml hv
  obtain ⟨rfl, hsz, hE, hP, hK, hD0⟩ := hv
  have hx := B.exec
  have hb := B.bytes
  have hr := B.returns
  have hts := fun (w : Cond) (h : w ∈ pv_W) => atoms_spec (ws := Cond.code yX11_isSound cX11_isSound 3 (some .boolean) :: pv_W) B.pre w (List.mem_cons_of_mem _ h)
  have hg := fun {w : Cond} (h : w ∈ lw_tbl) (g : goodWord w = true) => hts w (pv_in h g)
  have hown : s.vm.findClass RX11 = some m.cls := findClass_of_methodNamed B.named
  have hlocks := B.notSynchronized
  subst hsz
  have hD := hD0
  generalize hAe : va_A [] s.heap.size = A at hE ⊢
  have hA : ∀ q : Nat, s.heap.size ≤ q → A q := fun q h => by rw [← hAe]; exact Or.inr h
  have hS : va_S A s.heap s.heap [] := va_S.rf
  have hP : va_P D pv_cl [(h0, .inr (0, [.ref (q 0), .int 0, .int 108, .ref (q 1), .int 0, .ref (q 2), .int 0, .ref (q 3), .ref (q 4), .int 1, .ref (q 5), .ref (q 6), .ref (q 7), .ref (q 8), .ref (q 9)]))] s.heap := hP
  have hl := lv_entry ([.ref h0]) (n := 3) (Nat.le_of_ble_eq_true rfl)
  rw [lg_entry_eq]
  generalize (lg_sl ([.ref h0]) ++ List.replicate (3 - (lg_sl ([.ref h0])).length) Slot.unset).toArray = ls at hl ⊢
  have hl : lv_has ls 3 [(0, .ref h0)] := hl
  refine lv_iconst (v := 0) hx hb dX11_isSound_0 (by decide) ?_
  refine lv_istore_n (lv' := [(1, .int 0), (0, .ref h0)]) hx hb dX11_isSound_1 rfl hl (by decide) rfl (fun ls hl => ?_)
  refine lv_iload_n hx hb dX11_isSound_2 rfl (lv_at hl 0 rfl) ?_
  refine lv_aload_n hx hb dX11_isSound_3 rfl (lv_at hl 1 rfl) ?_
  refine va_get (own := RX11) (D := D) (ci := 0) (v := .int 0) (C := RX11) (T := TX11) (N := 15) hx hb hts inF11 hown hK hP 0 rfl rfl 1 (by decide) (hg w2_38 rfl) (fun _ h9 => h9) rfl dX11_isSound_4 ?_
  refine lv_icmp_ge (tgt := 65) hx hb dX11_isSound_7 (by decide) (fun _ => ?_) (fun c_1 => absurd (by decide) c_1)
  refine lv_iconst (v := 0) hx hb dX11_isSound_65 (by decide) ?_
  refine lv_istore_n (lv' := [(1, .int 0), (0, .ref h0)]) hx hb dX11_isSound_66 rfl hl (by decide) rfl (fun ls hl => ?_)
  refine lv_iload_n hx hb dX11_isSound_67 rfl (lv_at hl 0 rfl) ?_
  refine lv_aload_n hx hb dX11_isSound_68 rfl (lv_at hl 1 rfl) ?_
  refine va_get (own := RX11) (D := D) (ci := 0) (v := .int 0) (C := RX11) (T := TX11) (N := 15) hx hb hts inF11 hown hK hP 0 rfl rfl 4 (by decide) (hg w2_41 rfl) (fun _ h9 => h9) rfl dX11_isSound_69 ?_
  refine lv_icmp_ge (tgt := 106) hx hb dX11_isSound_72 (by decide) (fun _ => ?_) (fun c_2 => absurd (by decide) c_2)
  refine lv_iconst (v := 1) hx hb dX11_isSound_106 (by decide) ?_
  refine W.widen (k := 0) (n := 0) (Nat.le_of_ble_eq_true rfl) (Nat.le_of_ble_eq_true rfl) ?_
  exact W.zret (v := 1) (ty := .boolean) hx hb hr rfl (fun t ht hW => ⟨⟨1, (), rfl, rfl, trivial⟩, hS.F ht⟩) hS.2.2 dX11_isSound_107

theorem dX11_openFrame_0 : decode cX11_openFrame 0 = .ok (.aload_n 0, 1) := by decide +kernel
theorem dX11_openFrame_1 : decode cX11_openFrame 1 = .ok (.getfield 49, 3) := by decide +kernel
theorem dX11_openFrame_4 : decode cX11_openFrame 4 = .ok (.bipush 6, 2) := by decide +kernel
theorem dX11_openFrame_6 : decode cX11_openFrame 6 = .ok (.if_icmp .lt 14, 3) := by decide +kernel
theorem dX11_openFrame_20 : decode cX11_openFrame 20 = .ok (.aload_n 0, 1) := by decide +kernel
theorem dX11_openFrame_21 : decode cX11_openFrame 21 = .ok (.dup, 1) := by decide +kernel
theorem dX11_openFrame_22 : decode cX11_openFrame 22 = .ok (.getfield 49, 3) := by decide +kernel
theorem dX11_openFrame_25 : decode cX11_openFrame 25 = .ok (.iconst 1, 1) := by decide +kernel
theorem dX11_openFrame_26 : decode cX11_openFrame 26 = .ok (.iadd, 1) := by decide +kernel
theorem dX11_openFrame_27 : decode cX11_openFrame 27 = .ok (.putfield 49, 3) := by decide +kernel
theorem dX11_openFrame_30 : decode cX11_openFrame 30 = .ok (.aload_n 0, 1) := by decide +kernel
theorem dX11_openFrame_31 : decode cX11_openFrame 31 = .ok (.getfield 49, 3) := by decide +kernel
theorem dX11_openFrame_34 : decode cX11_openFrame 34 = .ok (.ireturn, 1) := by decide +kernel
set_option maxHeartbeats 4000000 in
set_option maxRecDepth 100000 in
/-- openFrame on a fresh object: 2 -/
theorem c_X11_openFrame (l : Launch) (hfl : l.stackTraces = false) (D : va_G) (sz : Nat) (h0 : Nat) (q : Nat → Nat) : vx_Met l yX11_openFrame (Cond.code yX11_openFrame cX11_openFrame 1 (some .int) :: pv_W) ({ frames := 0, cells := 0, slots := 0, locals := 0 } : Room) (va_Pc [.ref h0] (pv_P D [] [(h0, .inr (0, [.ref (q 0), .int 0, .int 108, .ref (q 1), .int 0, .ref (q 2), .int 0, .ref (q 3), .ref (q 4), .int 1, .ref (q 5), .ref (q 6), .ref (q 7), .ref (q 8), .ref (q 9)]))] (va_A [(h0, .inr (0, [.ref (q 0), .int 0, .int 108, .ref (q 1), .int 0, .ref (q 2), .int 0, .ref (q 3), .ref (q 4), .int 1, .ref (q 5), .ref (q 6), .ref (q 7), .ref (q 8), .ref (q 9)]))] sz) sz)) (va_Qi (fun r (_ : Unit) => r = 2) (fun _ _ => True) (va_A [(h0, .inr (0, [.ref (q 0), .int 0, .int 108, .ref (q 1), .int 0, .ref (q 2), .int 0, .ref (q 3), .ref (q 4), .int 1, .ref (q 5), .ref (q 6), .ref (q 7), .ref (q 8), .ref (q 9)]))] sz)) (vx_X (fun _ : Unit => True) (fun E _ _ => False) (va_A [(h0, .inr (0, [.ref (q 0), .int 0, .int 108, .ref (q 1), .int 0, .ref (q 2), .int 0, .ref (q 3), .ref (q 4), .int 1, .ref (q 5), .ref (q 6), .ref (q 7), .ref (q 8), .ref (q 9)]))] sz)) 0 0 (va_A [(h0, .inr (0, [.ref (q 0), .int 0, .int 108, .ref (q 1), .int 0, .ref (q 2), .int 0, .ref (q 3), .ref (q 4), .int 1, .ref (q 5), .ref (q 6), .ref (q 7), .ref (q 8), .ref (q 9)]))] sz) := by
  refine vx_ofW (cc := cX11_openFrame) (maxL := 1) (ret := (some .int)) (by decide) rfl ?_
  intro p e s m args below meth c s₁ B hml hnt hv
  obtain ⟨rfl, hsz, hE, hP, hK, hD0⟩ := hv
  have hx := B.exec
  have hb := B.bytes
  have hr := B.returns
  have hts := fun (w : Cond) (h : w ∈ pv_W) => atoms_spec (ws := Cond.code yX11_openFrame cX11_openFrame 1 (some .int) :: pv_W) B.pre w (List.mem_cons_of_mem _ h)
  have hg := fun {w : Cond} (h : w ∈ lw_tbl) (g : goodWord w = true) => hts w (pv_in h g)
  have hown : s.vm.findClass RX11 = some m.cls := findClass_of_methodNamed B.named
  have hlocks := B.notSynchronized
  subst hsz
  have hD := hD0.self (sz := s.heap.size)
  generalize hAe : va_A [(h0, .inr (0, [.ref (q 0), .int 0, .int 108, .ref (q 1), .int 0, .ref (q 2), .int 0, .ref (q 3), .ref (q 4), .int 1, .ref (q 5), .ref (q 6), .ref (q 7), .ref (q 8), .ref (q 9)]))] s.heap.size = A at hD hE ⊢
  have hA : ∀ q : Nat, s.heap.size ≤ q → A q := fun q h => by rw [← hAe]; exact Or.inr h
  have hS : va_S A s.heap s.heap [] := va_S.rf
  have hP : va_P D pv_cl [(h0, .inr (0, [.ref (q 0), .int 0, .int 108, .ref (q 1), .int 0, .ref (q 2), .int 0, .ref (q 3), .ref (q 4), .int 1, .ref (q 5), .ref (q 6), .ref (q 7), .ref (q 8), .ref (q 9)]))] s.heap := hP
  have hl := lv_entry ([.ref h0]) (n := 1) (Nat.le_of_ble_eq_true rfl)
  rw [lg_entry_eq]
  generalize (lg_sl ([.ref h0]) ++ List.replicate (1 - (lg_sl ([.ref h0])).length) Slot.unset).toArray = ls at hl ⊢
  have hl : lv_has ls 1 [(0, .ref h0)] := hl
  refine lv_aload_n hx hb dX11_openFrame_0 rfl (lv_at hl 0 rfl) ?_
  refine va_get (own := RX11) (D := D) (ci := 0) (v := .int 1) (C := RX11) (T := TX11) (N := 15) hx hb hts inF11 hown hK hP 0 rfl rfl 9 (by decide) (hg w2_46 rfl) (fun _ h9 => h9) rfl dX11_openFrame_1 ?_
  refine lv_bipush (v := 6) hx hb dX11_openFrame_4 (by decide) ?_
  refine lv_icmp_lt (tgt := 20) hx hb dX11_openFrame_6 (by decide) (fun _ => ?_) (fun c_1 => absurd (by decide) c_1)
  refine lv_aload_n hx hb dX11_openFrame_20 rfl (lv_at hl 0 rfl) ?_
  refine lv_dup hx hb dX11_openFrame_21 rfl ?_
  refine va_get (own := RX11) (D := D) (ci := 0) (v := .int 1) (C := RX11) (T := TX11) (N := 15) hx hb hts inF11 hown hK hP 0 rfl rfl 9 (by decide) (hg w2_46 rfl) (fun _ h9 => h9) rfl dX11_openFrame_22 ?_
  refine lv_iconst (v := 1) hx hb dX11_openFrame_25 (by decide) ?_
  refine lv_iadd hx hb dX11_openFrame_26 ?_
  refine pv_setI 2 (by decide) ?_
  refine va_put (own := RX11) (D := D) (ci := 0) (v := .int 2) (ty := .int) (C := RX11) (T := TX11) (N := 15) hx hb hts inF11 tyX11 tyX11_ok nmX11 hown hK hP hD hS 0 rfl rfl 9 (by decide) (hg w2_46 rfl) (fun _ h9 => h9) rfl (by decide +kernel) rfl rfl (Nat.le_of_ble_eq_true rfl) dX11_openFrame_27 (fun H locs hP hD hS => ?_)
  have hP : va_P D pv_cl [(h0, .inr (0, [.ref (q 0), .int 0, .int 108, .ref (q 1), .int 0, .ref (q 2), .int 0, .ref (q 3), .ref (q 4), .int 2, .ref (q 5), .ref (q 6), .ref (q 7), .ref (q 8), .ref (q 9)]))] _ := hP
  have hD : va_D A [(h0, .inr (0, [.ref (q 0), .int 0, .int 108, .ref (q 1), .int 0, .ref (q 2), .int 0, .ref (q 3), .ref (q 4), .int 2, .ref (q 5), .ref (q 6), .ref (q 7), .ref (q 8), .ref (q 9)]))] := hD
  refine lv_aload_n hx hb dX11_openFrame_30 rfl (lv_at hl 0 rfl) ?_
  refine va_get (own := RX11) (D := D) (ci := 0) (v := .int 2) (C := RX11) (T := TX11) (N := 15) hx hb hts inF11 hown hK hP 0 rfl rfl 9 (by decide) (hg w2_46 rfl) (fun _ h9 => h9) rfl dX11_openFrame_31 ?_
  refine vx_ret ?_
  refine W.widen (k := 0) (n := 0) (Nat.le_of_ble_eq_true rfl) (Nat.le_of_ble_eq_true rfl) ?_
  exact W.iret (v := 2) hx hb hr (fun t ht hW => ⟨⟨2, (), rfl, rfl, trivial⟩, hS.F ht⟩) hS.2.2 dX11_openFrame_34

theorem dX11_setOrder_0 : decode cX11_setOrder 0 = .ok (.iload_n 1, 1) := by decide +kernel
theorem dX11_setOrder_1 : decode cX11_setOrder 1 = .ok (.bipush 108, 2) := by decide +kernel
theorem dX11_setOrder_3 : decode cX11_setOrder 3 = .ok (.if_icmp .eq 25, 3) := by decide +kernel
theorem dX11_setOrder_28 : decode cX11_setOrder 28 = .ok (.aload_n 0, 1) := by decide +kernel
theorem dX11_setOrder_29 : decode cX11_setOrder 29 = .ok (.getfield 19, 3) := by decide +kernel
theorem w2_39 : (Jvm.Cond.fieldLink "Polyforge" (19 : Nat) "Polyforge" "order" "C") ∈ lw_tbl := pv_t2 (pv_mg 39 rfl)
theorem dX11_setOrder_32 : decode cX11_setOrder 32 = .ok (.istore_n 2, 1) := by decide +kernel
theorem dX11_setOrder_33 : decode cX11_setOrder 33 = .ok (.aload_n 0, 1) := by decide +kernel
theorem dX11_setOrder_34 : decode cX11_setOrder 34 = .ok (.iload_n 1, 1) := by decide +kernel
theorem dX11_setOrder_35 : decode cX11_setOrder 35 = .ok (.putfield 19, 3) := by decide +kernel
theorem dX11_setOrder_38 : decode cX11_setOrder 38 = .ok (.iload_n 2, 1) := by decide +kernel
theorem dX11_setOrder_39 : decode cX11_setOrder 39 = .ok (.ireturn, 1) := by decide +kernel
theorem dX11_setOrder_6 : decode cX11_setOrder 6 = .ok (.iload_n 1, 1) := by decide +kernel
theorem dX11_setOrder_7 : decode cX11_setOrder 7 = .ok (.bipush 100, 2) := by decide +kernel
theorem dX11_setOrder_9 : decode cX11_setOrder 9 = .ok (.if_icmp .eq 19, 3) := by decide +kernel
theorem dX11_setOrder_12 : decode cX11_setOrder 12 = .ok (.iload_n 1, 1) := by decide +kernel
theorem dX11_setOrder_13 : decode cX11_setOrder 13 = .ok (.bipush 114, 2) := by decide +kernel
theorem dX11_setOrder_15 : decode cX11_setOrder 15 = .ok (.if_icmp .eq 13, 3) := by decide +kernel
theorem dX11_setOrder_18 : decode cX11_setOrder 18 = .ok (.new 129, 3) := by decide +kernel
theorem dX11_setOrder_21 : decode cX11_setOrder 21 = .ok (.dup, 1) := by decide +kernel
theorem dX11_setOrder_22 : decode cX11_setOrder 22 = .ok (.ldc 160, 2) := by decide +kernel
theorem dX11_setOrder_24 : decode cX11_setOrder 24 = .ok (.invokespecial 133, 3) := by decide +kernel
theorem dX11_setOrder_27 : decode cX11_setOrder 27 = .ok (.athrow, 1) := by decide +kernel
set_option maxHeartbeats 4000000 in
set_option maxRecDepth 100000 in
/-- setOrder on a fresh object -/
theorem c_X11_setOrder (l : Launch) (hfl : l.stackTraces = false) (D : va_G) (sz : Nat) (h0 : Nat) (q : Nat → Nat) (p0 : Int32) : vx_Met l yX11_setOrder (Cond.code yX11_setOrder cX11_setOrder 3 (some .char) :: pv_W) ({ frames := 7, cells := 1, slots := 6, locals := 100 } : Room) (va_Pc [.ref h0, .int p0] (pv_P D [] [(h0, .inr (0, [.ref (q 0), .int 0, .int 108, .ref (q 1), .int 0, .ref (q 2), .int 0, .ref (q 3), .ref (q 4), .int 1, .ref (q 5), .ref (q 6), .ref (q 7), .ref (q 8), .ref (q 9)]))] (va_A [(h0, .inr (0, [.ref (q 0), .int 0, .int 108, .ref (q 1), .int 0, .ref (q 2), .int 0, .ref (q 3), .ref (q 4), .int 1, .ref (q 5), .ref (q 6), .ref (q 7), .ref (q 8), .ref (q 9)]))] sz) sz)) (va_Qi (fun r (_ : Unit) => r = 108 ∧ pv_od p0) (fun _ _ => True) (va_A [(h0, .inr (0, [.ref (q 0), .int 0, .int 108, .ref (q 1), .int 0, .ref (q 2), .int 0, .ref (q 3), .ref (q 4), .int 1, .ref (q 5), .ref (q 6), .ref (q 7), .ref (q 8), .ref (q 9)]))] sz)) (vx_X (fun _ : Unit => True) (fun E _ _ => E = "java/lang/IllegalArgumentException" ∧ ¬ pv_od p0) (va_A [(h0, .inr (0, [.ref (q 0), .int 0, .int 108, .ref (q 1), .int 0, .ref (q 2), .int 0, .ref (q 3), .ref (q 4), .int 1, .ref (q 5), .ref (q 6), .ref (q 7), .ref (q 8), .ref (q 9)]))] sz)) 1 6 (va_A [(h0, .inr (0, [.ref (q 0), .int 0, .int 108, .ref (q 1), .int 0, .ref (q 2), .int 0, .ref (q 3), .ref (q 4), .int 1, .ref (q 5), .ref (q 6), .ref (q 7), .ref (q 8), .ref (q 9)]))] sz) := by
  refine vx_ofW (cc := cX11_setOrder) (maxL := 3) (ret := (some .char)) (by decide) rfl ?_
  intro p e s m args below meth c s₁ B hml hnt hv
  obtain ⟨rfl, hsz, hE, hP, hK, hD0⟩ := hv
  have hx := B.exec
  have hb := B.bytes
  have hr := B.returns
  have hts := fun (w : Cond) (h : w ∈ pv_W) => atoms_spec (ws := Cond.code yX11_setOrder cX11_setOrder 3 (some .char) :: pv_W) B.pre w (List.mem_cons_of_mem _ h)
  have hg := fun {w : Cond} (h : w ∈ lw_tbl) (g : goodWord w = true) => hts w (pv_in h g)
  have hown : s.vm.findClass RX11 = some m.cls := findClass_of_methodNamed B.named
  have hlocks := B.notSynchronized
  subst hsz
  have hD := hD0.self (sz := s.heap.size)
  generalize hAe : va_A [(h0, .inr (0, [.ref (q 0), .int 0, .int 108, .ref (q 1), .int 0, .ref (q 2), .int 0, .ref (q 3), .ref (q 4), .int 1, .ref (q 5), .ref (q 6), .ref (q 7), .ref (q 8), .ref (q 9)]))] s.heap.size = A at hD hE ⊢
  have hA : ∀ q : Nat, s.heap.size ≤ q → A q := fun q h => by rw [← hAe]; exact Or.inr h
  have hS : va_S A s.heap s.heap [] := va_S.rf
  have hP : va_P D pv_cl [(h0, .inr (0, [.ref (q 0), .int 0, .int 108, .ref (q 1), .int 0, .ref (q 2), .int 0, .ref (q 3), .ref (q 4), .int 1, .ref (q 5), .ref (q 6), .ref (q 7), .ref (q 8), .ref (q 9)]))] s.heap := hP
  have hl := lv_entry ([.ref h0, .int p0]) (n := 3) (Nat.le_of_ble_eq_true rfl)
  rw [lg_entry_eq]
  generalize (lg_sl ([.ref h0, .int p0]) ++ List.replicate (3 - (lg_sl ([.ref h0, .int p0])).length) Slot.unset).toArray = ls at hl ⊢
  have hl : lv_has ls 3 [(0, .ref h0), (1, .int p0)] := hl
  refine lv_iload_n hx hb dX11_setOrder_0 rfl (lv_at hl 1 rfl) ?_
  refine lv_bipush (v := 108) hx hb dX11_setOrder_1 (by decide) ?_
  refine lv_icmp_eq (tgt := 28) hx hb dX11_setOrder_3 (by decide) (fun c_1 => ?_) (fun c_1 => ?_)
  · have hod : pv_od p0 := Or.inl c_1
    refine lv_aload_n hx hb dX11_setOrder_28 rfl (lv_at hl 0 rfl) ?_
    refine va_get (own := RX11) (D := D) (ci := 0) (v := .int 108) (C := RX11) (T := TX11) (N := 15) hx hb hts inF11 hown hK hP 0 rfl rfl 2 (by decide) (hg w2_39 rfl) (fun _ h9 => h9) rfl dX11_setOrder_29 ?_
    refine lv_istore_n (lv' := [(2, .int 108), (0, .ref h0), (1, .int p0)]) hx hb dX11_setOrder_32 rfl hl (by decide) rfl (fun ls hl => ?_)
    refine lv_aload_n hx hb dX11_setOrder_33 rfl (lv_at hl 1 rfl) ?_
    refine lv_iload_n hx hb dX11_setOrder_34 rfl (lv_at hl 2 rfl) ?_
    refine va_put (own := RX11) (D := D) (ci := 0) (v := .int p0) (ty := .char) (C := RX11) (T := TX11) (N := 15) hx hb hts inF11 tyX11 tyX11_ok nmX11 hown hK hP hD hS 0 rfl rfl 2 (by decide) (hg w2_39 rfl) (fun _ h9 => h9) rfl (by decide +kernel) (by rcases hod with rfl | rfl | rfl <;> rfl) (by rcases hod with rfl | rfl | rfl <;> rfl) (Nat.le_of_ble_eq_true rfl) dX11_setOrder_35 (fun H locs hP hD hS => ?_)
    have hP : va_P D pv_cl [(h0, .inr (0, [.ref (q 0), .int 0, .int p0, .ref (q 1), .int 0, .ref (q 2), .int 0, .ref (q 3), .ref (q 4), .int 1, .ref (q 5), .ref (q 6), .ref (q 7), .ref (q 8), .ref (q 9)]))] _ := hP
    have hD : va_D A [(h0, .inr (0, [.ref (q 0), .int 0, .int p0, .ref (q 1), .int 0, .ref (q 2), .int 0, .ref (q 3), .ref (q 4), .int 1, .ref (q 5), .ref (q 6), .ref (q 7), .ref (q 8), .ref (q 9)]))] := hD
    refine lv_iload_n hx hb dX11_setOrder_38 rfl (lv_at hl 0 rfl) ?_
    refine vx_ret ?_
    refine W.widen (k := 1) (n := 6) (Nat.le_of_ble_eq_true rfl) (Nat.le_of_ble_eq_true rfl) ?_
    exact W.zret (v := 108) (ty := .char) hx hb hr rfl (fun t ht hW => ⟨⟨108, (), rfl, ⟨rfl, hod⟩, trivial⟩, hS.F ht⟩) hS.2.2 dX11_setOrder_39
  · refine lv_iload_n hx hb dX11_setOrder_6 rfl (lv_at hl 1 rfl) ?_
    refine lv_bipush (v := 100) hx hb dX11_setOrder_7 (by decide) ?_
    refine lv_icmp_eq (tgt := 28) hx hb dX11_setOrder_9 (by decide) (fun c_2 => ?_) (fun c_2 => ?_)
    · have hod : pv_od p0 := Or.inr (Or.inl c_2)
      refine lv_aload_n hx hb dX11_setOrder_28 rfl (lv_at hl 0 rfl) ?_
      refine va_get (own := RX11) (D := D) (ci := 0) (v := .int 108) (C := RX11) (T := TX11) (N := 15) hx hb hts inF11 hown hK hP 0 rfl rfl 2 (by decide) (hg w2_39 rfl) (fun _ h9 => h9) rfl dX11_setOrder_29 ?_
      refine lv_istore_n (lv' := [(2, .int 108), (0, .ref h0), (1, .int p0)]) hx hb dX11_setOrder_32 rfl hl (by decide) rfl (fun ls hl => ?_)
      refine lv_aload_n hx hb dX11_setOrder_33 rfl (lv_at hl 1 rfl) ?_
      refine lv_iload_n hx hb dX11_setOrder_34 rfl (lv_at hl 2 rfl) ?_
      refine va_put (own := RX11) (D := D) (ci := 0) (v := .int p0) (ty := .char) (C := RX11) (T := TX11) (N := 15) hx hb hts inF11 tyX11 tyX11_ok nmX11 hown hK hP hD hS 0 rfl rfl 2 (by decide) (hg w2_39 rfl) (fun _ h9 => h9) rfl (by decide +kernel) (by rcases hod with rfl | rfl | rfl <;> rfl) (by rcases hod with rfl | rfl | rfl <;> rfl) (Nat.le_of_ble_eq_true rfl) dX11_setOrder_35 (fun H locs hP hD hS => ?_)
      have hP : va_P D pv_cl [(h0, .inr (0, [.ref (q 0), .int 0, .int p0, .ref (q 1), .int 0, .ref (q 2), .int 0, .ref (q 3), .ref (q 4), .int 1, .ref (q 5), .ref (q 6), .ref (q 7), .ref (q 8), .ref (q 9)]))] _ := hP
      have hD : va_D A [(h0, .inr (0, [.ref (q 0), .int 0, .int p0, .ref (q 1), .int 0, .ref (q 2), .int 0, .ref (q 3), .ref (q 4), .int 1, .ref (q 5), .ref (q 6), .ref (q 7), .ref (q 8), .ref (q 9)]))] := hD
      refine lv_iload_n hx hb dX11_setOrder_38 rfl (lv_at hl 0 rfl) ?_
      refine vx_ret ?_
      refine W.widen (k := 1) (n := 6) (Nat.le_of_ble_eq_true rfl) (Nat.le_of_ble_eq_true rfl) ?_
      exact W.zret (v := 108) (ty := .char) hx hb hr rfl (fun t ht hW => ⟨⟨108, (), rfl, ⟨rfl, hod⟩, trivial⟩, hS.F ht⟩) hS.2.2 dX11_setOrder_39
    · refine lv_iload_n hx hb dX11_setOrder_12 rfl (lv_at hl 1 rfl) ?_
      refine lv_bipush (v := 114) hx hb dX11_setOrder_13 (by decide) ?_
      refine lv_icmp_eq (tgt := 28) hx hb dX11_setOrder_15 (by decide) (fun c_3 => ?_) (fun c_3 => ?_)
      · have hod : pv_od p0 := Or.inr (Or.inr (c_3))
        refine lv_aload_n hx hb dX11_setOrder_28 rfl (lv_at hl 0 rfl) ?_
        refine va_get (own := RX11) (D := D) (ci := 0) (v := .int 108) (C := RX11) (T := TX11) (N := 15) hx hb hts inF11 hown hK hP 0 rfl rfl 2 (by decide) (hg w2_39 rfl) (fun _ h9 => h9) rfl dX11_setOrder_29 ?_
        refine lv_istore_n (lv' := [(2, .int 108), (0, .ref h0), (1, .int p0)]) hx hb dX11_setOrder_32 rfl hl (by decide) rfl (fun ls hl => ?_)
        refine lv_aload_n hx hb dX11_setOrder_33 rfl (lv_at hl 1 rfl) ?_
        refine lv_iload_n hx hb dX11_setOrder_34 rfl (lv_at hl 2 rfl) ?_
        refine va_put (own := RX11) (D := D) (ci := 0) (v := .int p0) (ty := .char) (C := RX11) (T := TX11) (N := 15) hx hb hts inF11 tyX11 tyX11_ok nmX11 hown hK hP hD hS 0 rfl rfl 2 (by decide) (hg w2_39 rfl) (fun _ h9 => h9) rfl (by decide +kernel) (by rcases hod with rfl | rfl | rfl <;> rfl) (by rcases hod with rfl | rfl | rfl <;> rfl) (Nat.le_of_ble_eq_true rfl) dX11_setOrder_35 (fun H locs hP hD hS => ?_)
        have hP : va_P D pv_cl [(h0, .inr (0, [.ref (q 0), .int 0, .int p0, .ref (q 1), .int 0, .ref (q 2), .int 0, .ref (q 3), .ref (q 4), .int 1, .ref (q 5), .ref (q 6), .ref (q 7), .ref (q 8), .ref (q 9)]))] _ := hP
        have hD : va_D A [(h0, .inr (0, [.ref (q 0), .int 0, .int p0, .ref (q 1), .int 0, .ref (q 2), .int 0, .ref (q 3), .ref (q 4), .int 1, .ref (q 5), .ref (q 6), .ref (q 7), .ref (q 8), .ref (q 9)]))] := hD
        refine lv_iload_n hx hb dX11_setOrder_38 rfl (lv_at hl 0 rfl) ?_
        refine vx_ret ?_
        refine W.widen (k := 1) (n := 6) (Nat.le_of_ble_eq_true rfl) (Nat.le_of_ble_eq_true rfl) ?_
        exact W.zret (v := 108) (ty := .char) hx hb hr rfl (fun t ht hW => ⟨⟨108, (), rfl, ⟨rfl, hod⟩, trivial⟩, hS.F ht⟩) hS.2.2 dX11_setOrder_39
      · obtain ⟨sa, hsa⟩ := hE.2.2.2.1 (160, "no such order") (by decide)
        exact vx_throwS (own := RX11) (cls := "java/lang/IllegalArgumentException") (names := ["java/lang/RuntimeException", "java/lang/Exception"]) hx hb hfl hown rfl (by decide) (hg w4_151 rfl) (hg w1_14 rfl) hsa (vx_hat (fun w h => hts w (pv_in (vx_at_133_g w h) (List.mem_filter.mp h).2)) vx_at_133_b (fun w h => va_Nw.use (pv_kind_on (List.mem_filter.mp h).2) (hE.2.2.1 w h))) vx_at_133_t hE.1 hE.2.1 hS (hl.1.trans hml.symm) dX11_setOrder_18 dX11_setOrder_21 dX11_setOrder_22 dX11_setOrder_24 dX11_setOrder_27 (fun x h9 => absurd (hnt x h9) id) (Nat.le_of_ble_eq_true rfl) (Nat.le_of_ble_eq_true rfl) (Nat.le_of_ble_eq_true rfl) (Nat.le_of_ble_eq_true rfl) hlocks (fun t h1 h2 h3 => ⟨(), trivial, ⟨rfl, pv_no3 c_1 c_2 c_3⟩, Nat.le_trans hS.1 h2, fun q h4 h5 => (h3 q (Nat.lt_of_lt_of_le h4 hS.1)).trans (hS.2.1 q h4 h5)⟩) hS.2.2 (Nat.le_of_ble_eq_true rfl) (Nat.le_of_ble_eq_true rfl)

theorem dX11_signOf_0 : decode cX11_signOf 0 = .ok (.iload_n 1, 1) := by decide +kernel
theorem dX11_signOf_1 : decode cX11_signOf 1 = .ok (.invokestatic 452, 3) := by decide +kernel
theorem dX11_signOf_4 : decode cX11_signOf 4 = .ok (.ifCond .eq 12, 3) := by decide +kernel
theorem dX11_signOf_7 : decode cX11_signOf 7 = .ok (.aload_n 0, 1) := by decide +kernel
theorem dX11_signOf_8 : decode cX11_signOf 8 = .ok (.getfield 41, 3) := by decide +kernel
theorem w2_44 : (Jvm.Cond.fieldLink "Polyforge" (41 : Nat) "Polyforge" "signs" "[C") ∈ lw_tbl := pv_t2 (pv_mg 44 rfl)
theorem dX11_signOf_11 : decode cX11_signOf 11 = .ok (.iload_n 1, 1) := by decide +kernel
theorem dX11_signOf_12 : decode cX11_signOf 12 = .ok (.caload, 1) := by decide +kernel
theorem dX11_signOf_13 : decode cX11_signOf 13 = .ok (.goto 5, 3) := by decide +kernel
theorem dX11_signOf_18 : decode cX11_signOf 18 = .ok (.ireturn, 1) := by decide +kernel
theorem dX11_signOf_16 : decode cX11_signOf 16 = .ok (.bipush 63, 2) := by decide +kernel
set_option maxHeartbeats 4000000 in
set_option maxRecDepth 100000 in
/-- signOf -/
theorem c_X11_signOf (l : Launch) (hfl : l.stackTraces = false) (D : va_G) (sz : Nat) (h0 : Nat) (q : Nat → Nat) (cC : ClassId) (sg : Nat → Int32) (hch : pv_ch sg) (p0 : Int32) : Met l yX11_signOf (Cond.code yX11_signOf cX11_signOf 2 (some .char) :: pv_W) ({ frames := 1, cells := 0, slots := 0, locals := 20 } : Room) (va_Pc [.ref h0, .int p0] (pv_P D [(cC, .char)] [(h0, .inr (0, [.ref (q 0), .int 0, .int 108, .ref (q 1), .int 0, .ref (q 2), .int 0, .ref (q 3), .ref (q 4), .int 1, .ref (q 5), .ref (q 6), .ref (q 7), .ref (q 8), .ref (q 9)])), ((q 3), .inl (cC, 3, .inl sg))] (va_A [] sz) sz)) (va_Qi (fun r (_ : Unit) => (pv_vr p0 ∧ r = sg p0.toNatClampNeg) ∨ (¬ pv_vr p0 ∧ r = 63)) (fun _ _ => True) (va_A [] sz)) 0 0 (va_A [] sz) := by
  refine Met.ofW (cc := cX11_signOf) (maxL := 2) (ret := (some .char)) (by decide) rfl ?_
  intro p e s m args below meth c s₁ B hml hv
  obtain ⟨rfl, hsz, hE, hP, hK, hD0⟩ := hv
  have hx := B.exec
  have hb := B.bytes
  have hr := B.returns
  have hts := fun (w : Cond) (h : w ∈ pv_W) => atoms_spec (ws := Cond.code yX11_signOf cX11_signOf 2 (some .char) :: pv_W) B.pre w (List.mem_cons_of_mem _ h)
  have hg := fun {w : Cond} (h : w ∈ lw_tbl) (g : goodWord w = true) => hts w (pv_in h g)
  have hown : s.vm.findClass RX11 = some m.cls := findClass_of_methodNamed B.named
  have hlocks := B.notSynchronized
  subst hsz
  have hD := hD0
  generalize hAe : va_A [] s.heap.size = A at hE ⊢
  have hA : ∀ q : Nat, s.heap.size ≤ q → A q := fun q h => by rw [← hAe]; exact Or.inr h
  have hS : va_S A s.heap s.heap [] := va_S.rf
  have hP : va_P D pv_cl [(h0, .inr (0, [.ref (q 0), .int 0, .int 108, .ref (q 1), .int 0, .ref (q 2), .int 0, .ref (q 3), .ref (q 4), .int 1, .ref (q 5), .ref (q 6), .ref (q 7), .ref (q 8), .ref (q 9)])), ((q 3), .inl (cC, 3, .inl sg))] s.heap := hP
  have hl := lv_entry ([.ref h0, .int p0]) (n := 2) (Nat.le_of_ble_eq_true rfl)
  rw [lg_entry_eq]
  generalize (lg_sl ([.ref h0, .int p0]) ++ List.replicate (2 - (lg_sl ([.ref h0, .int p0])).length) Slot.unset).toArray = ls at hl ⊢
  have hl : lv_has ls 2 [(0, .ref h0), (1, .int p0)] := hl
  refine lv_iload_n hx hb dX11_signOf_0 rfl (lv_at hl 1 rfl) ?_
  have hF := pv_new hA hS.1
  refine va_calli (va_runS (As := [.int p0]) (rest := []) ⟨hx, hb, hml, hown, hts⟩ (c_X11_isVariable l hfl D _ p0) (va_cwS 1 hts (pv_gS w5_59 w5_60 w1_1 w5_61) rfl rfl rfl (by decide +kernel) ⟨Nat.le_of_ble_eq_true rfl, Nat.le_of_ble_eq_true rfl⟩) (pv_ps hE hS hF (hP.sub [] rfl) (hK.sub [] rfl) (hD.sub [] (by decide) rfl)) rfl rfl hl.1 rfl (lv_room (Nat.le_of_ble_eq_true rfl)) dX11_signOf_1 ⟨Nat.le_of_ble_eq_true rfl, Nat.le_of_ble_eq_true rfl⟩) hS (fun q _ h => hF q h) hF (fun r_0 u t H1 locs1 ht hvm hw hB hz1 hk1 hS => ?_)
  refine W.widen (k := 0) (n := 0) (Nat.le_of_ble_eq_true rfl) (Nat.le_of_ble_eq_true rfl) ?_
  have hP := pv_keep hP rfl hk1
  rcases hw with ⟨rfl, a_2⟩ | ⟨rfl, a_2⟩
  · refine lv_if_eq (tgt := 16) hx hb dX11_signOf_4 (by decide) (fun c_3 => absurd c_3 (by decide)) (fun _ => ?_)
    refine lv_aload_n hx hb dX11_signOf_7 rfl (lv_at hl 0 rfl) ?_
    refine va_get (own := RX11) (D := D) (ci := 0) (v := .ref (q 3)) (C := RX11) (T := TX11) (N := 15) hx hb hts inF11 hown hK hP 0 rfl rfl 7 (by decide) (hg w2_44 rfl) (fun _ h9 => h9) rfl dX11_signOf_8 ?_
    refine lv_iload_n hx hb dX11_signOf_11 rfl (lv_at hl 1 rfl) ?_
    refine va_cald hx hb hK hP 1 0 rfl rfl (pv_vin a_2) dX11_signOf_12 ?_
    refine lv_goto (tgt := 18) hx hb dX11_signOf_13 (by decide) ?_
    refine W.widen (k := 0) (n := 0) (Nat.le_of_ble_eq_true rfl) (Nat.le_of_ble_eq_true rfl) ?_
    exact W.zret (v := sg p0.toNatClampNeg) (ty := .char) hx hb hr (hch _ (pv_vcl a_2)) (fun t ht hW => ⟨⟨sg p0.toNatClampNeg, (), rfl, Or.inl ⟨a_2, rfl⟩, trivial⟩, hS.F ht⟩) hS.2.2 dX11_signOf_18
  · refine lv_if_eq (tgt := 16) hx hb dX11_signOf_4 (by decide) (fun _ => ?_) (fun c_4 => absurd (by decide) c_4)
    refine lv_bipush (v := 63) hx hb dX11_signOf_16 (by decide) ?_
    refine W.widen (k := 0) (n := 0) (Nat.le_of_ble_eq_true rfl) (Nat.le_of_ble_eq_true rfl) ?_
    exact W.zret (v := 63) (ty := .char) hx hb hr rfl (fun t ht hW => ⟨⟨63, (), rfl, Or.inr ⟨a_2, rfl⟩, trivial⟩, hS.F ht⟩) hS.2.2 dX11_signOf_18

theorem dX11_sign_0 : decode cX11_sign 0 = .ok (.iload_n 1, 1) := by decide +kernel
theorem dX11_sign_1 : decode cX11_sign 1 = .ok (.invokestatic 96, 3) := by decide +kernel
theorem w5_56 : (Jvm.Cond.methodLink "Polyforge" (96 : Nat) ({ cls := "Polyforge", name := "requireVariable", desc := "(I)V" } : Jvm.MethodName)) ∈ lw_tbl := pv_t5 (pv_mg 56 rfl)
theorem w5_58 : (Jvm.Cond.code ({ cls := "Polyforge", name := "requireVariable", desc := "(I)V" } : Jvm.MethodName) prog_1_method_59_code (1 : Nat) (Option.none : Option Jvm.ClassFile.FieldType)) ∈ lw_tbl := pv_t5 (pv_mg 58 rfl)
theorem w5_57 : (Jvm.Cond.static ({ cls := "Polyforge", name := "requireVariable", desc := "(I)V" } : Jvm.MethodName)) ∈ lw_tbl := pv_t5 (pv_mg 57 rfl)
theorem dX11_sign_4 : decode cX11_sign 4 = .ok (.aload_n 0, 1) := by decide +kernel
theorem dX11_sign_5 : decode cX11_sign 5 = .ok (.iload_n 1, 1) := by decide +kernel
theorem dX11_sign_6 : decode cX11_sign 6 = .ok (.invokevirtual 403, 3) := by decide +kernel
theorem w8_97 : (Jvm.Cond.methodLink "Polyforge" (403 : Nat) ({ cls := "Polyforge", name := "signOf", desc := "(I)C" } : Jvm.MethodName)) ∈ lw_tbl := pv_t8 (pv_mg 97 rfl)
theorem w8_100 : (Jvm.Cond.code ({ cls := "Polyforge", name := "signOf", desc := "(I)C" } : Jvm.MethodName) prog_1_method_101_code (2 : Nat) (Option.some Jvm.ClassFile.FieldType.char)) ∈ lw_tbl := pv_t8 (pv_mg 100 rfl)
theorem wp5_2 : Cond.selects "Polyforge" ⟨"Polyforge", "signOf", "(I)C"⟩ ⟨"Polyforge", "signOf", "(I)C"⟩ ∈ lw_tbl := pv_mg 66 rfl
theorem w8_99 : (Jvm.Cond.instanceMethod ({ cls := "Polyforge", name := "signOf", desc := "(I)C" } : Jvm.MethodName)) ∈ lw_tbl := pv_t8 (pv_mg 99 rfl)
theorem dX11_sign_9 : decode cX11_sign 9 = .ok (.ireturn, 1) := by decide +kernel
set_option maxHeartbeats 4000000 in
set_option maxRecDepth 100000 in
/-- sign on a fresh object -/
theorem c_X11_sign (l : Launch) (hfl : l.stackTraces = false) (D : va_G) (sz : Nat) (h0 : Nat) (q : Nat → Nat) (cC : ClassId) (sg : Nat → Int32) (hsg : ∀ j, j < 3 → sg j = 63) (p0 : Int32) : vx_Met l yX11_sign (Cond.code yX11_sign cX11_sign 2 (some .char) :: pv_W) ({ frames := 8, cells := 1, slots := 6, locals := 120 } : Room) (va_Pc [.ref h0, .int p0] (pv_P D [(cC, .char)] [(h0, .inr (0, [.ref (q 0), .int 0, .int 108, .ref (q 1), .int 0, .ref (q 2), .int 0, .ref (q 3), .ref (q 4), .int 1, .ref (q 5), .ref (q 6), .ref (q 7), .ref (q 8), .ref (q 9)])), ((q 3), .inl (cC, 3, .inl sg))] (va_A [] sz) sz)) (va_Qi (fun r (_ : Unit) => r = 63 ∧ pv_vr p0) (fun _ _ => True) (va_A [] sz)) (vx_X (fun _ : Unit => True) (fun E _ _ => E = "java/lang/IllegalArgumentException" ∧ ¬ pv_vr p0) (va_A [] sz)) 1 6 (va_A [] sz) := by
  refine vx_ofW (cc := cX11_sign) (maxL := 2) (ret := (some .char)) (by decide) rfl ?_
  intro p e s m args below meth c s₁ B hml hnt hv
  obtain ⟨rfl, hsz, hE, hP, hK, hD0⟩ := hv
  have hx := B.exec
  have hb := B.bytes
  have hr := B.returns
  have hts := fun (w : Cond) (h : w ∈ pv_W) => atoms_spec (ws := Cond.code yX11_sign cX11_sign 2 (some .char) :: pv_W) B.pre w (List.mem_cons_of_mem _ h)
  have hg := fun {w : Cond} (h : w ∈ lw_tbl) (g : goodWord w = true) => hts w (pv_in h g)
  have hown : s.vm.findClass RX11 = some m.cls := findClass_of_methodNamed B.named
  have hlocks := B.notSynchronized
  subst hsz
  have hD := hD0
  generalize hAe : va_A [] s.heap.size = A at hE ⊢
  have hA : ∀ q : Nat, s.heap.size ≤ q → A q := fun q h => by rw [← hAe]; exact Or.inr h
  have hS : va_S A s.heap s.heap [] := va_S.rf
  have hP : va_P D pv_cl [(h0, .inr (0, [.ref (q 0), .int 0, .int 108, .ref (q 1), .int 0, .ref (q 2), .int 0, .ref (q 3), .ref (q 4), .int 1, .ref (q 5), .ref (q 6), .ref (q 7), .ref (q 8), .ref (q 9)])), ((q 3), .inl (cC, 3, .inl sg))] s.heap := hP
  have hl := lv_entry ([.ref h0, .int p0]) (n := 2) (Nat.le_of_ble_eq_true rfl)
  rw [lg_entry_eq]
  generalize (lg_sl ([.ref h0, .int p0]) ++ List.replicate (2 - (lg_sl ([.ref h0, .int p0])).length) Slot.unset).toArray = ls at hl ⊢
  have hl : lv_has ls 2 [(0, .ref h0), (1, .int p0)] := hl
  refine lv_iload_n hx hb dX11_sign_0 rfl (lv_at hl 1 rfl) ?_
  have hF := pv_new hA hS.1
  refine vx_callv (vx_runS (As := [.int p0]) (rest := []) ⟨hx, hb, hml, hown, hts⟩ (c_X11_requireVariable l hfl D _ p0) (va_cwS 1 hts (pv_gS w5_56 w5_57 w1_1 w5_58) rfl rfl rfl (by decide +kernel) ⟨Nat.le_of_ble_eq_true rfl, Nat.le_of_ble_eq_true rfl⟩) (pv_ps hE hS hF (hP.sub [] rfl) (hK.sub [] rfl) (hD.sub [] (by decide) rfl)) rfl rfl hl.1 rfl (lv_room (Nat.le_of_ble_eq_true rfl)) dX11_sign_1 ⟨Nat.le_of_ble_eq_true rfl, Nat.le_of_ble_eq_true rfl⟩) hS (fun q _ h => hF q h) hF (fun q _ h => hF q h) (fun E ce q9 u t H1 locs1 ht hvm hpx hbx hz1 hk1 hS hce hcv hcl => ?_) (fun u t H1 locs1 ht hvm hw hB hz1 hk1 hS => ?_)
  · exact vx_out (fun x h9 => absurd (hnt x h9) id) hlocks hce hcv hcl (fun t ht hvm => ⟨(), trivial, hbx, hS.F ht⟩) hS.2.2 (Nat.le_of_ble_eq_true rfl) (Nat.le_of_ble_eq_true rfl)
  · refine W.widen (k := 1) (n := 6) (Nat.le_of_ble_eq_true rfl) (Nat.le_of_ble_eq_true rfl) ?_
    have hP := pv_keep hP rfl hk1
    have a_2 := hw
    refine lv_aload_n hx hb dX11_sign_4 rfl (lv_at hl 0 rfl) ?_
    refine lv_iload_n hx hb dX11_sign_5 rfl (lv_at hl 1 rfl) ?_
    have hF := pv_new hA hS.1
    refine va_calli (va_runV (As := [.int p0]) (rest := []) ⟨hx, hb, hml, hown, hts⟩ (c_X11_signOf l hfl D _ h0 q cC sg (pv_ch63 hsg) p0) (cwV 1 hts (pv_gV w8_97 w8_99 wp5_2 w1_1 w8_100) rfl rfl rfl (by decide +kernel) ⟨Nat.le_of_ble_eq_true rfl, Nat.le_of_ble_eq_true rfl⟩) (pv_pV hE hS hF (hP.sub [0, 1] rfl) (hK.sub [0] rfl) (hD.sub [0, 1] (by decide) rfl) (va_recv (ci := 0) (q0 := 0) hK hP rfl rfl)) rfl rfl hl.1 rfl (lv_room (Nat.le_of_ble_eq_true rfl)) dX11_sign_6 ⟨Nat.le_of_ble_eq_true rfl, Nat.le_of_ble_eq_true rfl⟩) hS (fun q _ h => hF q h) hF (fun r_2 u t H1 locs1 ht hvm hw hB hz1 hk1 hS => ?_)
    refine W.widen (k := 1) (n := 6) (Nat.le_of_ble_eq_true rfl) (Nat.le_of_ble_eq_true rfl) ?_
    have hP := pv_keep hP rfl hk1
    have hw : r_2 = 63 := hw.elim (fun h => h.2.trans (hsg _ (pv_vcl h.1))) (fun h => h.2)
    obtain rfl := hw
    refine vx_ret ?_
    refine W.widen (k := 1) (n := 6) (Nat.le_of_ble_eq_true rfl) (Nat.le_of_ble_eq_true rfl) ?_
    exact W.zret (v := 63) (ty := .char) hx hb hr rfl (fun t ht hW => ⟨⟨63, (), rfl, ⟨rfl, a_2⟩, trivial⟩, hS.F ht⟩) hS.2.2 dX11_sign_9

theorem dX11_assume_0 : decode cX11_assume 0 = .ok (.iload_n 1, 1) := by decide +kernel
theorem dX11_assume_1 : decode cX11_assume 1 = .ok (.invokestatic 96, 3) := by decide +kernel
theorem dX11_assume_4 : decode cX11_assume 4 = .ok (.iload_n 2, 1) := by decide +kernel
theorem dX11_assume_5 : decode cX11_assume 5 = .ok (.invokestatic 391, 3) := by decide +kernel
theorem w8_61 : (Jvm.Cond.methodLink "Polyforge" (391 : Nat) ({ cls := "Polyforge", name := "requireSign", desc := "(C)V" } : Jvm.MethodName)) ∈ lw_tbl := pv_t8 (pv_mg 61 rfl)
theorem w8_63 : (Jvm.Cond.code ({ cls := "Polyforge", name := "requireSign", desc := "(C)V" } : Jvm.MethodName) prog_1_method_60_code (1 : Nat) (Option.none : Option Jvm.ClassFile.FieldType)) ∈ lw_tbl := pv_t8 (pv_mg 63 rfl)
theorem w8_62 : (Jvm.Cond.static ({ cls := "Polyforge", name := "requireSign", desc := "(C)V" } : Jvm.MethodName)) ∈ lw_tbl := pv_t8 (pv_mg 62 rfl)
theorem dX11_assume_8 : decode cX11_assume 8 = .ok (.aload_n 0, 1) := by decide +kernel
theorem dX11_assume_9 : decode cX11_assume 9 = .ok (.iload_n 1, 1) := by decide +kernel
theorem dX11_assume_10 : decode cX11_assume 10 = .ok (.invokevirtual 403, 3) := by decide +kernel
theorem dX11_assume_13 : decode cX11_assume 13 = .ok (.bipush 63, 2) := by decide +kernel
theorem dX11_assume_15 : decode cX11_assume 15 = .ok (.if_icmp .eq 14, 3) := by decide +kernel
theorem dX11_assume_29 : decode cX11_assume 29 = .ok (.iconst 0, 1) := by decide +kernel
theorem dX11_assume_30 : decode cX11_assume 30 = .ok (.istore_n 3, 1) := by decide +kernel
theorem dX11_assume_31 : decode cX11_assume 31 = .ok (.iconst 0, 1) := by decide +kernel
theorem dX11_assume_32 : decode cX11_assume 32 = .ok (.istore 4, 2) := by decide +kernel
theorem dX11_assume_34 : decode cX11_assume 34 = .ok (.iload 4, 2) := by decide +kernel
theorem dX11_assume_36 : decode cX11_assume 36 = .ok (.iconst 3, 1) := by decide +kernel
theorem dX11_assume_37 : decode cX11_assume 37 = .ok (.if_icmp .ge 53, 3) := by decide +kernel
theorem dX11_assume_40 : decode cX11_assume 40 = .ok (.iload 4, 2) := by decide +kernel
theorem dX11_assume_42 : decode cX11_assume 42 = .ok (.iload_n 1, 1) := by decide +kernel
theorem dX11_assume_43 : decode cX11_assume 43 = .ok (.if_icmp .ne 22, 3) := by decide +kernel
theorem dX11_assume_46 : decode cX11_assume 46 = .ok (.aload_n 0, 1) := by decide +kernel
theorem dX11_assume_47 : decode cX11_assume 47 = .ok (.getfield 41, 3) := by decide +kernel
theorem dX11_assume_50 : decode cX11_assume 50 = .ok (.iload 4, 2) := by decide +kernel
theorem dX11_assume_52 : decode cX11_assume 52 = .ok (.iload_n 2, 1) := by decide +kernel
theorem dX11_assume_53 : decode cX11_assume 53 = .ok (.castore, 1) := by decide +kernel
theorem dX11_assume_54 : decode cX11_assume 54 = .ok (.aload_n 0, 1) := by decide +kernel
theorem dX11_assume_55 : decode cX11_assume 55 = .ok (.getfield 45, 3) := by decide +kernel
theorem w2_45 : (Jvm.Cond.fieldLink "Polyforge" (45 : Nat) "Polyforge" "signFrames" "[I") ∈ lw_tbl := pv_t2 (pv_mg 45 rfl)
theorem dX11_assume_58 : decode cX11_assume 58 = .ok (.iload 4, 2) := by decide +kernel
theorem dX11_assume_60 : decode cX11_assume 60 = .ok (.aload_n 0, 1) := by decide +kernel
theorem dX11_assume_61 : decode cX11_assume 61 = .ok (.getfield 49, 3) := by decide +kernel
theorem dX11_assume_64 : decode cX11_assume 64 = .ok (.iastore, 1) := by decide +kernel
theorem dX11_assume_65 : decode cX11_assume 65 = .ok (.iload_n 3, 1) := by decide +kernel
theorem dX11_assume_66 : decode cX11_assume 66 = .ok (.aload_n 0, 1) := by decide +kernel
theorem dX11_assume_67 : decode cX11_assume 67 = .ok (.iload 4, 2) := by decide +kernel
theorem dX11_assume_69 : decode cX11_assume 69 = .ok (.invokevirtual 403, 3) := by decide +kernel
theorem dX11_assume_72 : decode cX11_assume 72 = .ok (.bipush 63, 2) := by decide +kernel
theorem dX11_assume_74 : decode cX11_assume 74 = .ok (.if_icmp .eq 7, 3) := by decide +kernel
theorem dX11_assume_77 : decode cX11_assume 77 = .ok (.iconst 1, 1) := by decide +kernel
theorem dX11_assume_78 : decode cX11_assume 78 = .ok (.goto 4, 3) := by decide +kernel
theorem dX11_assume_82 : decode cX11_assume 82 = .ok (.iadd, 1) := by decide +kernel
theorem dX11_assume_83 : decode cX11_assume 83 = .ok (.istore_n 3, 1) := by decide +kernel
theorem dX11_assume_84 : decode cX11_assume 84 = .ok (.iinc 4 1, 3) := by decide +kernel
theorem dX11_assume_87 : decode cX11_assume 87 = .ok (.goto (-53), 3) := by decide +kernel
theorem dX11_assume_81 : decode cX11_assume 81 = .ok (.iconst 0, 1) := by decide +kernel
theorem dX11_assume_90 : decode cX11_assume 90 = .ok (.iload_n 3, 1) := by decide +kernel
theorem dX11_assume_91 : decode cX11_assume 91 = .ok (.ireturn, 1) := by decide +kernel
set_option maxHeartbeats 4000000 in
set_option maxRecDepth 100000 in
/-- assume on a fresh object -/
theorem c_X11_assume (l : Launch) (hfl : l.stackTraces = false) (D : va_G) (sz : Nat) (h0 : Nat) (q : Nat → Nat) (cC cI : ClassId) (sg sf : Nat → Int32) (hsg : ∀ j, j < 3 → sg j = 63) (p0 p1 : Int32) : vx_Met l yX11_assume (Cond.code yX11_assume cX11_assume 5 (some .int) :: pv_W) ({ frames := 8, cells := 2, slots := 12, locals := 120 } : Room) (va_Pc [.ref h0, .int p0, .int p1] (pv_P D [(cC, .char), (cI, .int)] [(h0, .inr (0, [.ref (q 0), .int 0, .int 108, .ref (q 1), .int 0, .ref (q 2), .int 0, .ref (q 3), .ref (q 4), .int 1, .ref (q 5), .ref (q 6), .ref (q 7), .ref (q 8), .ref (q 9)])), ((q 3), .inl (cC, 3, .inl sg)), ((q 4), .inl (cI, 3, .inl sf))] (va_A [(h0, .inr (0, [.ref (q 0), .int 0, .int 108, .ref (q 1), .int 0, .ref (q 2), .int 0, .ref (q 3), .ref (q 4), .int 1, .ref (q 5), .ref (q 6), .ref (q 7), .ref (q 8), .ref (q 9)])), ((q 3), .inl (cC, 3, .inl sg)), ((q 4), .inl (cI, 3, .inl sf))] sz) sz)) (va_Qi (fun r (_ : Unit) => r = 1 ∧ pv_vr p0 ∧ pv_sn p1) (fun _ _ => True) (va_A [(h0, .inr (0, [.ref (q 0), .int 0, .int 108, .ref (q 1), .int 0, .ref (q 2), .int 0, .ref (q 3), .ref (q 4), .int 1, .ref (q 5), .ref (q 6), .ref (q 7), .ref (q 8), .ref (q 9)])), ((q 3), .inl (cC, 3, .inl sg)), ((q 4), .inl (cI, 3, .inl sf))] sz)) (vx_X (fun _ : Unit => True) (fun E _ _ => E = "java/lang/IllegalArgumentException" ∧ ¬ (pv_vr p0 ∧ pv_sn p1)) (va_A [(h0, .inr (0, [.ref (q 0), .int 0, .int 108, .ref (q 1), .int 0, .ref (q 2), .int 0, .ref (q 3), .ref (q 4), .int 1, .ref (q 5), .ref (q 6), .ref (q 7), .ref (q 8), .ref (q 9)])), ((q 3), .inl (cC, 3, .inl sg)), ((q 4), .inl (cI, 3, .inl sf))] sz)) 2 12 (va_A [(h0, .inr (0, [.ref (q 0), .int 0, .int 108, .ref (q 1), .int 0, .ref (q 2), .int 0, .ref (q 3), .ref (q 4), .int 1, .ref (q 5), .ref (q 6), .ref (q 7), .ref (q 8), .ref (q 9)])), ((q 3), .inl (cC, 3, .inl sg)), ((q 4), .inl (cI, 3, .inl sf))] sz) := by
  refine vx_ofW (cc := cX11_assume) (maxL := 5) (ret := (some .int)) (by decide) rfl ?_
  intro p e s m args below meth c s₁ B hml hnt hv
  obtain ⟨rfl, hsz, hE, hP, hK, hD0⟩ := hv
  have hx := B.exec
  have hb := B.bytes
  have hr := B.returns
  have hts := fun (w : Cond) (h : w ∈ pv_W) => atoms_spec (ws := Cond.code yX11_assume cX11_assume 5 (some .int) :: pv_W) B.pre w (List.mem_cons_of_mem _ h)
  have hg := fun {w : Cond} (h : w ∈ lw_tbl) (g : goodWord w = true) => hts w (pv_in h g)
  have hown : s.vm.findClass RX11 = some m.cls := findClass_of_methodNamed B.named
  have hlocks := B.notSynchronized
  subst hsz
  have hD := hD0.self (sz := s.heap.size)
  generalize hAe : va_A [(h0, .inr (0, [.ref (q 0), .int 0, .int 108, .ref (q 1), .int 0, .ref (q 2), .int 0, .ref (q 3), .ref (q 4), .int 1, .ref (q 5), .ref (q 6), .ref (q 7), .ref (q 8), .ref (q 9)])), ((q 3), .inl (cC, 3, .inl sg)), ((q 4), .inl (cI, 3, .inl sf))] s.heap.size = A at hD hE ⊢
  have hA : ∀ q : Nat, s.heap.size ≤ q → A q := fun q h => by rw [← hAe]; exact Or.inr h
  have hS : va_S A s.heap s.heap [] := va_S.rf
  have hP : va_P D pv_cl [(h0, .inr (0, [.ref (q 0), .int 0, .int 108, .ref (q 1), .int 0, .ref (q 2), .int 0, .ref (q 3), .ref (q 4), .int 1, .ref (q 5), .ref (q 6), .ref (q 7), .ref (q 8), .ref (q 9)])), ((q 3), .inl (cC, 3, .inl sg)), ((q 4), .inl (cI, 3, .inl sf))] s.heap := hP
  have hl := lv_entry ([.ref h0, .int p0, .int p1]) (n := 5) (Nat.le_of_ble_eq_true rfl)
  rw [lg_entry_eq]
  generalize (lg_sl ([.ref h0, .int p0, .int p1]) ++ List.replicate (5 - (lg_sl ([.ref h0, .int p0, .int p1])).length) Slot.unset).toArray = ls at hl ⊢
  have hl : lv_has ls 5 [(0, .ref h0), (1, .int p0), (2, .int p1)] := hl
  refine lv_iload_n hx hb dX11_assume_0 rfl (lv_at hl 1 rfl) ?_
  have hF := pv_new hA hS.1
  refine vx_callv (vx_runS (As := [.int p0]) (rest := []) ⟨hx, hb, hml, hown, hts⟩ (c_X11_requireVariable l hfl D _ p0) (va_cwS 1 hts (pv_gS w5_56 w5_57 w1_1 w5_58) rfl rfl rfl (by decide +kernel) ⟨Nat.le_of_ble_eq_true rfl, Nat.le_of_ble_eq_true rfl⟩) (pv_ps hE hS hF (hP.sub [] rfl) (hK.sub [] rfl) (hD.sub [] (by decide) rfl)) rfl rfl hl.1 rfl (lv_room (Nat.le_of_ble_eq_true rfl)) dX11_assume_1 ⟨Nat.le_of_ble_eq_true rfl, Nat.le_of_ble_eq_true rfl⟩) hS (fun q _ h => hF q h) hF (fun q _ h => hF q h) (fun E ce q9 u t H1 locs1 ht hvm hpx hbx hz1 hk1 hS hce hcv hcl => ?_) (fun u t H1 locs1 ht hvm hw hB hz1 hk1 hS => ?_)
  · exact vx_out (fun x h9 => absurd (hnt x h9) id) hlocks hce hcv hcl (fun t ht hvm => ⟨(), trivial, ⟨hbx.1, fun h => hbx.2 h.1⟩, hS.F ht⟩) hS.2.2 (Nat.le_of_ble_eq_true rfl) (Nat.le_of_ble_eq_true rfl)
  · refine W.widen (k := 1) (n := 6) (Nat.le_of_ble_eq_true rfl) (Nat.le_of_ble_eq_true rfl) ?_
    have hP := pv_keep hP rfl hk1
    have a_2 := hw
    refine lv_iload_n hx hb dX11_assume_4 rfl (lv_at hl 2 rfl) ?_
    have hF := pv_new hA hS.1
    refine vx_callv (vx_runS (As := [.int p1]) (rest := []) ⟨hx, hb, hml, hown, hts⟩ (c_X11_requireSign l hfl D _ p1) (va_cwS 1 hts (pv_gS w8_61 w8_62 w1_1 w8_63) rfl rfl rfl (by decide +kernel) ⟨Nat.le_of_ble_eq_true rfl, Nat.le_of_ble_eq_true rfl⟩) (pv_ps hE hS hF (hP.sub [] rfl) (hK.sub [] rfl) (hD.sub [] (by decide) rfl)) rfl rfl hl.1 rfl (lv_room (Nat.le_of_ble_eq_true rfl)) dX11_assume_5 ⟨Nat.le_of_ble_eq_true rfl, Nat.le_of_ble_eq_true rfl⟩) hS (fun q _ h => hF q h) hF (fun q _ h => hF q h) (fun E ce q9 u t H1 locs1 ht hvm hpx hbx hz1 hk1 hS hce hcv hcl => ?_) (fun u t H1 locs1 ht hvm hw hB hz1 hk1 hS => ?_)
    · exact vx_out (fun x h9 => absurd (hnt x h9) id) hlocks hce hcv hcl (fun t ht hvm => ⟨(), trivial, ⟨hbx.1, fun h => hbx.2 h.2⟩, hS.F ht⟩) hS.2.2 (Nat.le_of_ble_eq_true rfl) (Nat.le_of_ble_eq_true rfl)
    · refine W.widen (k := 2) (n := 12) (Nat.le_of_ble_eq_true rfl) (Nat.le_of_ble_eq_true rfl) ?_
      have hP := pv_keep hP rfl hk1
      have a_4 := hw
      refine lv_aload_n hx hb dX11_assume_8 rfl (lv_at hl 0 rfl) ?_
      refine lv_iload_n hx hb dX11_assume_9 rfl (lv_at hl 1 rfl) ?_
      have hF := pv_new hA hS.1
      refine va_calli (va_runV (As := [.int p0]) (rest := []) ⟨hx, hb, hml, hown, hts⟩ (c_X11_signOf l hfl D _ h0 q cC sg (pv_ch63 hsg) p0) (cwV 1 hts (pv_gV w8_97 w8_99 wp5_2 w1_1 w8_100) rfl rfl rfl (by decide +kernel) ⟨Nat.le_of_ble_eq_true rfl, Nat.le_of_ble_eq_true rfl⟩) (pv_pV hE hS hF (hP.sub [0, 1] rfl) (hK.sub [0] rfl) (hD.sub [0, 1] (by decide) rfl) (va_recv (ci := 0) (q0 := 0) hK hP rfl rfl)) rfl rfl hl.1 rfl (lv_room (Nat.le_of_ble_eq_true rfl)) dX11_assume_10 ⟨Nat.le_of_ble_eq_true rfl, Nat.le_of_ble_eq_true rfl⟩) hS (fun q _ h => hF q h) hF (fun r_4 u t H1 locs1 ht hvm hw hB hz1 hk1 hS => ?_)
      refine W.widen (k := 2) (n := 12) (Nat.le_of_ble_eq_true rfl) (Nat.le_of_ble_eq_true rfl) ?_
      have hP := pv_keep hP rfl hk1
      have hw : r_4 = 63 := hw.elim (fun h => h.2.trans (hsg _ (pv_vcl h.1))) (fun h => h.2)
      obtain rfl := hw
      have hsn : ¬ vp_nar .char p1 = 63 := by rcases a_4 with rfl | rfl | rfl <;> decide
      have hchp : narrow .char (.int (vp_nar .char p1)) = .int (vp_nar .char p1) := by rcases a_4 with rfl | rfl | rfl <;> rfl
      have hok : pv_vr p0 ∧ pv_sn p1 := ⟨a_2, a_4⟩
      rcases pv_v3 a_2 with rfl | rfl | rfl
      · refine lv_bipush (v := 63) hx hb dX11_assume_13 (by decide) ?_
        refine lv_icmp_eq (tgt := 29) hx hb dX11_assume_15 (by decide) (fun _ => ?_) (fun c_6 => absurd (by decide) c_6)
        refine lv_iconst (v := 0) hx hb dX11_assume_29 (by decide) ?_
        refine lv_istore_n (lv' := [(3, .int 0), (0, .ref h0), (1, .int 0), (2, .int p1)]) hx hb dX11_assume_30 rfl hl (by decide) rfl (fun ls hl => ?_)
        refine lv_iconst (v := 0) hx hb dX11_assume_31 (by decide) ?_
        refine lv_istore (lv' := [(4, .int 0), (3, .int 0), (0, .ref h0), (1, .int 0), (2, .int p1)]) hx hb dX11_assume_32 hl (by decide) rfl (fun ls hl => ?_)
        refine lv_iload hx hb dX11_assume_34 (lv_at hl 0 rfl) ?_
        refine lv_iconst (v := 3) hx hb dX11_assume_36 (by decide) ?_
        refine lv_icmp_ge (tgt := 90) hx hb dX11_assume_37 (by decide) (fun c_7 => absurd c_7 (by decide)) (fun _ => ?_)
        refine lv_iload hx hb dX11_assume_40 (lv_at hl 0 rfl) ?_
        refine lv_iload_n hx hb dX11_assume_42 rfl (lv_at hl 3 rfl) ?_
        refine lv_icmp_ne (tgt := 65) hx hb dX11_assume_43 (by decide) (fun c_8 => absurd (by decide) c_8) (fun _ => ?_)
        refine lv_aload_n hx hb dX11_assume_46 rfl (lv_at hl 2 rfl) ?_
        refine va_get (own := RX11) (D := D) (ci := 0) (v := .ref (q 3)) (C := RX11) (T := TX11) (N := 15) hx hb hts inF11 hown hK hP 0 rfl rfl 7 (by decide) (hg w2_44 rfl) (fun _ h9 => h9) rfl dX11_assume_47 ?_
        refine lv_iload hx hb dX11_assume_50 (lv_at hl 0 rfl) ?_
        refine lv_iload_n hx hb dX11_assume_52 rfl (lv_at hl 4 rfl) ?_
        refine va_cast hx hb hK hP hD hS 1 0 rfl rfl (by unfold vp_in; decide) dX11_assume_53 (fun H locs hP hD hS => ?_)
        have hP : va_P D pv_cl [(h0, .inr (0, [.ref (q 0), .int 0, .int 108, .ref (q 1), .int 0, .ref (q 2), .int 0, .ref (q 3), .ref (q 4), .int 1, .ref (q 5), .ref (q 6), .ref (q 7), .ref (q 8), .ref (q 9)])), ((q 3), .inl (cC, 3, .inl (upd (sg) (0 : Int32).toNatClampNeg (vp_nar .char p1)))), ((q 4), .inl (cI, 3, .inl sf))] _ := hP
        have hD : va_D A [(h0, .inr (0, [.ref (q 0), .int 0, .int 108, .ref (q 1), .int 0, .ref (q 2), .int 0, .ref (q 3), .ref (q 4), .int 1, .ref (q 5), .ref (q 6), .ref (q 7), .ref (q 8), .ref (q 9)])), ((q 3), .inl (cC, 3, .inl (upd (sg) (0 : Int32).toNatClampNeg (vp_nar .char p1)))), ((q 4), .inl (cI, 3, .inl sf))] := hD
        refine lv_aload_n hx hb dX11_assume_54 rfl (lv_at hl 2 rfl) ?_
        refine va_get (own := RX11) (D := D) (ci := 0) (v := .ref (q 4)) (C := RX11) (T := TX11) (N := 15) hx hb hts inF11 hown hK hP 0 rfl rfl 8 (by decide) (hg w2_45 rfl) (fun _ h9 => h9) rfl dX11_assume_55 ?_
        refine lv_iload hx hb dX11_assume_58 (lv_at hl 0 rfl) ?_
        refine lv_aload_n hx hb dX11_assume_60 rfl (lv_at hl 2 rfl) ?_
        refine va_get (own := RX11) (D := D) (ci := 0) (v := .int 1) (C := RX11) (T := TX11) (N := 15) hx hb hts inF11 hown hK hP 0 rfl rfl 9 (by decide) (hg w2_46 rfl) (fun _ h9 => h9) rfl dX11_assume_61 ?_
        refine va_iast hx hb hK hP hD hS 2 1 rfl rfl (by unfold vp_in; decide) dX11_assume_64 (fun H locs hP hD hS => ?_)
        have hP : va_P D pv_cl [(h0, .inr (0, [.ref (q 0), .int 0, .int 108, .ref (q 1), .int 0, .ref (q 2), .int 0, .ref (q 3), .ref (q 4), .int 1, .ref (q 5), .ref (q 6), .ref (q 7), .ref (q 8), .ref (q 9)])), ((q 3), .inl (cC, 3, .inl (upd (sg) (0 : Int32).toNatClampNeg (vp_nar .char p1)))), ((q 4), .inl (cI, 3, .inl (upd (sf) (0 : Int32).toNatClampNeg 1)))] _ := hP
        have hD : va_D A [(h0, .inr (0, [.ref (q 0), .int 0, .int 108, .ref (q 1), .int 0, .ref (q 2), .int 0, .ref (q 3), .ref (q 4), .int 1, .ref (q 5), .ref (q 6), .ref (q 7), .ref (q 8), .ref (q 9)])), ((q 3), .inl (cC, 3, .inl (upd (sg) (0 : Int32).toNatClampNeg (vp_nar .char p1)))), ((q 4), .inl (cI, 3, .inl (upd (sf) (0 : Int32).toNatClampNeg 1)))] := hD
        refine lv_iload_n hx hb dX11_assume_65 rfl (lv_at hl 1 rfl) ?_
        refine lv_aload_n hx hb dX11_assume_66 rfl (lv_at hl 2 rfl) ?_
        refine lv_iload hx hb dX11_assume_67 (lv_at hl 0 rfl) ?_
        have hF := pv_new hA hS.1
        refine va_calli (va_runV (As := [.int 0]) (rest := [.int 0]) ⟨hx, hb, hml, hown, hts⟩ (c_X11_signOf l hfl D _ h0 q cC (upd (sg) (0 : Int32).toNatClampNeg (vp_nar .char p1)) (pv_ch_upd (pv_ch63 hsg) _ hchp) 0) (cwV 1 hts (pv_gV w8_97 w8_99 wp5_2 w1_1 w8_100) rfl rfl rfl (by decide +kernel) ⟨Nat.le_of_ble_eq_true rfl, Nat.le_of_ble_eq_true rfl⟩) (pv_pV hE hS hF (hP.sub [0, 1] rfl) (hK.sub [0] rfl) (hD.sub [0, 1] (by decide) rfl) (va_recv (ci := 0) (q0 := 0) hK hP rfl rfl)) rfl rfl hl.1 rfl (lv_room (Nat.le_of_ble_eq_true rfl)) dX11_assume_69 ⟨Nat.le_of_ble_eq_true rfl, Nat.le_of_ble_eq_true rfl⟩) hS (fun q _ h => hF q h) hF (fun r_8 u t H1 locs1 ht hvm hw hB hz1 hk1 hS => ?_)
        refine W.widen (k := 2) (n := 12) (Nat.le_of_ble_eq_true rfl) (Nat.le_of_ble_eq_true rfl) ?_
        have hP := pv_keep hP rfl hk1
        have hw : r_8 = vp_nar .char p1 := hw.elim (fun h => h.2.trans pk_us) (fun h => absurd ⟨by decide, by decide⟩ h.1)
        subst hw
        refine lv_bipush (v := 63) hx hb dX11_assume_72 (by decide) ?_
        refine lv_icmp_eq (tgt := 81) hx hb dX11_assume_74 (by decide) (fun c_10 => absurd c_10 hsn) (fun c_10 => ?_)
        refine lv_iconst (v := 1) hx hb dX11_assume_77 (by decide) ?_
        refine lv_goto (tgt := 82) hx hb dX11_assume_78 (by decide) ?_
        refine lv_iadd hx hb dX11_assume_82 ?_
        refine pv_setI 1 (by decide) ?_
        refine lv_istore_n (lv' := [(3, .int 1), (4, .int 0), (0, .ref h0), (1, .int 0), (2, .int p1)]) hx hb dX11_assume_83 rfl hl (by decide) rfl (fun ls hl => ?_)
        refine lv_iinc (v := 1) (lv' := [(4, .int 1), (3, .int 1), (0, .ref h0), (1, .int 0), (2, .int p1)]) hx hb dX11_assume_84 hl (k := 1) rfl (by decide) (by decide) rfl (fun ls hl => ?_)
        refine lv_goto (tgt := 34) hx hb dX11_assume_87 (by decide) ?_
        refine lv_iload hx hb dX11_assume_34 (lv_at hl 0 rfl) ?_
        refine lv_iconst (v := 3) hx hb dX11_assume_36 (by decide) ?_
        refine lv_icmp_ge (tgt := 90) hx hb dX11_assume_37 (by decide) (fun c_11 => absurd c_11 (by decide)) (fun _ => ?_)
        refine lv_iload hx hb dX11_assume_40 (lv_at hl 0 rfl) ?_
        refine lv_iload_n hx hb dX11_assume_42 rfl (lv_at hl 3 rfl) ?_
        refine lv_icmp_ne (tgt := 65) hx hb dX11_assume_43 (by decide) (fun _ => ?_) (fun c_12 => absurd c_12 (by decide))
        refine lv_iload_n hx hb dX11_assume_65 rfl (lv_at hl 1 rfl) ?_
        refine lv_aload_n hx hb dX11_assume_66 rfl (lv_at hl 2 rfl) ?_
        refine lv_iload hx hb dX11_assume_67 (lv_at hl 0 rfl) ?_
        have hF := pv_new hA hS.1
        refine va_calli (va_runV (As := [.int 1]) (rest := [.int 1]) ⟨hx, hb, hml, hown, hts⟩ (c_X11_signOf l hfl D _ h0 q cC (upd (sg) (0 : Int32).toNatClampNeg (vp_nar .char p1)) (pv_ch_upd (pv_ch63 hsg) _ hchp) 1) (cwV 1 hts (pv_gV w8_97 w8_99 wp5_2 w1_1 w8_100) rfl rfl rfl (by decide +kernel) ⟨Nat.le_of_ble_eq_true rfl, Nat.le_of_ble_eq_true rfl⟩) (pv_pV hE hS hF (hP.sub [0, 1] rfl) (hK.sub [0] rfl) (hD.sub [0, 1] (by decide) rfl) (va_recv (ci := 0) (q0 := 0) hK hP rfl rfl)) rfl rfl hl.1 rfl (lv_room (Nat.le_of_ble_eq_true rfl)) dX11_assume_69 ⟨Nat.le_of_ble_eq_true rfl, Nat.le_of_ble_eq_true rfl⟩) hS (fun q _ h => hF q h) hF (fun r_12 u t H1 locs1 ht hvm hw hB hz1 hk1 hS => ?_)
        refine W.widen (k := 2) (n := 12) (Nat.le_of_ble_eq_true rfl) (Nat.le_of_ble_eq_true rfl) ?_
        have hP := pv_keep hP rfl hk1
        have hw : r_12 = 63 := hw.elim (fun h => h.2.trans ((pk_un (by decide)).trans (hsg 1 (by decide)))) (fun h => h.2)
        subst hw
        refine lv_bipush (v := 63) hx hb dX11_assume_72 (by decide) ?_
        refine lv_icmp_eq (tgt := 81) hx hb dX11_assume_74 (by decide) (fun _ => ?_) (fun c_14 => absurd (by decide) c_14)
        refine lv_iconst (v := 0) hx hb dX11_assume_81 (by decide) ?_
        refine lv_iadd hx hb dX11_assume_82 ?_
        refine pv_setI 1 (by decide) ?_
        refine lv_istore_n (lv' := [(3, .int 1), (4, .int 1), (0, .ref h0), (1, .int 0), (2, .int p1)]) hx hb dX11_assume_83 rfl hl (by decide) rfl (fun ls hl => ?_)
        refine lv_iinc (v := 2) (lv' := [(4, .int 2), (3, .int 1), (0, .ref h0), (1, .int 0), (2, .int p1)]) hx hb dX11_assume_84 hl (k := 1) rfl (by decide) (by decide) rfl (fun ls hl => ?_)
        refine lv_goto (tgt := 34) hx hb dX11_assume_87 (by decide) ?_
        refine lv_iload hx hb dX11_assume_34 (lv_at hl 0 rfl) ?_
        refine lv_iconst (v := 3) hx hb dX11_assume_36 (by decide) ?_
        refine lv_icmp_ge (tgt := 90) hx hb dX11_assume_37 (by decide) (fun c_15 => absurd c_15 (by decide)) (fun _ => ?_)
        refine lv_iload hx hb dX11_assume_40 (lv_at hl 0 rfl) ?_
        refine lv_iload_n hx hb dX11_assume_42 rfl (lv_at hl 3 rfl) ?_
        refine lv_icmp_ne (tgt := 65) hx hb dX11_assume_43 (by decide) (fun _ => ?_) (fun c_16 => absurd c_16 (by decide))
        refine lv_iload_n hx hb dX11_assume_65 rfl (lv_at hl 1 rfl) ?_
        refine lv_aload_n hx hb dX11_assume_66 rfl (lv_at hl 2 rfl) ?_
        refine lv_iload hx hb dX11_assume_67 (lv_at hl 0 rfl) ?_
        have hF := pv_new hA hS.1
        refine va_calli (va_runV (As := [.int 2]) (rest := [.int 1]) ⟨hx, hb, hml, hown, hts⟩ (c_X11_signOf l hfl D _ h0 q cC (upd (sg) (0 : Int32).toNatClampNeg (vp_nar .char p1)) (pv_ch_upd (pv_ch63 hsg) _ hchp) 2) (cwV 1 hts (pv_gV w8_97 w8_99 wp5_2 w1_1 w8_100) rfl rfl rfl (by decide +kernel) ⟨Nat.le_of_ble_eq_true rfl, Nat.le_of_ble_eq_true rfl⟩) (pv_pV hE hS hF (hP.sub [0, 1] rfl) (hK.sub [0] rfl) (hD.sub [0, 1] (by decide) rfl) (va_recv (ci := 0) (q0 := 0) hK hP rfl rfl)) rfl rfl hl.1 rfl (lv_room (Nat.le_of_ble_eq_true rfl)) dX11_assume_69 ⟨Nat.le_of_ble_eq_true rfl, Nat.le_of_ble_eq_true rfl⟩) hS (fun q _ h => hF q h) hF (fun r_16 u t H1 locs1 ht hvm hw hB hz1 hk1 hS => ?_)
        refine W.widen (k := 2) (n := 12) (Nat.le_of_ble_eq_true rfl) (Nat.le_of_ble_eq_true rfl) ?_
        have hP := pv_keep hP rfl hk1
        have hw : r_16 = 63 := hw.elim (fun h => h.2.trans ((pk_un (by decide)).trans (hsg 2 (by decide)))) (fun h => h.2)
        subst hw
        refine lv_bipush (v := 63) hx hb dX11_assume_72 (by decide) ?_
        refine lv_icmp_eq (tgt := 81) hx hb dX11_assume_74 (by decide) (fun _ => ?_) (fun c_18 => absurd (by decide) c_18)
        refine lv_iconst (v := 0) hx hb dX11_assume_81 (by decide) ?_
        refine lv_iadd hx hb dX11_assume_82 ?_
        refine pv_setI 1 (by decide) ?_
        refine lv_istore_n (lv' := [(3, .int 1), (4, .int 2), (0, .ref h0), (1, .int 0), (2, .int p1)]) hx hb dX11_assume_83 rfl hl (by decide) rfl (fun ls hl => ?_)
        refine lv_iinc (v := 3) (lv' := [(4, .int 3), (3, .int 1), (0, .ref h0), (1, .int 0), (2, .int p1)]) hx hb dX11_assume_84 hl (k := 1) rfl (by decide) (by decide) rfl (fun ls hl => ?_)
        refine lv_goto (tgt := 34) hx hb dX11_assume_87 (by decide) ?_
        refine lv_iload hx hb dX11_assume_34 (lv_at hl 0 rfl) ?_
        refine lv_iconst (v := 3) hx hb dX11_assume_36 (by decide) ?_
        refine lv_icmp_ge (tgt := 90) hx hb dX11_assume_37 (by decide) (fun _ => ?_) (fun c_19 => absurd (by decide) c_19)
        refine lv_iload_n hx hb dX11_assume_90 rfl (lv_at hl 1 rfl) ?_
        refine vx_ret ?_
        refine W.widen (k := 2) (n := 12) (Nat.le_of_ble_eq_true rfl) (Nat.le_of_ble_eq_true rfl) ?_
        exact W.iret (v := 1) hx hb hr (fun t ht hW => ⟨⟨1, (), rfl, ⟨rfl, hok⟩, trivial⟩, hS.F ht⟩) hS.2.2 dX11_assume_91
      · refine lv_bipush (v := 63) hx hb dX11_assume_13 (by decide) ?_
        refine lv_icmp_eq (tgt := 29) hx hb dX11_assume_15 (by decide) (fun _ => ?_) (fun c_20 => absurd (by decide) c_20)
        refine lv_iconst (v := 0) hx hb dX11_assume_29 (by decide) ?_
        refine lv_istore_n (lv' := [(3, .int 0), (0, .ref h0), (1, .int 1), (2, .int p1)]) hx hb dX11_assume_30 rfl hl (by decide) rfl (fun ls hl => ?_)
        refine lv_iconst (v := 0) hx hb dX11_assume_31 (by decide) ?_
        refine lv_istore (lv' := [(4, .int 0), (3, .int 0), (0, .ref h0), (1, .int 1), (2, .int p1)]) hx hb dX11_assume_32 hl (by decide) rfl (fun ls hl => ?_)
        refine lv_iload hx hb dX11_assume_34 (lv_at hl 0 rfl) ?_
        refine lv_iconst (v := 3) hx hb dX11_assume_36 (by decide) ?_
        refine lv_icmp_ge (tgt := 90) hx hb dX11_assume_37 (by decide) (fun c_21 => absurd c_21 (by decide)) (fun _ => ?_)
        refine lv_iload hx hb dX11_assume_40 (lv_at hl 0 rfl) ?_
        refine lv_iload_n hx hb dX11_assume_42 rfl (lv_at hl 3 rfl) ?_
        refine lv_icmp_ne (tgt := 65) hx hb dX11_assume_43 (by decide) (fun _ => ?_) (fun c_22 => absurd c_22 (by decide))
        refine lv_iload_n hx hb dX11_assume_65 rfl (lv_at hl 1 rfl) ?_
        refine lv_aload_n hx hb dX11_assume_66 rfl (lv_at hl 2 rfl) ?_
        refine lv_iload hx hb dX11_assume_67 (lv_at hl 0 rfl) ?_
        have hF := pv_new hA hS.1
        refine va_calli (va_runV (As := [.int 0]) (rest := [.int 0]) ⟨hx, hb, hml, hown, hts⟩ (c_X11_signOf l hfl D _ h0 q cC sg (pv_ch63 hsg) 0) (cwV 1 hts (pv_gV w8_97 w8_99 wp5_2 w1_1 w8_100) rfl rfl rfl (by decide +kernel) ⟨Nat.le_of_ble_eq_true rfl, Nat.le_of_ble_eq_true rfl⟩) (pv_pV hE hS hF (hP.sub [0, 1] rfl) (hK.sub [0] rfl) (hD.sub [0, 1] (by decide) rfl) (va_recv (ci := 0) (q0 := 0) hK hP rfl rfl)) rfl rfl hl.1 rfl (lv_room (Nat.le_of_ble_eq_true rfl)) dX11_assume_69 ⟨Nat.le_of_ble_eq_true rfl, Nat.le_of_ble_eq_true rfl⟩) hS (fun q _ h => hF q h) hF (fun r_22 u t H1 locs1 ht hvm hw hB hz1 hk1 hS => ?_)
        refine W.widen (k := 2) (n := 12) (Nat.le_of_ble_eq_true rfl) (Nat.le_of_ble_eq_true rfl) ?_
        have hP := pv_keep hP rfl hk1
        have hw : r_22 = 63 := hw.elim (fun h => h.2.trans (hsg 0 (by decide))) (fun h => h.2)
        subst hw
        refine lv_bipush (v := 63) hx hb dX11_assume_72 (by decide) ?_
        refine lv_icmp_eq (tgt := 81) hx hb dX11_assume_74 (by decide) (fun _ => ?_) (fun c_24 => absurd (by decide) c_24)
        refine lv_iconst (v := 0) hx hb dX11_assume_81 (by decide) ?_
        refine lv_iadd hx hb dX11_assume_82 ?_
        refine pv_setI 0 (by decide) ?_
        refine lv_istore_n (lv' := [(3, .int 0), (4, .int 0), (0, .ref h0), (1, .int 1), (2, .int p1)]) hx hb dX11_assume_83 rfl hl (by decide) rfl (fun ls hl => ?_)
        refine lv_iinc (v := 1) (lv' := [(4, .int 1), (3, .int 0), (0, .ref h0), (1, .int 1), (2, .int p1)]) hx hb dX11_assume_84 hl (k := 1) rfl (by decide) (by decide) rfl (fun ls hl => ?_)
        refine lv_goto (tgt := 34) hx hb dX11_assume_87 (by decide) ?_
        refine lv_iload hx hb dX11_assume_34 (lv_at hl 0 rfl) ?_
        refine lv_iconst (v := 3) hx hb dX11_assume_36 (by decide) ?_
        refine lv_icmp_ge (tgt := 90) hx hb dX11_assume_37 (by decide) (fun c_25 => absurd c_25 (by decide)) (fun _ => ?_)
        refine lv_iload hx hb dX11_assume_40 (lv_at hl 0 rfl) ?_
        refine lv_iload_n hx hb dX11_assume_42 rfl (lv_at hl 3 rfl) ?_
        refine lv_icmp_ne (tgt := 65) hx hb dX11_assume_43 (by decide) (fun c_26 => absurd (by decide) c_26) (fun _ => ?_)
        refine lv_aload_n hx hb dX11_assume_46 rfl (lv_at hl 2 rfl) ?_
        refine va_get (own := RX11) (D := D) (ci := 0) (v := .ref (q 3)) (C := RX11) (T := TX11) (N := 15) hx hb hts inF11 hown hK hP 0 rfl rfl 7 (by decide) (hg w2_44 rfl) (fun _ h9 => h9) rfl dX11_assume_47 ?_
        refine lv_iload hx hb dX11_assume_50 (lv_at hl 0 rfl) ?_
        refine lv_iload_n hx hb dX11_assume_52 rfl (lv_at hl 4 rfl) ?_
        refine va_cast hx hb hK hP hD hS 1 0 rfl rfl (by unfold vp_in; decide) dX11_assume_53 (fun H locs hP hD hS => ?_)
        have hP : va_P D pv_cl [(h0, .inr (0, [.ref (q 0), .int 0, .int 108, .ref (q 1), .int 0, .ref (q 2), .int 0, .ref (q 3), .ref (q 4), .int 1, .ref (q 5), .ref (q 6), .ref (q 7), .ref (q 8), .ref (q 9)])), ((q 3), .inl (cC, 3, .inl (upd (sg) (1 : Int32).toNatClampNeg (vp_nar .char p1)))), ((q 4), .inl (cI, 3, .inl sf))] _ := hP
        have hD : va_D A [(h0, .inr (0, [.ref (q 0), .int 0, .int 108, .ref (q 1), .int 0, .ref (q 2), .int 0, .ref (q 3), .ref (q 4), .int 1, .ref (q 5), .ref (q 6), .ref (q 7), .ref (q 8), .ref (q 9)])), ((q 3), .inl (cC, 3, .inl (upd (sg) (1 : Int32).toNatClampNeg (vp_nar .char p1)))), ((q 4), .inl (cI, 3, .inl sf))] := hD
        refine lv_aload_n hx hb dX11_assume_54 rfl (lv_at hl 2 rfl) ?_
        refine va_get (own := RX11) (D := D) (ci := 0) (v := .ref (q 4)) (C := RX11) (T := TX11) (N := 15) hx hb hts inF11 hown hK hP 0 rfl rfl 8 (by decide) (hg w2_45 rfl) (fun _ h9 => h9) rfl dX11_assume_55 ?_
        refine lv_iload hx hb dX11_assume_58 (lv_at hl 0 rfl) ?_
        refine lv_aload_n hx hb dX11_assume_60 rfl (lv_at hl 2 rfl) ?_
        refine va_get (own := RX11) (D := D) (ci := 0) (v := .int 1) (C := RX11) (T := TX11) (N := 15) hx hb hts inF11 hown hK hP 0 rfl rfl 9 (by decide) (hg w2_46 rfl) (fun _ h9 => h9) rfl dX11_assume_61 ?_
        refine va_iast hx hb hK hP hD hS 2 1 rfl rfl (by unfold vp_in; decide) dX11_assume_64 (fun H locs hP hD hS => ?_)
        have hP : va_P D pv_cl [(h0, .inr (0, [.ref (q 0), .int 0, .int 108, .ref (q 1), .int 0, .ref (q 2), .int 0, .ref (q 3), .ref (q 4), .int 1, .ref (q 5), .ref (q 6), .ref (q 7), .ref (q 8), .ref (q 9)])), ((q 3), .inl (cC, 3, .inl (upd (sg) (1 : Int32).toNatClampNeg (vp_nar .char p1)))), ((q 4), .inl (cI, 3, .inl (upd (sf) (1 : Int32).toNatClampNeg 1)))] _ := hP
        have hD : va_D A [(h0, .inr (0, [.ref (q 0), .int 0, .int 108, .ref (q 1), .int 0, .ref (q 2), .int 0, .ref (q 3), .ref (q 4), .int 1, .ref (q 5), .ref (q 6), .ref (q 7), .ref (q 8), .ref (q 9)])), ((q 3), .inl (cC, 3, .inl (upd (sg) (1 : Int32).toNatClampNeg (vp_nar .char p1)))), ((q 4), .inl (cI, 3, .inl (upd (sf) (1 : Int32).toNatClampNeg 1)))] := hD
        refine lv_iload_n hx hb dX11_assume_65 rfl (lv_at hl 1 rfl) ?_
        refine lv_aload_n hx hb dX11_assume_66 rfl (lv_at hl 2 rfl) ?_
        refine lv_iload hx hb dX11_assume_67 (lv_at hl 0 rfl) ?_
        have hF := pv_new hA hS.1
        refine va_calli (va_runV (As := [.int 1]) (rest := [.int 0]) ⟨hx, hb, hml, hown, hts⟩ (c_X11_signOf l hfl D _ h0 q cC (upd (sg) (1 : Int32).toNatClampNeg (vp_nar .char p1)) (pv_ch_upd (pv_ch63 hsg) _ hchp) 1) (cwV 1 hts (pv_gV w8_97 w8_99 wp5_2 w1_1 w8_100) rfl rfl rfl (by decide +kernel) ⟨Nat.le_of_ble_eq_true rfl, Nat.le_of_ble_eq_true rfl⟩) (pv_pV hE hS hF (hP.sub [0, 1] rfl) (hK.sub [0] rfl) (hD.sub [0, 1] (by decide) rfl) (va_recv (ci := 0) (q0 := 0) hK hP rfl rfl)) rfl rfl hl.1 rfl (lv_room (Nat.le_of_ble_eq_true rfl)) dX11_assume_69 ⟨Nat.le_of_ble_eq_true rfl, Nat.le_of_ble_eq_true rfl⟩) hS (fun q _ h => hF q h) hF (fun r_26 u t H1 locs1 ht hvm hw hB hz1 hk1 hS => ?_)
        refine W.widen (k := 2) (n := 12) (Nat.le_of_ble_eq_true rfl) (Nat.le_of_ble_eq_true rfl) ?_
        have hP := pv_keep hP rfl hk1
        have hw : r_26 = vp_nar .char p1 := hw.elim (fun h => h.2.trans pk_us) (fun h => absurd ⟨by decide, by decide⟩ h.1)
        subst hw
        refine lv_bipush (v := 63) hx hb dX11_assume_72 (by decide) ?_
        refine lv_icmp_eq (tgt := 81) hx hb dX11_assume_74 (by decide) (fun c_28 => absurd c_28 hsn) (fun c_28 => ?_)
        refine lv_iconst (v := 1) hx hb dX11_assume_77 (by decide) ?_
        refine lv_goto (tgt := 82) hx hb dX11_assume_78 (by decide) ?_
        refine lv_iadd hx hb dX11_assume_82 ?_
        refine pv_setI 1 (by decide) ?_
        refine lv_istore_n (lv' := [(3, .int 1), (4, .int 1), (0, .ref h0), (1, .int 1), (2, .int p1)]) hx hb dX11_assume_83 rfl hl (by decide) rfl (fun ls hl => ?_)
        refine lv_iinc (v := 2) (lv' := [(4, .int 2), (3, .int 1), (0, .ref h0), (1, .int 1), (2, .int p1)]) hx hb dX11_assume_84 hl (k := 1) rfl (by decide) (by decide) rfl (fun ls hl => ?_)
        refine lv_goto (tgt := 34) hx hb dX11_assume_87 (by decide) ?_
        refine lv_iload hx hb dX11_assume_34 (lv_at hl 0 rfl) ?_
        refine lv_iconst (v := 3) hx hb dX11_assume_36 (by decide) ?_
        refine lv_icmp_ge (tgt := 90) hx hb dX11_assume_37 (by decide) (fun c_29 => absurd c_29 (by decide)) (fun _ => ?_)
        refine lv_iload hx hb dX11_assume_40 (lv_at hl 0 rfl) ?_
        refine lv_iload_n hx hb dX11_assume_42 rfl (lv_at hl 3 rfl) ?_
        refine lv_icmp_ne (tgt := 65) hx hb dX11_assume_43 (by decide) (fun _ => ?_) (fun c_30 => absurd c_30 (by decide))
        refine lv_iload_n hx hb dX11_assume_65 rfl (lv_at hl 1 rfl) ?_
        refine lv_aload_n hx hb dX11_assume_66 rfl (lv_at hl 2 rfl) ?_
        refine lv_iload hx hb dX11_assume_67 (lv_at hl 0 rfl) ?_
        have hF := pv_new hA hS.1
        refine va_calli (va_runV (As := [.int 2]) (rest := [.int 1]) ⟨hx, hb, hml, hown, hts⟩ (c_X11_signOf l hfl D _ h0 q cC (upd (sg) (1 : Int32).toNatClampNeg (vp_nar .char p1)) (pv_ch_upd (pv_ch63 hsg) _ hchp) 2) (cwV 1 hts (pv_gV w8_97 w8_99 wp5_2 w1_1 w8_100) rfl rfl rfl (by decide +kernel) ⟨Nat.le_of_ble_eq_true rfl, Nat.le_of_ble_eq_true rfl⟩) (pv_pV hE hS hF (hP.sub [0, 1] rfl) (hK.sub [0] rfl) (hD.sub [0, 1] (by decide) rfl) (va_recv (ci := 0) (q0 := 0) hK hP rfl rfl)) rfl rfl hl.1 rfl (lv_room (Nat.le_of_ble_eq_true rfl)) dX11_assume_69 ⟨Nat.le_of_ble_eq_true rfl, Nat.le_of_ble_eq_true rfl⟩) hS (fun q _ h => hF q h) hF (fun r_30 u t H1 locs1 ht hvm hw hB hz1 hk1 hS => ?_)
        refine W.widen (k := 2) (n := 12) (Nat.le_of_ble_eq_true rfl) (Nat.le_of_ble_eq_true rfl) ?_
        have hP := pv_keep hP rfl hk1
        have hw : r_30 = 63 := hw.elim (fun h => h.2.trans ((pk_un (by decide)).trans (hsg 2 (by decide)))) (fun h => h.2)
        subst hw
        refine lv_bipush (v := 63) hx hb dX11_assume_72 (by decide) ?_
        refine lv_icmp_eq (tgt := 81) hx hb dX11_assume_74 (by decide) (fun _ => ?_) (fun c_32 => absurd (by decide) c_32)
        refine lv_iconst (v := 0) hx hb dX11_assume_81 (by decide) ?_
        refine lv_iadd hx hb dX11_assume_82 ?_
        refine pv_setI 1 (by decide) ?_
        refine lv_istore_n (lv' := [(3, .int 1), (4, .int 2), (0, .ref h0), (1, .int 1), (2, .int p1)]) hx hb dX11_assume_83 rfl hl (by decide) rfl (fun ls hl => ?_)
        refine lv_iinc (v := 3) (lv' := [(4, .int 3), (3, .int 1), (0, .ref h0), (1, .int 1), (2, .int p1)]) hx hb dX11_assume_84 hl (k := 1) rfl (by decide) (by decide) rfl (fun ls hl => ?_)
        refine lv_goto (tgt := 34) hx hb dX11_assume_87 (by decide) ?_
        refine lv_iload hx hb dX11_assume_34 (lv_at hl 0 rfl) ?_
        refine lv_iconst (v := 3) hx hb dX11_assume_36 (by decide) ?_
        refine lv_icmp_ge (tgt := 90) hx hb dX11_assume_37 (by decide) (fun _ => ?_) (fun c_33 => absurd (by decide) c_33)
        refine lv_iload_n hx hb dX11_assume_90 rfl (lv_at hl 1 rfl) ?_
        refine vx_ret ?_
        refine W.widen (k := 2) (n := 12) (Nat.le_of_ble_eq_true rfl) (Nat.le_of_ble_eq_true rfl) ?_
        exact W.iret (v := 1) hx hb hr (fun t ht hW => ⟨⟨1, (), rfl, ⟨rfl, hok⟩, trivial⟩, hS.F ht⟩) hS.2.2 dX11_assume_91
      · refine lv_bipush (v := 63) hx hb dX11_assume_13 (by decide) ?_
        refine lv_icmp_eq (tgt := 29) hx hb dX11_assume_15 (by decide) (fun _ => ?_) (fun c_34 => absurd (by decide) c_34)
        refine lv_iconst (v := 0) hx hb dX11_assume_29 (by decide) ?_
        refine lv_istore_n (lv' := [(3, .int 0), (0, .ref h0), (1, .int 2), (2, .int p1)]) hx hb dX11_assume_30 rfl hl (by decide) rfl (fun ls hl => ?_)
        refine lv_iconst (v := 0) hx hb dX11_assume_31 (by decide) ?_
        refine lv_istore (lv' := [(4, .int 0), (3, .int 0), (0, .ref h0), (1, .int 2), (2, .int p1)]) hx hb dX11_assume_32 hl (by decide) rfl (fun ls hl => ?_)
        refine lv_iload hx hb dX11_assume_34 (lv_at hl 0 rfl) ?_
        refine lv_iconst (v := 3) hx hb dX11_assume_36 (by decide) ?_
        refine lv_icmp_ge (tgt := 90) hx hb dX11_assume_37 (by decide) (fun c_35 => absurd c_35 (by decide)) (fun _ => ?_)
        refine lv_iload hx hb dX11_assume_40 (lv_at hl 0 rfl) ?_
        refine lv_iload_n hx hb dX11_assume_42 rfl (lv_at hl 3 rfl) ?_
        refine lv_icmp_ne (tgt := 65) hx hb dX11_assume_43 (by decide) (fun _ => ?_) (fun c_36 => absurd c_36 (by decide))
        refine lv_iload_n hx hb dX11_assume_65 rfl (lv_at hl 1 rfl) ?_
        refine lv_aload_n hx hb dX11_assume_66 rfl (lv_at hl 2 rfl) ?_
        refine lv_iload hx hb dX11_assume_67 (lv_at hl 0 rfl) ?_
        have hF := pv_new hA hS.1
        refine va_calli (va_runV (As := [.int 0]) (rest := [.int 0]) ⟨hx, hb, hml, hown, hts⟩ (c_X11_signOf l hfl D _ h0 q cC sg (pv_ch63 hsg) 0) (cwV 1 hts (pv_gV w8_97 w8_99 wp5_2 w1_1 w8_100) rfl rfl rfl (by decide +kernel) ⟨Nat.le_of_ble_eq_true rfl, Nat.le_of_ble_eq_true rfl⟩) (pv_pV hE hS hF (hP.sub [0, 1] rfl) (hK.sub [0] rfl) (hD.sub [0, 1] (by decide) rfl) (va_recv (ci := 0) (q0 := 0) hK hP rfl rfl)) rfl rfl hl.1 rfl (lv_room (Nat.le_of_ble_eq_true rfl)) dX11_assume_69 ⟨Nat.le_of_ble_eq_true rfl, Nat.le_of_ble_eq_true rfl⟩) hS (fun q _ h => hF q h) hF (fun r_36 u t H1 locs1 ht hvm hw hB hz1 hk1 hS => ?_)
        refine W.widen (k := 2) (n := 12) (Nat.le_of_ble_eq_true rfl) (Nat.le_of_ble_eq_true rfl) ?_
        have hP := pv_keep hP rfl hk1
        have hw : r_36 = 63 := hw.elim (fun h => h.2.trans (hsg 0 (by decide))) (fun h => h.2)
        subst hw
        refine lv_bipush (v := 63) hx hb dX11_assume_72 (by decide) ?_
        refine lv_icmp_eq (tgt := 81) hx hb dX11_assume_74 (by decide) (fun _ => ?_) (fun c_38 => absurd (by decide) c_38)
        refine lv_iconst (v := 0) hx hb dX11_assume_81 (by decide) ?_
        refine lv_iadd hx hb dX11_assume_82 ?_
        refine pv_setI 0 (by decide) ?_
        refine lv_istore_n (lv' := [(3, .int 0), (4, .int 0), (0, .ref h0), (1, .int 2), (2, .int p1)]) hx hb dX11_assume_83 rfl hl (by decide) rfl (fun ls hl => ?_)
        refine lv_iinc (v := 1) (lv' := [(4, .int 1), (3, .int 0), (0, .ref h0), (1, .int 2), (2, .int p1)]) hx hb dX11_assume_84 hl (k := 1) rfl (by decide) (by decide) rfl (fun ls hl => ?_)
        refine lv_goto (tgt := 34) hx hb dX11_assume_87 (by decide) ?_
        refine lv_iload hx hb dX11_assume_34 (lv_at hl 0 rfl) ?_
        refine lv_iconst (v := 3) hx hb dX11_assume_36 (by decide) ?_
        refine lv_icmp_ge (tgt := 90) hx hb dX11_assume_37 (by decide) (fun c_39 => absurd c_39 (by decide)) (fun _ => ?_)
        refine lv_iload hx hb dX11_assume_40 (lv_at hl 0 rfl) ?_
        refine lv_iload_n hx hb dX11_assume_42 rfl (lv_at hl 3 rfl) ?_
        refine lv_icmp_ne (tgt := 65) hx hb dX11_assume_43 (by decide) (fun _ => ?_) (fun c_40 => absurd c_40 (by decide))
        refine lv_iload_n hx hb dX11_assume_65 rfl (lv_at hl 1 rfl) ?_
        refine lv_aload_n hx hb dX11_assume_66 rfl (lv_at hl 2 rfl) ?_
        refine lv_iload hx hb dX11_assume_67 (lv_at hl 0 rfl) ?_
        have hF := pv_new hA hS.1
        refine va_calli (va_runV (As := [.int 1]) (rest := [.int 0]) ⟨hx, hb, hml, hown, hts⟩ (c_X11_signOf l hfl D _ h0 q cC sg (pv_ch63 hsg) 1) (cwV 1 hts (pv_gV w8_97 w8_99 wp5_2 w1_1 w8_100) rfl rfl rfl (by decide +kernel) ⟨Nat.le_of_ble_eq_true rfl, Nat.le_of_ble_eq_true rfl⟩) (pv_pV hE hS hF (hP.sub [0, 1] rfl) (hK.sub [0] rfl) (hD.sub [0, 1] (by decide) rfl) (va_recv (ci := 0) (q0 := 0) hK hP rfl rfl)) rfl rfl hl.1 rfl (lv_room (Nat.le_of_ble_eq_true rfl)) dX11_assume_69 ⟨Nat.le_of_ble_eq_true rfl, Nat.le_of_ble_eq_true rfl⟩) hS (fun q _ h => hF q h) hF (fun r_40 u t H1 locs1 ht hvm hw hB hz1 hk1 hS => ?_)
        refine W.widen (k := 2) (n := 12) (Nat.le_of_ble_eq_true rfl) (Nat.le_of_ble_eq_true rfl) ?_
        have hP := pv_keep hP rfl hk1
        have hw : r_40 = 63 := hw.elim (fun h => h.2.trans (hsg 1 (by decide))) (fun h => h.2)
        subst hw
        refine lv_bipush (v := 63) hx hb dX11_assume_72 (by decide) ?_
        refine lv_icmp_eq (tgt := 81) hx hb dX11_assume_74 (by decide) (fun _ => ?_) (fun c_42 => absurd (by decide) c_42)
        refine lv_iconst (v := 0) hx hb dX11_assume_81 (by decide) ?_
        refine lv_iadd hx hb dX11_assume_82 ?_
        refine pv_setI 0 (by decide) ?_
        refine lv_istore_n (lv' := [(3, .int 0), (4, .int 1), (0, .ref h0), (1, .int 2), (2, .int p1)]) hx hb dX11_assume_83 rfl hl (by decide) rfl (fun ls hl => ?_)
        refine lv_iinc (v := 2) (lv' := [(4, .int 2), (3, .int 0), (0, .ref h0), (1, .int 2), (2, .int p1)]) hx hb dX11_assume_84 hl (k := 1) rfl (by decide) (by decide) rfl (fun ls hl => ?_)
        refine lv_goto (tgt := 34) hx hb dX11_assume_87 (by decide) ?_
        refine lv_iload hx hb dX11_assume_34 (lv_at hl 0 rfl) ?_
        refine lv_iconst (v := 3) hx hb dX11_assume_36 (by decide) ?_
        refine lv_icmp_ge (tgt := 90) hx hb dX11_assume_37 (by decide) (fun c_43 => absurd c_43 (by decide)) (fun _ => ?_)
        refine lv_iload hx hb dX11_assume_40 (lv_at hl 0 rfl) ?_
        refine lv_iload_n hx hb dX11_assume_42 rfl (lv_at hl 3 rfl) ?_
        refine lv_icmp_ne (tgt := 65) hx hb dX11_assume_43 (by decide) (fun c_44 => absurd (by decide) c_44) (fun _ => ?_)
        refine lv_aload_n hx hb dX11_assume_46 rfl (lv_at hl 2 rfl) ?_
        refine va_get (own := RX11) (D := D) (ci := 0) (v := .ref (q 3)) (C := RX11) (T := TX11) (N := 15) hx hb hts inF11 hown hK hP 0 rfl rfl 7 (by decide) (hg w2_44 rfl) (fun _ h9 => h9) rfl dX11_assume_47 ?_
        refine lv_iload hx hb dX11_assume_50 (lv_at hl 0 rfl) ?_
        refine lv_iload_n hx hb dX11_assume_52 rfl (lv_at hl 4 rfl) ?_
        refine va_cast hx hb hK hP hD hS 1 0 rfl rfl (by unfold vp_in; decide) dX11_assume_53 (fun H locs hP hD hS => ?_)
        have hP : va_P D pv_cl [(h0, .inr (0, [.ref (q 0), .int 0, .int 108, .ref (q 1), .int 0, .ref (q 2), .int 0, .ref (q 3), .ref (q 4), .int 1, .ref (q 5), .ref (q 6), .ref (q 7), .ref (q 8), .ref (q 9)])), ((q 3), .inl (cC, 3, .inl (upd (sg) (2 : Int32).toNatClampNeg (vp_nar .char p1)))), ((q 4), .inl (cI, 3, .inl sf))] _ := hP
        have hD : va_D A [(h0, .inr (0, [.ref (q 0), .int 0, .int 108, .ref (q 1), .int 0, .ref (q 2), .int 0, .ref (q 3), .ref (q 4), .int 1, .ref (q 5), .ref (q 6), .ref (q 7), .ref (q 8), .ref (q 9)])), ((q 3), .inl (cC, 3, .inl (upd (sg) (2 : Int32).toNatClampNeg (vp_nar .char p1)))), ((q 4), .inl (cI, 3, .inl sf))] := hD
        refine lv_aload_n hx hb dX11_assume_54 rfl (lv_at hl 2 rfl) ?_
        refine va_get (own := RX11) (D := D) (ci := 0) (v := .ref (q 4)) (C := RX11) (T := TX11) (N := 15) hx hb hts inF11 hown hK hP 0 rfl rfl 8 (by decide) (hg w2_45 rfl) (fun _ h9 => h9) rfl dX11_assume_55 ?_
        refine lv_iload hx hb dX11_assume_58 (lv_at hl 0 rfl) ?_
        refine lv_aload_n hx hb dX11_assume_60 rfl (lv_at hl 2 rfl) ?_
        refine va_get (own := RX11) (D := D) (ci := 0) (v := .int 1) (C := RX11) (T := TX11) (N := 15) hx hb hts inF11 hown hK hP 0 rfl rfl 9 (by decide) (hg w2_46 rfl) (fun _ h9 => h9) rfl dX11_assume_61 ?_
        refine va_iast hx hb hK hP hD hS 2 1 rfl rfl (by unfold vp_in; decide) dX11_assume_64 (fun H locs hP hD hS => ?_)
        have hP : va_P D pv_cl [(h0, .inr (0, [.ref (q 0), .int 0, .int 108, .ref (q 1), .int 0, .ref (q 2), .int 0, .ref (q 3), .ref (q 4), .int 1, .ref (q 5), .ref (q 6), .ref (q 7), .ref (q 8), .ref (q 9)])), ((q 3), .inl (cC, 3, .inl (upd (sg) (2 : Int32).toNatClampNeg (vp_nar .char p1)))), ((q 4), .inl (cI, 3, .inl (upd (sf) (2 : Int32).toNatClampNeg 1)))] _ := hP
        have hD : va_D A [(h0, .inr (0, [.ref (q 0), .int 0, .int 108, .ref (q 1), .int 0, .ref (q 2), .int 0, .ref (q 3), .ref (q 4), .int 1, .ref (q 5), .ref (q 6), .ref (q 7), .ref (q 8), .ref (q 9)])), ((q 3), .inl (cC, 3, .inl (upd (sg) (2 : Int32).toNatClampNeg (vp_nar .char p1)))), ((q 4), .inl (cI, 3, .inl (upd (sf) (2 : Int32).toNatClampNeg 1)))] := hD
        refine lv_iload_n hx hb dX11_assume_65 rfl (lv_at hl 1 rfl) ?_
        refine lv_aload_n hx hb dX11_assume_66 rfl (lv_at hl 2 rfl) ?_
        refine lv_iload hx hb dX11_assume_67 (lv_at hl 0 rfl) ?_
        have hF := pv_new hA hS.1
        refine va_calli (va_runV (As := [.int 2]) (rest := [.int 0]) ⟨hx, hb, hml, hown, hts⟩ (c_X11_signOf l hfl D _ h0 q cC (upd (sg) (2 : Int32).toNatClampNeg (vp_nar .char p1)) (pv_ch_upd (pv_ch63 hsg) _ hchp) 2) (cwV 1 hts (pv_gV w8_97 w8_99 wp5_2 w1_1 w8_100) rfl rfl rfl (by decide +kernel) ⟨Nat.le_of_ble_eq_true rfl, Nat.le_of_ble_eq_true rfl⟩) (pv_pV hE hS hF (hP.sub [0, 1] rfl) (hK.sub [0] rfl) (hD.sub [0, 1] (by decide) rfl) (va_recv (ci := 0) (q0 := 0) hK hP rfl rfl)) rfl rfl hl.1 rfl (lv_room (Nat.le_of_ble_eq_true rfl)) dX11_assume_69 ⟨Nat.le_of_ble_eq_true rfl, Nat.le_of_ble_eq_true rfl⟩) hS (fun q _ h => hF q h) hF (fun r_44 u t H1 locs1 ht hvm hw hB hz1 hk1 hS => ?_)
        refine W.widen (k := 2) (n := 12) (Nat.le_of_ble_eq_true rfl) (Nat.le_of_ble_eq_true rfl) ?_
        have hP := pv_keep hP rfl hk1
        have hw : r_44 = vp_nar .char p1 := hw.elim (fun h => h.2.trans pk_us) (fun h => absurd ⟨by decide, by decide⟩ h.1)
        subst hw
        refine lv_bipush (v := 63) hx hb dX11_assume_72 (by decide) ?_
        refine lv_icmp_eq (tgt := 81) hx hb dX11_assume_74 (by decide) (fun c_46 => absurd c_46 hsn) (fun c_46 => ?_)
        refine lv_iconst (v := 1) hx hb dX11_assume_77 (by decide) ?_
        refine lv_goto (tgt := 82) hx hb dX11_assume_78 (by decide) ?_
        refine lv_iadd hx hb dX11_assume_82 ?_
        refine pv_setI 1 (by decide) ?_
        refine lv_istore_n (lv' := [(3, .int 1), (4, .int 2), (0, .ref h0), (1, .int 2), (2, .int p1)]) hx hb dX11_assume_83 rfl hl (by decide) rfl (fun ls hl => ?_)
        refine lv_iinc (v := 3) (lv' := [(4, .int 3), (3, .int 1), (0, .ref h0), (1, .int 2), (2, .int p1)]) hx hb dX11_assume_84 hl (k := 1) rfl (by decide) (by decide) rfl (fun ls hl => ?_)
        refine lv_goto (tgt := 34) hx hb dX11_assume_87 (by decide) ?_
        refine lv_iload hx hb dX11_assume_34 (lv_at hl 0 rfl) ?_
        refine lv_iconst (v := 3) hx hb dX11_assume_36 (by decide) ?_
        refine lv_icmp_ge (tgt := 90) hx hb dX11_assume_37 (by decide) (fun _ => ?_) (fun c_47 => absurd (by decide) c_47)
        refine lv_iload_n hx hb dX11_assume_90 rfl (lv_at hl 1 rfl) ?_
        refine vx_ret ?_
        refine W.widen (k := 2) (n := 12) (Nat.le_of_ble_eq_true rfl) (Nat.le_of_ble_eq_true rfl) ?_
        exact W.iret (v := 1) hx hb hr (fun t ht hW => ⟨⟨1, (), rfl, ⟨rfl, hok⟩, trivial⟩, hS.F ht⟩) hS.2.2 dX11_assume_91

theorem dX7_init_0 : decode cX7_init 0 = .ok (.aload_n 0, 1) := by decide +kernel
theorem dX7_init_1 : decode cX7_init 1 = .ok (.invokespecial 5, 3) := by decide +kernel
theorem w5_35 : (Jvm.Cond.methodLink "Polyforge$Polynomial" (5 : Nat) ({ cls := "java/lang/Object", name := "<init>", desc := "()V" } : Jvm.MethodName)) ∈ lw_tbl := pv_t5 (pv_mg 35 rfl)
theorem w1_36 : (Jvm.Cond.instanceMethod ({ cls := "java/lang/Object", name := "<init>", desc := "()V" } : Jvm.MethodName)) ∈ lw_tbl := pv_t1 (pv_mg 36 rfl)
theorem w1_37 : (Jvm.Cond.code ({ cls := "java/lang/Object", name := "<init>", desc := "()V" } : Jvm.MethodName) object_method_1_code (1 : Nat) (Option.none : Option Jvm.ClassFile.FieldType)) ∈ lw_tbl := pv_t1 (pv_mg 37 rfl)
theorem dX7_init_4 : decode cX7_init 4 = .ok (.aload_n 0, 1) := by decide +kernel
theorem dX7_init_5 : decode cX7_init 5 = .ok (.iload_n 1, 1) := by decide +kernel
theorem dX7_init_6 : decode cX7_init 6 = .ok (.putfield 11, 3) := by decide +kernel
theorem w5_36 : (Jvm.Cond.fieldLink "Polyforge$Polynomial" (11 : Nat) "Polyforge$Polynomial" "ground" "I") ∈ lw_tbl := pv_t5 (pv_mg 36 rfl)
theorem dX7_init_9 : decode cX7_init 9 = .ok (.aload_n 0, 1) := by decide +kernel
theorem dX7_init_10 : decode cX7_init 10 = .ok (.aload_n 2, 1) := by decide +kernel
theorem dX7_init_11 : decode cX7_init 11 = .ok (.putfield 15, 3) := by decide +kernel
theorem w5_41 : (Jvm.Cond.fieldLink "Polyforge$Polynomial" (15 : Nat) "Polyforge$Polynomial" "packed" "[J") ∈ lw_tbl := pv_t5 (pv_mg 41 rfl)
theorem dX7_init_14 : decode cX7_init 14 = .ok (.return_, 1) := by decide +kernel
set_option maxHeartbeats 4000000 in
set_option maxRecDepth 100000 in
/-- Polynomial(ground, packed) -/
theorem c_X7_init (l : Launch) (hfl : l.stackTraces = false) (D : va_G) (sz : Nat) (h0 : Nat) (g0 : Int32) (v0 : Value) (p0 : Int32) (a0 : Nat) : Met l yX7_init (Cond.code yX7_init cX7_init 3 none :: pv_W) ({ frames := 1, cells := 0, slots := 0, locals := 40 } : Room) (va_Pc [.ref h0, .int p0, .ref a0] (pv_P D [] [(h0, .inr (9, [.int g0, v0]))] (va_A [(h0, .inr (9, [.int g0, v0]))] sz) sz)) (va_Qv (fun _ : Unit => True) (fun (_ : Unit) t => va_P D pv_cl [(h0, .inr (9, [.int p0, .ref a0]))] t.heap ∧ va_K D pv_cl [] t ∧ va_D (va_A [(h0, .inr (9, [.int g0, v0]))] sz) [(h0, .inr (9, [.int p0, .ref a0]))]) (va_A [(h0, .inr (9, [.int g0, v0]))] sz)) 0 0 (va_A [(h0, .inr (9, [.int g0, v0]))] sz) := by
  refine Met.ofW (cc := cX7_init) (maxL := 3) (ret := none) (by decide) rfl ?_
  intro p e s m args below meth c s₁ B hml hv
  obtain ⟨rfl, hsz, hE, hP, hK, hD0⟩ := hv
  have hx := B.exec
  have hb := B.bytes
  have hr := B.returns
  have hts := fun (w : Cond) (h : w ∈ pv_W) => atoms_spec (ws := Cond.code yX7_init cX7_init 3 none :: pv_W) B.pre w (List.mem_cons_of_mem _ h)
  have hg := fun {w : Cond} (h : w ∈ lw_tbl) (g : goodWord w = true) => hts w (pv_in h g)
  have hown : s.vm.findClass RX7 = some m.cls := findClass_of_methodNamed B.named
  have hlocks := B.notSynchronized
  have hin : meth.name = "<init>" := (name_of_methodNamed B.named B.method).1
  subst hsz
  have hD := hD0.self (sz := s.heap.size)
  generalize hAe : va_A [(h0, .inr (9, [.int g0, v0]))] s.heap.size = A at hD hE ⊢
  have hA : ∀ q : Nat, s.heap.size ≤ q → A q := fun q h => by rw [← hAe]; exact Or.inr h
  have hS : va_S A s.heap s.heap [] := va_S.rf
  have hP : va_P D pv_cl [(h0, .inr (9, [.int g0, v0]))] s.heap := hP
  have hl := lv_entry ([.ref h0, .int p0, .ref a0]) (n := 3) (Nat.le_of_ble_eq_true rfl)
  rw [lg_entry_eq]
  generalize (lg_sl ([.ref h0, .int p0, .ref a0]) ++ List.replicate (3 - (lg_sl ([.ref h0, .int p0, .ref a0])).length) Slot.unset).toArray = ls at hl ⊢
  have hl : lv_has ls 3 [(0, .ref h0), (1, .int p0), (2, .ref a0)] := hl
  refine lv_aload_n hx hb dX7_init_0 rfl (lv_at hl 0 rfl) ?_
  refine W.objInit (own := RX7) hx hb hown (hg w5_35 rfl) (hg w1_36 rfl) (hg w1_37 rfl) rfl (hl.1.trans hml.symm) (rest := []) rfl dX7_init_1 (Nat.le_of_ble_eq_true rfl) (Nat.le_of_ble_eq_true rfl) ?_
  refine lv_aload_n hx hb dX7_init_4 rfl (lv_at hl 0 rfl) ?_
  refine lv_iload_n hx hb dX7_init_5 rfl (lv_at hl 1 rfl) ?_
  refine va_putF (own := RX7) (D := D) (ci := 9) (v := .int p0) (ty := .int) (C := RX7) (T := TX7) (N := 2) hx hb hts inF7 tyX7 tyX7_ok nmX7 hown hK hP hD hS 0 rfl rfl 0 (by decide) (hg w5_36 rfl) (fun _ h9 => h9) rfl hin rfl (by decide +kernel) rfl rfl (Nat.le_of_ble_eq_true rfl) dX7_init_6 (fun H locs hP hD hS => ?_)
  have hP : va_P D pv_cl [(h0, .inr (9, [.int p0, v0]))] _ := hP
  have hD : va_D A [(h0, .inr (9, [.int p0, v0]))] := hD
  refine lv_aload_n hx hb dX7_init_9 rfl (lv_at hl 0 rfl) ?_
  refine lv_aload_n hx hb dX7_init_10 rfl (lv_at hl 2 rfl) ?_
  refine va_putF (own := RX7) (D := D) (ci := 9) (v := .ref a0) (ty := .array .long) (C := RX7) (T := TX7) (N := 2) hx hb hts inF7 tyX7 tyX7_ok nmX7 hown hK hP hD hS 0 rfl rfl 1 (by decide) (hg w5_41 rfl) (fun _ h9 => h9) rfl hin rfl (by decide +kernel) rfl rfl (Nat.le_of_ble_eq_true rfl) dX7_init_11 (fun H locs hP hD hS => ?_)
  have hP : va_P D pv_cl [(h0, .inr (9, [.int p0, .ref a0]))] _ := hP
  have hD : va_D A [(h0, .inr (9, [.int p0, .ref a0]))] := hD
  refine W.widen (k := 0) (n := 0) (Nat.le_of_ble_eq_true rfl) (Nat.le_of_ble_eq_true rfl) ?_
  exact W.vret hx hb hr (fun t ht hW => ⟨⟨(), rfl, trivial, (by rw [ht]; exact hP.sub [0] rfl), va_K.moved hW.alike (hK.sub [] rfl), hD.sub [0] (by decide) rfl⟩, hS.F ht⟩) hS.2.2 dX7_init_14

theorem dX4_init_0 : decode cX4_init 0 = .ok (.aload_n 0, 1) := by decide +kernel
theorem dX4_init_1 : decode cX4_init 1 = .ok (.invokespecial 3, 3) := by decide +kernel
theorem w7_155 : (Jvm.Cond.methodLink "Polyforge$Ideal" (3 : Nat) ({ cls := "java/lang/Object", name := "<init>", desc := "()V" } : Jvm.MethodName)) ∈ lw_tbl := pv_t7 (pv_mg 155 rfl)
theorem dX4_init_4 : decode cX4_init 4 = .ok (.aload_n 0, 1) := by decide +kernel
theorem dX4_init_5 : decode cX4_init 5 = .ok (.iconst 3, 1) := by decide +kernel
theorem dX4_init_6 : decode cX4_init 6 = .ok (.anewarray 9, 3) := by decide +kernel
theorem w7_156 : (Jvm.Cond.classLink "Polyforge$Ideal" (9 : Nat) "Polyforge$Polynomial") ∈ lw_tbl := pv_t7 (pv_mg 156 rfl)
theorem dX4_init_9 : decode cX4_init 9 = .ok (.putfield 11, 3) := by decide +kernel
theorem w7_160 : (Jvm.Cond.fieldLink "Polyforge$Ideal" (11 : Nat) "Polyforge$Ideal" "generators" "[LPolyforge$Polynomial;") ∈ lw_tbl := pv_t7 (pv_mg 160 rfl)
theorem dX4_init_12 : decode cX4_init 12 = .ok (.aload_n 0, 1) := by decide +kernel
theorem dX4_init_13 : decode cX4_init 13 = .ok (.iconst 0, 1) := by decide +kernel
theorem dX4_init_14 : decode cX4_init 14 = .ok (.putfield 17, 3) := by decide +kernel
theorem w7_161 : (Jvm.Cond.fieldLink "Polyforge$Ideal" (17 : Nat) "Polyforge$Ideal" "generatorCount" "I") ∈ lw_tbl := pv_t7 (pv_mg 161 rfl)
theorem dX4_init_17 : decode cX4_init 17 = .ok (.aload_n 0, 1) := by decide +kernel
theorem dX4_init_18 : decode cX4_init 18 = .ok (.aconst_null, 1) := by decide +kernel
theorem dX4_init_19 : decode cX4_init 19 = .ok (.putfield 21, 3) := by decide +kernel
theorem w7_164 : (Jvm.Cond.fieldLink "Polyforge$Ideal" (21 : Nat) "Polyforge$Ideal" "basisInL" "LPolyforge$Stock;") ∈ lw_tbl := pv_t7 (pv_mg 164 rfl)
theorem dX4_init_22 : decode cX4_init 22 = .ok (.aload_n 0, 1) := by decide +kernel
theorem dX4_init_23 : decode cX4_init 23 = .ok (.aconst_null, 1) := by decide +kernel
theorem dX4_init_24 : decode cX4_init 24 = .ok (.putfield 25, 3) := by decide +kernel
theorem w7_166 : (Jvm.Cond.fieldLink "Polyforge$Ideal" (25 : Nat) "Polyforge$Ideal" "basisInD" "LPolyforge$Stock;") ∈ lw_tbl := pv_t7 (pv_mg 166 rfl)
theorem dX4_init_27 : decode cX4_init 27 = .ok (.aload_n 0, 1) := by decide +kernel
theorem dX4_init_28 : decode cX4_init 28 = .ok (.aconst_null, 1) := by decide +kernel
theorem dX4_init_29 : decode cX4_init 29 = .ok (.putfield 28, 3) := by decide +kernel
theorem w7_168 : (Jvm.Cond.fieldLink "Polyforge$Ideal" (28 : Nat) "Polyforge$Ideal" "basisInR" "LPolyforge$Stock;") ∈ lw_tbl := pv_t7 (pv_mg 168 rfl)
theorem dX4_init_32 : decode cX4_init 32 = .ok (.aload_n 0, 1) := by decide +kernel
theorem dX4_init_33 : decode cX4_init 33 = .ok (.iload_n 1, 1) := by decide +kernel
theorem dX4_init_34 : decode cX4_init 34 = .ok (.putfield 31, 3) := by decide +kernel
theorem w7_157 : (Jvm.Cond.fieldLink "Polyforge$Ideal" (31 : Nat) "Polyforge$Ideal" "prime" "I") ∈ lw_tbl := pv_t7 (pv_mg 157 rfl)
theorem dX4_init_37 : decode cX4_init 37 = .ok (.return_, 1) := by decide +kernel
set_option maxHeartbeats 4000000 in
set_option maxRecDepth 100000 in
/-- Ideal(prime) -/
theorem c_X4_init (l : Launch) (hfl : l.stackTraces = false) (D : va_G) (sz : Nat) (h0 : Nat) (p0 : Int32) : Met l yX4_init (Cond.code yX4_init cX4_init 2 none :: pv_W) ({ frames := 1, cells := 1, slots := 3, locals := 40 } : Room) (va_Pc [.ref h0, .int p0] (pv_P D [] [(h0, .inr (10, [.int 0, .null, .int 0, .null, .null, .null]))] (va_A [(h0, .inr (10, [.int 0, .null, .int 0, .null, .null, .null]))] sz) sz)) (va_Qv (fun _ : Unit => True) (fun (_ : Unit) t => ∃ a : Nat, va_P D pv_cl [(h0, .inr (10, [.int p0, .ref a, .int 0, .null, .null, .null]))] t.heap ∧ va_K D pv_cl [] t ∧ va_D (va_A [(h0, .inr (10, [.int 0, .null, .int 0, .null, .null, .null]))] sz) [(h0, .inr (10, [.int p0, .ref a, .int 0, .null, .null, .null]))]) (va_A [(h0, .inr (10, [.int 0, .null, .int 0, .null, .null, .null]))] sz)) 1 3 (va_A [(h0, .inr (10, [.int 0, .null, .int 0, .null, .null, .null]))] sz) := by
  refine Met.ofW (cc := cX4_init) (maxL := 2) (ret := none) (by decide) rfl ?_
  intro p e s m args below meth c s₁ B hml hv
  obtain ⟨rfl, hsz, hE, hP, hK, hD0⟩ := hv
  have hx := B.exec
  have hb := B.bytes
  have hr := B.returns
  have hts := fun (w : Cond) (h : w ∈ pv_W) => atoms_spec (ws := Cond.code yX4_init cX4_init 2 none :: pv_W) B.pre w (List.mem_cons_of_mem _ h)
  have hg := fun {w : Cond} (h : w ∈ lw_tbl) (g : goodWord w = true) => hts w (pv_in h g)
  have hown : s.vm.findClass RX4 = some m.cls := findClass_of_methodNamed B.named
  have hlocks := B.notSynchronized
  have hin : meth.name = "<init>" := (name_of_methodNamed B.named B.method).1
  subst hsz
  have hD := hD0.self (sz := s.heap.size)
  generalize hAe : va_A [(h0, .inr (10, [.int 0, .null, .int 0, .null, .null, .null]))] s.heap.size = A at hD hE ⊢
  have hA : ∀ q : Nat, s.heap.size ≤ q → A q := fun q h => by rw [← hAe]; exact Or.inr h
  have hS : va_S A s.heap s.heap [] := va_S.rf
  have hP : va_P D pv_cl [(h0, .inr (10, [.int 0, .null, .int 0, .null, .null, .null]))] s.heap := hP
  have hl := lv_entry ([.ref h0, .int p0]) (n := 2) (Nat.le_of_ble_eq_true rfl)
  rw [lg_entry_eq]
  generalize (lg_sl ([.ref h0, .int p0]) ++ List.replicate (2 - (lg_sl ([.ref h0, .int p0])).length) Slot.unset).toArray = ls at hl ⊢
  have hl : lv_has ls 2 [(0, .ref h0), (1, .int p0)] := hl
  refine lv_aload_n hx hb dX4_init_0 rfl (lv_at hl 0 rfl) ?_
  refine W.objInit (own := RX4) hx hb hown (hg w7_155 rfl) (hg w1_36 rfl) (hg w1_37 rfl) rfl (hl.1.trans hml.symm) (rest := []) rfl dX4_init_1 (Nat.le_of_ble_eq_true rfl) (Nat.le_of_ble_eq_true rfl) ?_
  refine lv_aload_n hx hb dX4_init_4 rfl (lv_at hl 0 rfl) ?_
  refine lv_iconst (v := 3) hx hb dX4_init_5 (by decide) ?_
  refine va_newq (own := RX4) (C := "Polyforge$Polynomial") (N' := 3) hx hb hown (hg w7_156 rfl) (pv_ao (C := "Polyforge$Polynomial") hE (by simp [pv_ot])) hK hP hD hS hA (by decide) (by decide +kernel) (Nat.le_of_ble_eq_true rfl) (Nat.le_of_ble_eq_true rfl) (Nat.le_of_ble_eq_true rfl) dX4_init_6 (fun q_1 cA_2 H hK hP hD hS => ?_)
  have hP : va_P D pv_cl [(h0, .inr (10, [.int 0, .null, .int 0, .null, .null, .null])), (q_1, .inl (cA_2, 3, .inr (.inr (.inr (.inr (fun _ => none))))))] _ := hP
  have hD : va_D A [(h0, .inr (10, [.int 0, .null, .int 0, .null, .null, .null])), (q_1, .inl (cA_2, 3, .inr (.inr (.inr (.inr (fun _ => none))))))] := hD
  have hK : va_K D pv_cl [(cA_2, .object "Polyforge$Polynomial")] s := hK
  refine W.widen (k := 1) (n := 3) (Nat.le_of_ble_eq_true rfl) (Nat.le_of_ble_eq_true rfl) ?_
  refine va_putF (own := RX4) (D := D) (ci := 10) (v := .ref q_1) (ty := .array (.object "Polyforge$Polynomial")) (C := RX4) (T := TX4) (N := 6) hx hb hts inF4 tyX4 tyX4_ok nmX4 hown hK hP hD hS 0 rfl rfl 1 (by decide) (hg w7_160 rfl) (fun _ h9 => h9) rfl hin rfl (by decide +kernel) rfl rfl (Nat.le_of_ble_eq_true rfl) dX4_init_9 (fun H locs hP hD hS => ?_)
  have hP : va_P D pv_cl [(h0, .inr (10, [.int 0, .ref q_1, .int 0, .null, .null, .null])), (q_1, .inl (cA_2, 3, .inr (.inr (.inr (.inr (fun _ => none))))))] _ := hP
  have hD : va_D A [(h0, .inr (10, [.int 0, .ref q_1, .int 0, .null, .null, .null])), (q_1, .inl (cA_2, 3, .inr (.inr (.inr (.inr (fun _ => none))))))] := hD
  refine lv_aload_n hx hb dX4_init_12 rfl (lv_at hl 0 rfl) ?_
  refine lv_iconst (v := 0) hx hb dX4_init_13 (by decide) ?_
  refine va_put (own := RX4) (D := D) (ci := 10) (v := .int 0) (ty := .int) (C := RX4) (T := TX4) (N := 6) hx hb hts inF4 tyX4 tyX4_ok nmX4 hown hK hP hD hS 0 rfl rfl 2 (by decide) (hg w7_161 rfl) (fun _ h9 => h9) rfl (by decide +kernel) rfl rfl (Nat.le_of_ble_eq_true rfl) dX4_init_14 (fun H locs hP hD hS => ?_)
  have hP : va_P D pv_cl [(h0, .inr (10, [.int 0, .ref q_1, .int 0, .null, .null, .null])), (q_1, .inl (cA_2, 3, .inr (.inr (.inr (.inr (fun _ => none))))))] _ := hP
  have hD : va_D A [(h0, .inr (10, [.int 0, .ref q_1, .int 0, .null, .null, .null])), (q_1, .inl (cA_2, 3, .inr (.inr (.inr (.inr (fun _ => none))))))] := hD
  refine lv_aload_n hx hb dX4_init_17 rfl (lv_at hl 0 rfl) ?_
  refine lv_null hx hb dX4_init_18 ?_
  refine va_put (own := RX4) (D := D) (ci := 10) (v := .null) (ty := .object "Polyforge$Stock") (C := RX4) (T := TX4) (N := 6) hx hb hts inF4 tyX4 tyX4_ok nmX4 hown hK hP hD hS 0 rfl rfl 3 (by decide) (hg w7_164 rfl) (fun _ h9 => h9) rfl (by decide +kernel) rfl rfl (Nat.le_of_ble_eq_true rfl) dX4_init_19 (fun H locs hP hD hS => ?_)
  have hP : va_P D pv_cl [(h0, .inr (10, [.int 0, .ref q_1, .int 0, .null, .null, .null])), (q_1, .inl (cA_2, 3, .inr (.inr (.inr (.inr (fun _ => none))))))] _ := hP
  have hD : va_D A [(h0, .inr (10, [.int 0, .ref q_1, .int 0, .null, .null, .null])), (q_1, .inl (cA_2, 3, .inr (.inr (.inr (.inr (fun _ => none))))))] := hD
  refine lv_aload_n hx hb dX4_init_22 rfl (lv_at hl 0 rfl) ?_
  refine lv_null hx hb dX4_init_23 ?_
  refine va_put (own := RX4) (D := D) (ci := 10) (v := .null) (ty := .object "Polyforge$Stock") (C := RX4) (T := TX4) (N := 6) hx hb hts inF4 tyX4 tyX4_ok nmX4 hown hK hP hD hS 0 rfl rfl 4 (by decide) (hg w7_166 rfl) (fun _ h9 => h9) rfl (by decide +kernel) rfl rfl (Nat.le_of_ble_eq_true rfl) dX4_init_24 (fun H locs hP hD hS => ?_)
  have hP : va_P D pv_cl [(h0, .inr (10, [.int 0, .ref q_1, .int 0, .null, .null, .null])), (q_1, .inl (cA_2, 3, .inr (.inr (.inr (.inr (fun _ => none))))))] _ := hP
  have hD : va_D A [(h0, .inr (10, [.int 0, .ref q_1, .int 0, .null, .null, .null])), (q_1, .inl (cA_2, 3, .inr (.inr (.inr (.inr (fun _ => none))))))] := hD
  refine lv_aload_n hx hb dX4_init_27 rfl (lv_at hl 0 rfl) ?_
  refine lv_null hx hb dX4_init_28 ?_
  refine va_put (own := RX4) (D := D) (ci := 10) (v := .null) (ty := .object "Polyforge$Stock") (C := RX4) (T := TX4) (N := 6) hx hb hts inF4 tyX4 tyX4_ok nmX4 hown hK hP hD hS 0 rfl rfl 5 (by decide) (hg w7_168 rfl) (fun _ h9 => h9) rfl (by decide +kernel) rfl rfl (Nat.le_of_ble_eq_true rfl) dX4_init_29 (fun H locs hP hD hS => ?_)
  have hP : va_P D pv_cl [(h0, .inr (10, [.int 0, .ref q_1, .int 0, .null, .null, .null])), (q_1, .inl (cA_2, 3, .inr (.inr (.inr (.inr (fun _ => none))))))] _ := hP
  have hD : va_D A [(h0, .inr (10, [.int 0, .ref q_1, .int 0, .null, .null, .null])), (q_1, .inl (cA_2, 3, .inr (.inr (.inr (.inr (fun _ => none))))))] := hD
  refine lv_aload_n hx hb dX4_init_32 rfl (lv_at hl 0 rfl) ?_
  refine lv_iload_n hx hb dX4_init_33 rfl (lv_at hl 1 rfl) ?_
  refine va_putF (own := RX4) (D := D) (ci := 10) (v := .int p0) (ty := .int) (C := RX4) (T := TX4) (N := 6) hx hb hts inF4 tyX4 tyX4_ok nmX4 hown hK hP hD hS 0 rfl rfl 0 (by decide) (hg w7_157 rfl) (fun _ h9 => h9) rfl hin rfl (by decide +kernel) rfl rfl (Nat.le_of_ble_eq_true rfl) dX4_init_34 (fun H locs hP hD hS => ?_)
  have hP : va_P D pv_cl [(h0, .inr (10, [.int p0, .ref q_1, .int 0, .null, .null, .null])), (q_1, .inl (cA_2, 3, .inr (.inr (.inr (.inr (fun _ => none))))))] _ := hP
  have hD : va_D A [(h0, .inr (10, [.int p0, .ref q_1, .int 0, .null, .null, .null])), (q_1, .inl (cA_2, 3, .inr (.inr (.inr (.inr (fun _ => none))))))] := hD
  refine W.widen (k := 1) (n := 3) (Nat.le_of_ble_eq_true rfl) (Nat.le_of_ble_eq_true rfl) ?_
  exact W.vret hx hb hr (fun t ht hW => ⟨⟨(), rfl, trivial, q_1, (by rw [ht]; exact hP.sub [0] rfl), va_K.moved hW.alike (hK.sub [] rfl), hD.sub [0] (by decide) rfl⟩, hS.F ht⟩) hS.2.2 dX4_init_37

theorem dX11_addIdeal_0 : decode cX11_addIdeal 0 = .ok (.iload_n 1, 1) := by decide +kernel
theorem dX11_addIdeal_1 : decode cX11_addIdeal 1 = .ok (.invokestatic 222, 3) := by decide +kernel
theorem w6_188 : (Jvm.Cond.methodLink "Polyforge" (222 : Nat) ({ cls := "Polyforge", name := "requirePrime", desc := "(I)V" } : Jvm.MethodName)) ∈ lw_tbl := pv_t6 (pv_mg 188 rfl)
theorem w6_190 : (Jvm.Cond.code ({ cls := "Polyforge", name := "requirePrime", desc := "(I)V" } : Jvm.MethodName) prog_1_method_56_code (1 : Nat) (Option.none : Option Jvm.ClassFile.FieldType)) ∈ lw_tbl := pv_t6 (pv_mg 190 rfl)
theorem w6_189 : (Jvm.Cond.static ({ cls := "Polyforge", name := "requirePrime", desc := "(I)V" } : Jvm.MethodName)) ∈ lw_tbl := pv_t6 (pv_mg 189 rfl)
theorem dX11_addIdeal_4 : decode cX11_addIdeal 4 = .ok (.aload_n 0, 1) := by decide +kernel
theorem dX11_addIdeal_5 : decode cX11_addIdeal 5 = .ok (.getfield 29, 3) := by decide +kernel
theorem dX11_addIdeal_8 : decode cX11_addIdeal 8 = .ok (.iconst 5, 1) := by decide +kernel
theorem dX11_addIdeal_9 : decode cX11_addIdeal 9 = .ok (.if_icmp .lt 14, 3) := by decide +kernel
theorem dX11_addIdeal_23 : decode cX11_addIdeal 23 = .ok (.aload_n 0, 1) := by decide +kernel
theorem dX11_addIdeal_24 : decode cX11_addIdeal 24 = .ok (.getfield 25, 3) := by decide +kernel
theorem w2_40 : (Jvm.Cond.fieldLink "Polyforge" (25 : Nat) "Polyforge" "ideals" "[LPolyforge$Ideal;") ∈ lw_tbl := pv_t2 (pv_mg 40 rfl)
theorem dX11_addIdeal_27 : decode cX11_addIdeal 27 = .ok (.aload_n 0, 1) := by decide +kernel
theorem dX11_addIdeal_28 : decode cX11_addIdeal 28 = .ok (.getfield 29, 3) := by decide +kernel
theorem dX11_addIdeal_31 : decode cX11_addIdeal 31 = .ok (.new 23, 3) := by decide +kernel
theorem w1_40 : (Jvm.Cond.classLink "Polyforge" (23 : Nat) "Polyforge$Ideal") ∈ lw_tbl := pv_t1 (pv_mg 40 rfl)
theorem w7_151 : (Jvm.Cond.instantiable "Polyforge$Ideal" (6 : Nat)) ∈ lw_tbl := pv_t7 (pv_mg 151 rfl)
theorem w1_26 : (Jvm.Cond.initialized "Polyforge$Ideal") ∈ lw_tbl := pv_t1 (pv_mg 26 rfl)
theorem dX11_addIdeal_34 : decode cX11_addIdeal 34 = .ok (.dup, 1) := by decide +kernel
theorem dX11_addIdeal_35 : decode cX11_addIdeal 35 = .ok (.iload_n 1, 1) := by decide +kernel
theorem dX11_addIdeal_36 : decode cX11_addIdeal 36 = .ok (.invokespecial 311, 3) := by decide +kernel
theorem w7_152 : (Jvm.Cond.methodLink "Polyforge" (311 : Nat) ({ cls := "Polyforge$Ideal", name := "<init>", desc := "(I)V" } : Jvm.MethodName)) ∈ lw_tbl := pv_t7 (pv_mg 152 rfl)
theorem w7_154 : (Jvm.Cond.code ({ cls := "Polyforge$Ideal", name := "<init>", desc := "(I)V" } : Jvm.MethodName) prog_6_method_1_code (2 : Nat) (Option.none : Option Jvm.ClassFile.FieldType)) ∈ lw_tbl := pv_t7 (pv_mg 154 rfl)
theorem w7_153 : (Jvm.Cond.instanceMethod ({ cls := "Polyforge$Ideal", name := "<init>", desc := "(I)V" } : Jvm.MethodName)) ∈ lw_tbl := pv_t7 (pv_mg 153 rfl)
theorem dX11_addIdeal_39 : decode cX11_addIdeal 39 = .ok (.aastore, 1) := by decide +kernel
theorem dX11_addIdeal_40 : decode cX11_addIdeal 40 = .ok (.aload_n 0, 1) := by decide +kernel
theorem dX11_addIdeal_41 : decode cX11_addIdeal 41 = .ok (.dup, 1) := by decide +kernel
theorem dX11_addIdeal_42 : decode cX11_addIdeal 42 = .ok (.getfield 29, 3) := by decide +kernel
theorem dX11_addIdeal_45 : decode cX11_addIdeal 45 = .ok (.dup_x1, 1) := by decide +kernel
theorem dX11_addIdeal_46 : decode cX11_addIdeal 46 = .ok (.iconst 1, 1) := by decide +kernel
theorem dX11_addIdeal_47 : decode cX11_addIdeal 47 = .ok (.iadd, 1) := by decide +kernel
theorem dX11_addIdeal_48 : decode cX11_addIdeal 48 = .ok (.putfield 29, 3) := by decide +kernel
theorem dX11_addIdeal_51 : decode cX11_addIdeal 51 = .ok (.ireturn, 1) := by decide +kernel
set_option maxHeartbeats 4000000 in
set_option maxRecDepth 100000 in
/-- addIdeal on a fresh object -/
theorem c_X11_addIdeal (l : Launch) (hfl : l.stackTraces = false) (D : va_G) (sz : Nat) (h0 : Nat) (q : Nat → Nat) (cO : ClassId) (p0 : Int32) : vx_Met l yX11_addIdeal (Cond.code yX11_addIdeal cX11_addIdeal 2 (some .int) :: pv_W) ({ frames := 8, cells := 3, slots := 15, locals := 120 } : Room) (va_Pc [.ref h0, .int p0] (pv_P D [(cO, .object "Polyforge$Ideal")] [(h0, .inr (0, [.ref (q 0), .int 0, .int 108, .ref (q 1), .int 0, .ref (q 2), .int 0, .ref (q 3), .ref (q 4), .int 1, .ref (q 5), .ref (q 6), .ref (q 7), .ref (q 8), .ref (q 9)])), ((q 1), .inl (cO, 5, .inr (.inr (.inr (.inr (fun _ => none))))))] (va_A [(h0, .inr (0, [.ref (q 0), .int 0, .int 108, .ref (q 1), .int 0, .ref (q 2), .int 0, .ref (q 3), .ref (q 4), .int 1, .ref (q 5), .ref (q 6), .ref (q 7), .ref (q 8), .ref (q 9)])), ((q 1), .inl (cO, 5, .inr (.inr (.inr (.inr (fun _ => none))))))] sz) sz)) (va_Qi (fun r (_ : Unit) => r = 0 ∧ pv_pr p0) (fun _ _ => True) (va_A [(h0, .inr (0, [.ref (q 0), .int 0, .int 108, .ref (q 1), .int 0, .ref (q 2), .int 0, .ref (q 3), .ref (q 4), .int 1, .ref (q 5), .ref (q 6), .ref (q 7), .ref (q 8), .ref (q 9)])), ((q 1), .inl (cO, 5, .inr (.inr (.inr (.inr (fun _ => none))))))] sz)) (vx_X (fun _ : Unit => True) (fun E _ _ => E = "java/lang/IllegalArgumentException" ∧ ¬ pv_pr p0) (va_A [(h0, .inr (0, [.ref (q 0), .int 0, .int 108, .ref (q 1), .int 0, .ref (q 2), .int 0, .ref (q 3), .ref (q 4), .int 1, .ref (q 5), .ref (q 6), .ref (q 7), .ref (q 8), .ref (q 9)])), ((q 1), .inl (cO, 5, .inr (.inr (.inr (.inr (fun _ => none))))))] sz)) 3 15 (va_A [(h0, .inr (0, [.ref (q 0), .int 0, .int 108, .ref (q 1), .int 0, .ref (q 2), .int 0, .ref (q 3), .ref (q 4), .int 1, .ref (q 5), .ref (q 6), .ref (q 7), .ref (q 8), .ref (q 9)])), ((q 1), .inl (cO, 5, .inr (.inr (.inr (.inr (fun _ => none))))))] sz) := by
  refine vx_ofW (cc := cX11_addIdeal) (maxL := 2) (ret := (some .int)) (by decide) rfl ?_
  intro p e s m args below meth c s₁ B hml hnt hv
  obtain ⟨rfl, hsz, hE, hP, hK, hD0⟩ := hv
  have hx := B.exec
  have hb := B.bytes
  have hr := B.returns
  have hts := fun (w : Cond) (h : w ∈ pv_W) => atoms_spec (ws := Cond.code yX11_addIdeal cX11_addIdeal 2 (some .int) :: pv_W) B.pre w (List.mem_cons_of_mem _ h)
  have hg := fun {w : Cond} (h : w ∈ lw_tbl) (g : goodWord w = true) => hts w (pv_in h g)
  have hown : s.vm.findClass RX11 = some m.cls := findClass_of_methodNamed B.named
  have hlocks := B.notSynchronized
  subst hsz
  have hD := hD0.self (sz := s.heap.size)
  generalize hAe : va_A [(h0, .inr (0, [.ref (q 0), .int 0, .int 108, .ref (q 1), .int 0, .ref (q 2), .int 0, .ref (q 3), .ref (q 4), .int 1, .ref (q 5), .ref (q 6), .ref (q 7), .ref (q 8), .ref (q 9)])), ((q 1), .inl (cO, 5, .inr (.inr (.inr (.inr (fun _ => none))))))] s.heap.size = A at hD hE ⊢
  have hA : ∀ q : Nat, s.heap.size ≤ q → A q := fun q h => by rw [← hAe]; exact Or.inr h
  have hS : va_S A s.heap s.heap [] := va_S.rf
  have hP : va_P D pv_cl [(h0, .inr (0, [.ref (q 0), .int 0, .int 108, .ref (q 1), .int 0, .ref (q 2), .int 0, .ref (q 3), .ref (q 4), .int 1, .ref (q 5), .ref (q 6), .ref (q 7), .ref (q 8), .ref (q 9)])), ((q 1), .inl (cO, 5, .inr (.inr (.inr (.inr (fun _ => none))))))] s.heap := hP
  have hl := lv_entry ([.ref h0, .int p0]) (n := 2) (Nat.le_of_ble_eq_true rfl)
  rw [lg_entry_eq]
  generalize (lg_sl ([.ref h0, .int p0]) ++ List.replicate (2 - (lg_sl ([.ref h0, .int p0])).length) Slot.unset).toArray = ls at hl ⊢
  have hl : lv_has ls 2 [(0, .ref h0), (1, .int p0)] := hl
  refine lv_iload_n hx hb dX11_addIdeal_0 rfl (lv_at hl 1 rfl) ?_
  have hF := pv_new hA hS.1
  refine vx_callv (vx_runS (As := [.int p0]) (rest := []) ⟨hx, hb, hml, hown, hts⟩ (c_X11_requirePrime l hfl D _ p0) (va_cwS 1 hts (pv_gS w6_188 w6_189 w1_1 w6_190) rfl rfl rfl (by decide +kernel) ⟨Nat.le_of_ble_eq_true rfl, Nat.le_of_ble_eq_true rfl⟩) (pv_ps hE hS hF (hP.sub [] rfl) (hK.sub [] rfl) (hD.sub [] (by decide) rfl)) rfl rfl hl.1 rfl (lv_room (Nat.le_of_ble_eq_true rfl)) dX11_addIdeal_1 ⟨Nat.le_of_ble_eq_true rfl, Nat.le_of_ble_eq_true rfl⟩) hS (fun q _ h => hF q h) hF (fun q _ h => hF q h) (fun E ce q9 u t H1 locs1 ht hvm hpx hbx hz1 hk1 hS hce hcv hcl => ?_) (fun u t H1 locs1 ht hvm hw hB hz1 hk1 hS => ?_)
  · exact vx_out (fun x h9 => absurd (hnt x h9) id) hlocks hce hcv hcl (fun t ht hvm => ⟨(), trivial, hbx, hS.F ht⟩) hS.2.2 (Nat.le_of_ble_eq_true rfl) (Nat.le_of_ble_eq_true rfl)
  · refine W.widen (k := 1) (n := 6) (Nat.le_of_ble_eq_true rfl) (Nat.le_of_ble_eq_true rfl) ?_
    have hP := pv_keep hP rfl hk1
    have a_2 := hw
    refine lv_aload_n hx hb dX11_addIdeal_4 rfl (lv_at hl 0 rfl) ?_
    refine va_get (own := RX11) (D := D) (ci := 0) (v := .int 0) (C := RX11) (T := TX11) (N := 15) hx hb hts inF11 hown hK hP 0 rfl rfl 4 (by decide) (hg w2_41 rfl) (fun _ h9 => h9) rfl dX11_addIdeal_5 ?_
    refine lv_iconst (v := 5) hx hb dX11_addIdeal_8 (by decide) ?_
    refine lv_icmp_lt (tgt := 23) hx hb dX11_addIdeal_9 (by decide) (fun _ => ?_) (fun c_3 => absurd (by decide) c_3)
    refine lv_aload_n hx hb dX11_addIdeal_23 rfl (lv_at hl 0 rfl) ?_
    refine va_get (own := RX11) (D := D) (ci := 0) (v := .ref (q 1)) (C := RX11) (T := TX11) (N := 15) hx hb hts inF11 hown hK hP 0 rfl rfl 3 (by decide) (hg w2_40 rfl) (fun _ h9 => h9) rfl dX11_addIdeal_24 ?_
    refine lv_aload_n hx hb dX11_addIdeal_27 rfl (lv_at hl 0 rfl) ?_
    refine va_get (own := RX11) (D := D) (ci := 0) (v := .int 0) (C := RX11) (T := TX11) (N := 15) hx hb hts inF11 hown hK hP 0 rfl rfl 4 (by decide) (hg w2_41 rfl) (fun _ h9 => h9) rfl dX11_addIdeal_28 ?_
    refine va_new (own := RX11) (ci := 10) (fs := [.int 0, .null, .int 0, .null, .null, .null]) (C := RX4) (T := TX4) (N := 6) hx hb hts inF4 tyX4 tyX4_ok hown (hg w1_40 rfl) (hg w7_151 rfl) (hg w1_26 rfl) hK hP hD hS hA rfl (by decide +kernel) (Nat.le_of_ble_eq_true rfl) (Nat.le_of_ble_eq_true rfl) dX11_addIdeal_31 (fun q_4 H hP hD hS => ?_)
    have hP : va_P D pv_cl [(h0, .inr (0, [.ref (q 0), .int 0, .int 108, .ref (q 1), .int 0, .ref (q 2), .int 0, .ref (q 3), .ref (q 4), .int 1, .ref (q 5), .ref (q 6), .ref (q 7), .ref (q 8), .ref (q 9)])), ((q 1), .inl (cO, 5, .inr (.inr (.inr (.inr (fun _ => none)))))), (q_4, .inr (10, [.int 0, .null, .int 0, .null, .null, .null]))] _ := hP
    have hD : va_D A [(h0, .inr (0, [.ref (q 0), .int 0, .int 108, .ref (q 1), .int 0, .ref (q 2), .int 0, .ref (q 3), .ref (q 4), .int 1, .ref (q 5), .ref (q 6), .ref (q 7), .ref (q 8), .ref (q 9)])), ((q 1), .inl (cO, 5, .inr (.inr (.inr (.inr (fun _ => none)))))), (q_4, .inr (10, [.int 0, .null, .int 0, .null, .null, .null]))] := hD
    refine W.widen (k := 2) (n := 12) (Nat.le_of_ble_eq_true rfl) (Nat.le_of_ble_eq_true rfl) ?_
    refine lv_dup hx hb dX11_addIdeal_34 rfl ?_
    refine lv_iload_n hx hb dX11_addIdeal_35 rfl (lv_at hl 1 rfl) ?_
    have hF := va_free (wc := [(q_4, .inr (10, [.int 0, .null, .int 0, .null, .null, .null]))]) hD hS hA [2] rfl
    refine va_callv (va_runI (As := [.int p0]) (rest := [.ref q_4, .int 0, .ref (q 1)]) ⟨hx, hb, hml, hown, hts⟩ (c_X4_init l hfl D _ q_4 p0) (cwI 1 hts (pv_gC w7_154) rfl rfl rfl (hg w1_26 rfl) (hg w7_152 rfl) (hg w7_153 rfl) rfl (by decide +kernel) ⟨Nat.le_of_ble_eq_true rfl, Nat.le_of_ble_eq_true rfl⟩) (pv_ps hE hS hF (hP.sub [2] rfl) (hK.sub [] rfl) (hD.sub [2] (by decide) rfl)) rfl rfl hl.1 rfl (lv_room (Nat.le_of_ble_eq_true rfl)) dX11_addIdeal_36 ⟨Nat.le_of_ble_eq_true rfl, Nat.le_of_ble_eq_true rfl⟩) hS (fun q _ h => hF q h) hF (fun u t H1 locs1 ht hvm hw hB hz1 hk1 hS => ?_)
    refine W.widen (k := 3) (n := 15) (Nat.le_of_ble_eq_true rfl) (Nat.le_of_ble_eq_true rfl) ?_
    obtain ⟨b_6, hP1, hK1, hD1⟩ := hB
    rw [ht] at hP1
    have hK1 := va_K.moved hvm.symm hK1
    obtain ⟨hP, hD⟩ := va_join (wr := [(h0, .inr (0, [.ref (q 0), .int 0, .int 108, .ref (q 1), .int 0, .ref (q 2), .int 0, .ref (q 3), .ref (q 4), .int 1, .ref (q 5), .ref (q 6), .ref (q 7), .ref (q 8), .ref (q 9)])), ((q 1), .inl (cO, 5, .inr (.inr (.inr (.inr (fun _ => none))))))]) (w1 := [(q_4, .inr (10, [.int p0, .ref b_6, .int 0, .null, .null, .null]))]) hP hD [2] [0, 1] rfl rfl (by decide) (by decide) hk1 hF hP1 hD1
    have hP : va_P D pv_cl [(h0, .inr (0, [.ref (q 0), .int 0, .int 108, .ref (q 1), .int 0, .ref (q 2), .int 0, .ref (q 3), .ref (q 4), .int 1, .ref (q 5), .ref (q 6), .ref (q 7), .ref (q 8), .ref (q 9)])), ((q 1), .inl (cO, 5, .inr (.inr (.inr (.inr (fun _ => none)))))), (q_4, .inr (10, [.int p0, .ref b_6, .int 0, .null, .null, .null]))] _ := hP
    have hD : va_D A [(h0, .inr (0, [.ref (q 0), .int 0, .int 108, .ref (q 1), .int 0, .ref (q 2), .int 0, .ref (q 3), .ref (q 4), .int 1, .ref (q 5), .ref (q 6), .ref (q 7), .ref (q 8), .ref (q 9)])), ((q 1), .inl (cO, 5, .inr (.inr (.inr (.inr (fun _ => none)))))), (q_4, .inr (10, [.int p0, .ref b_6, .int 0, .null, .null, .null]))] := hD
    refine va_astq hx hb hK hP hD hS 1 0 2 10 rfl rfl rfl rfl (by unfold vp_in; decide) dX11_addIdeal_39 (fun H locs hP hD hS => ?_)
    have hP : va_P D pv_cl [(h0, .inr (0, [.ref (q 0), .int 0, .int 108, .ref (q 1), .int 0, .ref (q 2), .int 0, .ref (q 3), .ref (q 4), .int 1, .ref (q 5), .ref (q 6), .ref (q 7), .ref (q 8), .ref (q 9)])), ((q 1), .inl (cO, 5, .inr (.inr (.inr (.inr (va_up (fun _ => none) (0 : Int32).toNatClampNeg (some q_4))))))), (q_4, .inr (10, [.int p0, .ref b_6, .int 0, .null, .null, .null]))] _ := hP
    have hD : va_D A [(h0, .inr (0, [.ref (q 0), .int 0, .int 108, .ref (q 1), .int 0, .ref (q 2), .int 0, .ref (q 3), .ref (q 4), .int 1, .ref (q 5), .ref (q 6), .ref (q 7), .ref (q 8), .ref (q 9)])), ((q 1), .inl (cO, 5, .inr (.inr (.inr (.inr (va_up (fun _ => none) (0 : Int32).toNatClampNeg (some q_4))))))), (q_4, .inr (10, [.int p0, .ref b_6, .int 0, .null, .null, .null]))] := hD
    refine lv_aload_n hx hb dX11_addIdeal_40 rfl (lv_at hl 0 rfl) ?_
    refine lv_dup hx hb dX11_addIdeal_41 rfl ?_
    refine va_get (own := RX11) (D := D) (ci := 0) (v := .int 0) (C := RX11) (T := TX11) (N := 15) hx hb hts inF11 hown hK hP 0 rfl rfl 4 (by decide) (hg w2_41 rfl) (fun _ h9 => h9) rfl dX11_addIdeal_42 ?_
    refine lv_dup_x1 hx hb dX11_addIdeal_45 rfl rfl ?_
    refine lv_iconst (v := 1) hx hb dX11_addIdeal_46 (by decide) ?_
    refine lv_iadd hx hb dX11_addIdeal_47 ?_
    refine pv_setI 1 (by decide) ?_
    refine va_put (own := RX11) (D := D) (ci := 0) (v := .int 1) (ty := .int) (C := RX11) (T := TX11) (N := 15) hx hb hts inF11 tyX11 tyX11_ok nmX11 hown hK hP hD hS 0 rfl rfl 4 (by decide) (hg w2_41 rfl) (fun _ h9 => h9) rfl (by decide +kernel) rfl rfl (Nat.le_of_ble_eq_true rfl) dX11_addIdeal_48 (fun H locs hP hD hS => ?_)
    have hP : va_P D pv_cl [(h0, .inr (0, [.ref (q 0), .int 0, .int 108, .ref (q 1), .int 1, .ref (q 2), .int 0, .ref (q 3), .ref (q 4), .int 1, .ref (q 5), .ref (q 6), .ref (q 7), .ref (q 8), .ref (q 9)])), ((q 1), .inl (cO, 5, .inr (.inr (.inr (.inr (va_up (fun _ => none) (0 : Int32).toNatClampNeg (some q_4))))))), (q_4, .inr (10, [.int p0, .ref b_6, .int 0, .null, .null, .null]))] _ := hP
    have hD : va_D A [(h0, .inr (0, [.ref (q 0), .int 0, .int 108, .ref (q 1), .int 1, .ref (q 2), .int 0, .ref (q 3), .ref (q 4), .int 1, .ref (q 5), .ref (q 6), .ref (q 7), .ref (q 8), .ref (q 9)])), ((q 1), .inl (cO, 5, .inr (.inr (.inr (.inr (va_up (fun _ => none) (0 : Int32).toNatClampNeg (some q_4))))))), (q_4, .inr (10, [.int p0, .ref b_6, .int 0, .null, .null, .null]))] := hD
    refine vx_ret ?_
    refine W.widen (k := 3) (n := 15) (Nat.le_of_ble_eq_true rfl) (Nat.le_of_ble_eq_true rfl) ?_
    exact W.iret (v := 0) hx hb hr (fun t ht hW => ⟨⟨0, (), rfl, ⟨rfl, a_2⟩, trivial⟩, hS.F ht⟩) hS.2.2 dX11_addIdeal_51

