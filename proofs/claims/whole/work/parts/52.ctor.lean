/-! the constructors of the parts: fresh arrays, all at 0 -/
def wI (y : MethodName) (b : ByteArray) : List Cond := .code y b 1 none :: gtbl
theorem oi_inst : Cond.instanceMethod objectInit ∈ gtbl := by decide +kernel
theorem oi_code : Cond.code objectInit ⟨#[0xb1]⟩ 1 none ∈ gtbl := by decide +kernel
theorem ac_int : Cond.arrayClass .int ∈ gtbl := by decide +kernel
theorem ac_bool : Cond.arrayClass .boolean ∈ gtbl := by decide +kernel
abbrev a0i (n : Nat) : vp_A := (n, .inl (fun _ => 0))
theorem oi_X0 : Cond.methodLink RX0 3 objectInit ∈ gtbl := by decide +kernel
set_option maxHeartbeats 4000000 in
set_option maxRecDepth 100000 in
theorem c_X0 (l : Launch) (D : va_G) (h0 sz : Nat) : Met l yX0_init (wI yX0_init cX0_init) ({ frames := 1, cells := 3, slots := 18, locals := 30 }) (va_Pc [.ref h0] (fun U => U.heap.size = sz ∧ va_P D vwCl [(h0, .inr (0, [.int 0, .int 0, .null, .null, .null]))] U.heap ∧ va_K D vwCl [] U ∧ va_D (fun _ => True) [(h0, .inr (0, [.int 0, .int 0, .null, .null, .null]))])) (va_Qv (fun _ : Unit => True) (fun _ t => ∃ (q1 q2 q3 : Nat) (k1 k2 k3 : ClassId), va_P D vwCl [(h0, .inr (0, [.int 0, .int 0, .ref q1, .ref q2, .ref q3])), (q1, .inl (k1, a0i 6)), (q2, .inl (k2, a0i 6)), (q3, .inl (k3, a0i 6))] t.heap ∧ va_K D vwCl [(k1, .int), (k2, .int), (k3, .int)] t ∧ va_D (va_A [(h0, .inr (0, [.int 0, .int 0, .null, .null, .null]))] sz) [(h0, .inr (0, [.int 0, .int 0, .ref q1, .ref q2, .ref q3])), (q1, .inl (k1, a0i 6)), (q2, .inl (k2, a0i 6)), (q3, .inl (k3, a0i 6))]) (va_A [(h0, .inr (0, [.int 0, .int 0, .null, .null, .null]))] sz)) 3 18 (va_A [(h0, .inr (0, [.int 0, .int 0, .null, .null, .null]))] sz) := by
  refine Met.ofW (cc := cX0_init) (maxL := 1) (ret := none) (by decide) rfl ?_
  intro p e s m args below meth c s₁ B hml hv
  obtain ⟨rfl, hsz, hP, hK, hD0⟩ := hv
  have hx := B.exec
  have hb := B.bytes
  have hr := B.returns
  have hts := atoms_spec (ws := wI yX0_init cX0_init) B.pre
  have htg : ∀ w ∈ gtbl, w.before #[Value.ref h0] s = true := fun w hw => hts w (List.mem_cons_of_mem _ hw)
  have hown : s.vm.findClass RX0 = some m.cls := findClass_of_methodNamed B.named
  have hin : meth.name = "<init>" := (name_of_methodNamed B.named B.method).1
  subst hsz
  have hD := hD0.self (sz := s.heap.size)
  generalize hAe : va_A [(h0, .inr (0, [.int 0, .int 0, .null, .null, .null]))] s.heap.size = A at hD ⊢
  have hA : ∀ q : Nat, s.heap.size ≤ q → A q := fun q h => by rw [← hAe]; exact Or.inr h
  have hS : va_S A s.heap s.heap [] := va_S.rf
  have hl := lv_entry ([.ref h0]) (n := 1) (Nat.le_of_ble_eq_true rfl)
  rw [lg_entry_eq]
  generalize (lg_sl ([.ref h0]) ++ List.replicate (1 - (lg_sl ([.ref h0])).length) Slot.unset).toArray = ls at hl ⊢
  have hl : lv_has ls 1 [(0, .ref h0)] := hl
  refine lv_aload_n hx hb (show decode cX0_init 0 = .ok (.aload_n 0, 1) by decide +kernel) rfl (lv_at hl 0 rfl) ?_
  refine W.objInit hx hb hown (htg _ oi_X0) (htg _ oi_inst) (htg _ oi_code) rfl (by rw [hml]; exact hl.1) rfl (show decode cX0_init 1 = .ok (.invokespecial 3, 3) by decide +kernel) (Nat.le_of_ble_eq_true rfl) (Nat.le_of_ble_eq_true rfl) ?_
  refine W.eq (g2 := F0 m 4 ls []) rfl ?_
  refine lv_aload_n hx hb (show decode cX0_init 4 = .ok (.aload_n 0, 1) by decide +kernel) rfl (lv_at hl 0 rfl) ?_
  refine lv_bipush (v := 6) hx hb (show decode cX0_init 5 = .ok (.bipush 6, 2) by decide +kernel) rfl ?_
  refine va_newa (atype := .int) (a0 := a0i 6) (N' := 6) (ty := .int) hx hb (htg _ ac_int) rfl hK hP hD hS hA (fun _ => rfl) (by decide) (by decide) (by decide) (Nat.le_of_ble_eq_true rfl) (Nat.le_of_ble_eq_true rfl) (show decode cX0_init 7 = .ok (.newarray .int, 2) by decide +kernel) (fun q1 k1 H hK hP hD hS => ?_)
  have hP : va_P D vwCl [(h0, .inr (0, [.int 0, .int 0, .null, .null, .null])), (q1, .inl (k1, a0i 6))] H := hP
  have hD : va_D A [(h0, .inr (0, [.int 0, .int 0, .null, .null, .null])), (q1, .inl (k1, a0i 6))] := hD
  have hK : va_K D vwCl [(k1, .int)] s := hK
  refine va_putF (D := D) (ci := 0) (v := .ref q1) (ty := .array .int) (C := RX0) (T := TX0) (N := 5) hx hb htg (by decide +kernel) tyX0 tyX0_ok nmX0 hown hK hP hD hS 0 rfl rfl 2 (by decide) (htg (.fieldLink RX0 9 RX0 "place" "[I") (by decide +kernel)) (fun _ h9 => h9) rfl hin rfl (by decide +kernel) rfl rfl (Nat.le_of_ble_eq_true rfl) (show decode cX0_init 9 = .ok (.putfield 9, 3) by decide +kernel) (fun H locs hP hD hS => ?_)
  have hP : va_P D vwCl [(h0, .inr (0, [.int 0, .int 0, .ref q1, .null, .null])), (q1, .inl (k1, a0i 6))] H := hP
  have hD : va_D A [(h0, .inr (0, [.int 0, .int 0, .ref q1, .null, .null])), (q1, .inl (k1, a0i 6))] := hD
  refine lv_aload_n hx hb (show decode cX0_init 12 = .ok (.aload_n 0, 1) by decide +kernel) rfl (lv_at hl 0 rfl) ?_
  refine lv_bipush (v := 6) hx hb (show decode cX0_init 13 = .ok (.bipush 6, 2) by decide +kernel) rfl ?_
  refine va_newa (atype := .int) (a0 := a0i 6) (N' := 6) (ty := .int) hx hb (htg _ ac_int) rfl hK hP hD hS hA (fun _ => rfl) (by decide) (by decide) (by decide) (Nat.le_of_ble_eq_true rfl) (Nat.le_of_ble_eq_true rfl) (show decode cX0_init 15 = .ok (.newarray .int, 2) by decide +kernel) (fun q2 k2 H hK hP hD hS => ?_)
  have hP : va_P D vwCl [(h0, .inr (0, [.int 0, .int 0, .ref q1, .null, .null])), (q1, .inl (k1, a0i 6)), (q2, .inl (k2, a0i 6))] H := hP
  have hD : va_D A [(h0, .inr (0, [.int 0, .int 0, .ref q1, .null, .null])), (q1, .inl (k1, a0i 6)), (q2, .inl (k2, a0i 6))] := hD
  have hK : va_K D vwCl [(k1, .int), (k2, .int)] s := hK
  refine va_putF (D := D) (ci := 0) (v := .ref q2) (ty := .array .int) (C := RX0) (T := TX0) (N := 5) hx hb htg (by decide +kernel) tyX0 tyX0_ok nmX0 hown hK hP hD hS 0 rfl rfl 3 (by decide) (htg (.fieldLink RX0 15 RX0 "free" "[I") (by decide +kernel)) (fun _ h9 => h9) rfl hin rfl (by decide +kernel) rfl rfl (Nat.le_of_ble_eq_true rfl) (show decode cX0_init 17 = .ok (.putfield 15, 3) by decide +kernel) (fun H locs hP hD hS => ?_)
  have hP : va_P D vwCl [(h0, .inr (0, [.int 0, .int 0, .ref q1, .ref q2, .null])), (q1, .inl (k1, a0i 6)), (q2, .inl (k2, a0i 6))] H := hP
  have hD : va_D A [(h0, .inr (0, [.int 0, .int 0, .ref q1, .ref q2, .null])), (q1, .inl (k1, a0i 6)), (q2, .inl (k2, a0i 6))] := hD
  refine lv_aload_n hx hb (show decode cX0_init 20 = .ok (.aload_n 0, 1) by decide +kernel) rfl (lv_at hl 0 rfl) ?_
  refine lv_bipush (v := 6) hx hb (show decode cX0_init 21 = .ok (.bipush 6, 2) by decide +kernel) rfl ?_
  refine va_newa (atype := .int) (a0 := a0i 6) (N' := 6) (ty := .int) hx hb (htg _ ac_int) rfl hK hP hD hS hA (fun _ => rfl) (by decide) (by decide) (by decide) (Nat.le_of_ble_eq_true rfl) (Nat.le_of_ble_eq_true rfl) (show decode cX0_init 23 = .ok (.newarray .int, 2) by decide +kernel) (fun q3 k3 H hK hP hD hS => ?_)
  have hP : va_P D vwCl [(h0, .inr (0, [.int 0, .int 0, .ref q1, .ref q2, .null])), (q1, .inl (k1, a0i 6)), (q2, .inl (k2, a0i 6)), (q3, .inl (k3, a0i 6))] H := hP
  have hD : va_D A [(h0, .inr (0, [.int 0, .int 0, .ref q1, .ref q2, .null])), (q1, .inl (k1, a0i 6)), (q2, .inl (k2, a0i 6)), (q3, .inl (k3, a0i 6))] := hD
  have hK : va_K D vwCl [(k1, .int), (k2, .int), (k3, .int)] s := hK
  refine va_putF (D := D) (ci := 0) (v := .ref q3) (ty := .array .int) (C := RX0) (T := TX0) (N := 5) hx hb htg (by decide +kernel) tyX0 tyX0_ok nmX0 hown hK hP hD hS 0 rfl rfl 4 (by decide) (htg (.fieldLink RX0 18 RX0 "orders" "[I") (by decide +kernel)) (fun _ h9 => h9) rfl hin rfl (by decide +kernel) rfl rfl (Nat.le_of_ble_eq_true rfl) (show decode cX0_init 25 = .ok (.putfield 18, 3) by decide +kernel) (fun H locs hP hD hS => ?_)
  have hP : va_P D vwCl [(h0, .inr (0, [.int 0, .int 0, .ref q1, .ref q2, .ref q3])), (q1, .inl (k1, a0i 6)), (q2, .inl (k2, a0i 6)), (q3, .inl (k3, a0i 6))] H := hP
  have hD : va_D A [(h0, .inr (0, [.int 0, .int 0, .ref q1, .ref q2, .ref q3])), (q1, .inl (k1, a0i 6)), (q2, .inl (k2, a0i 6)), (q3, .inl (k3, a0i 6))] := hD
  exact W.vret hx hb hr (fun t ht hW => ⟨⟨(), rfl, trivial, q1, q2, q3, k1, k2, k3, by rw [ht]; exact hP, va_K.moved hW.alike hK, hD⟩, hS.F ht⟩) hS.2.2 (show decode cX0_init 28 = .ok (.return_, 1) by decide +kernel)
theorem oi_X1 : Cond.methodLink RX1 3 objectInit ∈ gtbl := by decide +kernel
set_option maxHeartbeats 4000000 in
set_option maxRecDepth 100000 in
theorem c_X1 (l : Launch) (D : va_G) (h0 sz : Nat) : Met l yX1_init (wI yX1_init cX1_init) ({ frames := 1, cells := 2, slots := 128, locals := 30 }) (va_Pc [.ref h0] (fun U => U.heap.size = sz ∧ va_P D vwCl [(h0, .inr (1, [.null, .null]))] U.heap ∧ va_K D vwCl [] U ∧ va_D (fun _ => True) [(h0, .inr (1, [.null, .null]))])) (va_Qv (fun _ : Unit => True) (fun _ t => ∃ (q1 q2 : Nat) (k1 k2 : ClassId), va_P D vwCl [(h0, .inr (1, [.ref q1, .ref q2])), (q1, .inl (k1, a0i 64)), (q2, .inl (k2, a0i 64))] t.heap ∧ va_K D vwCl [(k1, .int), (k2, .int)] t ∧ va_D (va_A [(h0, .inr (1, [.null, .null]))] sz) [(h0, .inr (1, [.ref q1, .ref q2])), (q1, .inl (k1, a0i 64)), (q2, .inl (k2, a0i 64))]) (va_A [(h0, .inr (1, [.null, .null]))] sz)) 2 128 (va_A [(h0, .inr (1, [.null, .null]))] sz) := by
  refine Met.ofW (cc := cX1_init) (maxL := 1) (ret := none) (by decide) rfl ?_
  intro p e s m args below meth c s₁ B hml hv
  obtain ⟨rfl, hsz, hP, hK, hD0⟩ := hv
  have hx := B.exec
  have hb := B.bytes
  have hr := B.returns
  have hts := atoms_spec (ws := wI yX1_init cX1_init) B.pre
  have htg : ∀ w ∈ gtbl, w.before #[Value.ref h0] s = true := fun w hw => hts w (List.mem_cons_of_mem _ hw)
  have hown : s.vm.findClass RX1 = some m.cls := findClass_of_methodNamed B.named
  have hin : meth.name = "<init>" := (name_of_methodNamed B.named B.method).1
  subst hsz
  have hD := hD0.self (sz := s.heap.size)
  generalize hAe : va_A [(h0, .inr (1, [.null, .null]))] s.heap.size = A at hD ⊢
  have hA : ∀ q : Nat, s.heap.size ≤ q → A q := fun q h => by rw [← hAe]; exact Or.inr h
  have hS : va_S A s.heap s.heap [] := va_S.rf
  have hl := lv_entry ([.ref h0]) (n := 1) (Nat.le_of_ble_eq_true rfl)
  rw [lg_entry_eq]
  generalize (lg_sl ([.ref h0]) ++ List.replicate (1 - (lg_sl ([.ref h0])).length) Slot.unset).toArray = ls at hl ⊢
  have hl : lv_has ls 1 [(0, .ref h0)] := hl
  refine lv_aload_n hx hb (show decode cX1_init 0 = .ok (.aload_n 0, 1) by decide +kernel) rfl (lv_at hl 0 rfl) ?_
  refine W.objInit hx hb hown (htg _ oi_X1) (htg _ oi_inst) (htg _ oi_code) rfl (by rw [hml]; exact hl.1) rfl (show decode cX1_init 1 = .ok (.invokespecial 3, 3) by decide +kernel) (Nat.le_of_ble_eq_true rfl) (Nat.le_of_ble_eq_true rfl) ?_
  refine W.eq (g2 := F0 m 4 ls []) rfl ?_
  refine lv_aload_n hx hb (show decode cX1_init 4 = .ok (.aload_n 0, 1) by decide +kernel) rfl (lv_at hl 0 rfl) ?_
  refine lv_bipush (v := 64) hx hb (show decode cX1_init 5 = .ok (.bipush 64, 2) by decide +kernel) rfl ?_
  refine va_newa (atype := .int) (a0 := a0i 64) (N' := 64) (ty := .int) hx hb (htg _ ac_int) rfl hK hP hD hS hA (fun _ => rfl) (by decide) (by decide) (by decide) (Nat.le_of_ble_eq_true rfl) (Nat.le_of_ble_eq_true rfl) (show decode cX1_init 7 = .ok (.newarray .int, 2) by decide +kernel) (fun q1 k1 H hK hP hD hS => ?_)
  have hP : va_P D vwCl [(h0, .inr (1, [.null, .null])), (q1, .inl (k1, a0i 64))] H := hP
  have hD : va_D A [(h0, .inr (1, [.null, .null])), (q1, .inl (k1, a0i 64))] := hD
  have hK : va_K D vwCl [(k1, .int)] s := hK
  refine va_putF (D := D) (ci := 1) (v := .ref q1) (ty := .array .int) (C := RX1) (T := TX1) (N := 2) hx hb htg (by decide +kernel) tyX1 tyX1_ok nmX1 hown hK hP hD hS 0 rfl rfl 0 (by decide) (htg (.fieldLink RX1 9 RX1 "queue" "[I") (by decide +kernel)) (fun _ h9 => h9) rfl hin rfl (by decide +kernel) rfl rfl (Nat.le_of_ble_eq_true rfl) (show decode cX1_init 9 = .ok (.putfield 9, 3) by decide +kernel) (fun H locs hP hD hS => ?_)
  have hP : va_P D vwCl [(h0, .inr (1, [.ref q1, .null])), (q1, .inl (k1, a0i 64))] H := hP
  have hD : va_D A [(h0, .inr (1, [.ref q1, .null])), (q1, .inl (k1, a0i 64))] := hD
  refine lv_aload_n hx hb (show decode cX1_init 12 = .ok (.aload_n 0, 1) by decide +kernel) rfl (lv_at hl 0 rfl) ?_
  refine lv_bipush (v := 64) hx hb (show decode cX1_init 13 = .ok (.bipush 64, 2) by decide +kernel) rfl ?_
  refine va_newa (atype := .int) (a0 := a0i 64) (N' := 64) (ty := .int) hx hb (htg _ ac_int) rfl hK hP hD hS hA (fun _ => rfl) (by decide) (by decide) (by decide) (Nat.le_of_ble_eq_true rfl) (Nat.le_of_ble_eq_true rfl) (show decode cX1_init 15 = .ok (.newarray .int, 2) by decide +kernel) (fun q2 k2 H hK hP hD hS => ?_)
  have hP : va_P D vwCl [(h0, .inr (1, [.ref q1, .null])), (q1, .inl (k1, a0i 64)), (q2, .inl (k2, a0i 64))] H := hP
  have hD : va_D A [(h0, .inr (1, [.ref q1, .null])), (q1, .inl (k1, a0i 64)), (q2, .inl (k2, a0i 64))] := hD
  have hK : va_K D vwCl [(k1, .int), (k2, .int)] s := hK
  refine va_putF (D := D) (ci := 1) (v := .ref q2) (ty := .array .int) (C := RX1) (T := TX1) (N := 2) hx hb htg (by decide +kernel) tyX1 tyX1_ok nmX1 hown hK hP hD hS 0 rfl rfl 1 (by decide) (htg (.fieldLink RX1 15 RX1 "comes" "[I") (by decide +kernel)) (fun _ h9 => h9) rfl hin rfl (by decide +kernel) rfl rfl (Nat.le_of_ble_eq_true rfl) (show decode cX1_init 17 = .ok (.putfield 15, 3) by decide +kernel) (fun H locs hP hD hS => ?_)
  have hP : va_P D vwCl [(h0, .inr (1, [.ref q1, .ref q2])), (q1, .inl (k1, a0i 64)), (q2, .inl (k2, a0i 64))] H := hP
  have hD : va_D A [(h0, .inr (1, [.ref q1, .ref q2])), (q1, .inl (k1, a0i 64)), (q2, .inl (k2, a0i 64))] := hD
  exact W.vret hx hb hr (fun t ht hW => ⟨⟨(), rfl, trivial, q1, q2, k1, k2, by rw [ht]; exact hP, va_K.moved hW.alike hK, hD⟩, hS.F ht⟩) hS.2.2 (show decode cX1_init 20 = .ok (.return_, 1) by decide +kernel)
theorem oi_X2 : Cond.methodLink RX2 3 objectInit ∈ gtbl := by decide +kernel
set_option maxHeartbeats 4000000 in
set_option maxRecDepth 100000 in
theorem c_X2 (l : Launch) (D : va_G) (h0 sz : Nat) : Met l yX2_init (wI yX2_init cX2_init) ({ frames := 1, cells := 3, slots := 192, locals := 30 }) (va_Pc [.ref h0] (fun U => U.heap.size = sz ∧ va_P D vwCl [(h0, .inr (2, [.int 0, .null, .null, .null]))] U.heap ∧ va_K D vwCl [] U ∧ va_D (fun _ => True) [(h0, .inr (2, [.int 0, .null, .null, .null]))])) (va_Qv (fun _ : Unit => True) (fun _ t => ∃ (q1 q2 q3 : Nat) (k1 k2 k3 : ClassId), va_P D vwCl [(h0, .inr (2, [.int 0, .ref q1, .ref q2, .ref q3])), (q1, .inl (k1, a0i 64)), (q2, .inl (k2, a0i 64)), (q3, .inl (k3, a0i 64))] t.heap ∧ va_K D vwCl [(k1, .int), (k2, .int), (k3, .boolean)] t ∧ va_D (va_A [(h0, .inr (2, [.int 0, .null, .null, .null]))] sz) [(h0, .inr (2, [.int 0, .ref q1, .ref q2, .ref q3])), (q1, .inl (k1, a0i 64)), (q2, .inl (k2, a0i 64)), (q3, .inl (k3, a0i 64))]) (va_A [(h0, .inr (2, [.int 0, .null, .null, .null]))] sz)) 3 192 (va_A [(h0, .inr (2, [.int 0, .null, .null, .null]))] sz) := by
  refine Met.ofW (cc := cX2_init) (maxL := 1) (ret := none) (by decide) rfl ?_
  intro p e s m args below meth c s₁ B hml hv
  obtain ⟨rfl, hsz, hP, hK, hD0⟩ := hv
  have hx := B.exec
  have hb := B.bytes
  have hr := B.returns
  have hts := atoms_spec (ws := wI yX2_init cX2_init) B.pre
  have htg : ∀ w ∈ gtbl, w.before #[Value.ref h0] s = true := fun w hw => hts w (List.mem_cons_of_mem _ hw)
  have hown : s.vm.findClass RX2 = some m.cls := findClass_of_methodNamed B.named
  have hin : meth.name = "<init>" := (name_of_methodNamed B.named B.method).1
  subst hsz
  have hD := hD0.self (sz := s.heap.size)
  generalize hAe : va_A [(h0, .inr (2, [.int 0, .null, .null, .null]))] s.heap.size = A at hD ⊢
  have hA : ∀ q : Nat, s.heap.size ≤ q → A q := fun q h => by rw [← hAe]; exact Or.inr h
  have hS : va_S A s.heap s.heap [] := va_S.rf
  have hl := lv_entry ([.ref h0]) (n := 1) (Nat.le_of_ble_eq_true rfl)
  rw [lg_entry_eq]
  generalize (lg_sl ([.ref h0]) ++ List.replicate (1 - (lg_sl ([.ref h0])).length) Slot.unset).toArray = ls at hl ⊢
  have hl : lv_has ls 1 [(0, .ref h0)] := hl
  refine lv_aload_n hx hb (show decode cX2_init 0 = .ok (.aload_n 0, 1) by decide +kernel) rfl (lv_at hl 0 rfl) ?_
  refine W.objInit hx hb hown (htg _ oi_X2) (htg _ oi_inst) (htg _ oi_code) rfl (by rw [hml]; exact hl.1) rfl (show decode cX2_init 1 = .ok (.invokespecial 3, 3) by decide +kernel) (Nat.le_of_ble_eq_true rfl) (Nat.le_of_ble_eq_true rfl) ?_
  refine W.eq (g2 := F0 m 4 ls []) rfl ?_
  refine lv_aload_n hx hb (show decode cX2_init 4 = .ok (.aload_n 0, 1) by decide +kernel) rfl (lv_at hl 0 rfl) ?_
  refine lv_bipush (v := 64) hx hb (show decode cX2_init 5 = .ok (.bipush 64, 2) by decide +kernel) rfl ?_
  refine va_newa (atype := .int) (a0 := a0i 64) (N' := 64) (ty := .int) hx hb (htg _ ac_int) rfl hK hP hD hS hA (fun _ => rfl) (by decide) (by decide) (by decide) (Nat.le_of_ble_eq_true rfl) (Nat.le_of_ble_eq_true rfl) (show decode cX2_init 7 = .ok (.newarray .int, 2) by decide +kernel) (fun q1 k1 H hK hP hD hS => ?_)
  have hP : va_P D vwCl [(h0, .inr (2, [.int 0, .null, .null, .null])), (q1, .inl (k1, a0i 64))] H := hP
  have hD : va_D A [(h0, .inr (2, [.int 0, .null, .null, .null])), (q1, .inl (k1, a0i 64))] := hD
  have hK : va_K D vwCl [(k1, .int)] s := hK
  refine va_putF (D := D) (ci := 2) (v := .ref q1) (ty := .array .int) (C := RX2) (T := TX2) (N := 4) hx hb htg (by decide +kernel) tyX2 tyX2_ok nmX2 hown hK hP hD hS 0 rfl rfl 1 (by decide) (htg (.fieldLink RX2 9 RX2 "start" "[I") (by decide +kernel)) (fun _ h9 => h9) rfl hin rfl (by decide +kernel) rfl rfl (Nat.le_of_ble_eq_true rfl) (show decode cX2_init 9 = .ok (.putfield 9, 3) by decide +kernel) (fun H locs hP hD hS => ?_)
  have hP : va_P D vwCl [(h0, .inr (2, [.int 0, .ref q1, .null, .null])), (q1, .inl (k1, a0i 64))] H := hP
  have hD : va_D A [(h0, .inr (2, [.int 0, .ref q1, .null, .null])), (q1, .inl (k1, a0i 64))] := hD
  refine lv_aload_n hx hb (show decode cX2_init 12 = .ok (.aload_n 0, 1) by decide +kernel) rfl (lv_at hl 0 rfl) ?_
  refine lv_bipush (v := 64) hx hb (show decode cX2_init 13 = .ok (.bipush 64, 2) by decide +kernel) rfl ?_
  refine va_newa (atype := .int) (a0 := a0i 64) (N' := 64) (ty := .int) hx hb (htg _ ac_int) rfl hK hP hD hS hA (fun _ => rfl) (by decide) (by decide) (by decide) (Nat.le_of_ble_eq_true rfl) (Nat.le_of_ble_eq_true rfl) (show decode cX2_init 15 = .ok (.newarray .int, 2) by decide +kernel) (fun q2 k2 H hK hP hD hS => ?_)
  have hP : va_P D vwCl [(h0, .inr (2, [.int 0, .ref q1, .null, .null])), (q1, .inl (k1, a0i 64)), (q2, .inl (k2, a0i 64))] H := hP
  have hD : va_D A [(h0, .inr (2, [.int 0, .ref q1, .null, .null])), (q1, .inl (k1, a0i 64)), (q2, .inl (k2, a0i 64))] := hD
  have hK : va_K D vwCl [(k1, .int), (k2, .int)] s := hK
  refine va_putF (D := D) (ci := 2) (v := .ref q2) (ty := .array .int) (C := RX2) (T := TX2) (N := 4) hx hb htg (by decide +kernel) tyX2 tyX2_ok nmX2 hown hK hP hD hS 0 rfl rfl 2 (by decide) (htg (.fieldLink RX2 15 RX2 "source" "[I") (by decide +kernel)) (fun _ h9 => h9) rfl hin rfl (by decide +kernel) rfl rfl (Nat.le_of_ble_eq_true rfl) (show decode cX2_init 17 = .ok (.putfield 15, 3) by decide +kernel) (fun H locs hP hD hS => ?_)
  have hP : va_P D vwCl [(h0, .inr (2, [.int 0, .ref q1, .ref q2, .null])), (q1, .inl (k1, a0i 64)), (q2, .inl (k2, a0i 64))] H := hP
  have hD : va_D A [(h0, .inr (2, [.int 0, .ref q1, .ref q2, .null])), (q1, .inl (k1, a0i 64)), (q2, .inl (k2, a0i 64))] := hD
  refine lv_aload_n hx hb (show decode cX2_init 20 = .ok (.aload_n 0, 1) by decide +kernel) rfl (lv_at hl 0 rfl) ?_
  refine lv_bipush (v := 64) hx hb (show decode cX2_init 21 = .ok (.bipush 64, 2) by decide +kernel) rfl ?_
  refine va_newa (atype := .boolean) (a0 := a0i 64) (N' := 64) (ty := .boolean) hx hb (htg _ ac_bool) rfl hK hP hD hS hA (fun _ => rfl) (by decide) (by decide) (by decide) (Nat.le_of_ble_eq_true rfl) (Nat.le_of_ble_eq_true rfl) (show decode cX2_init 23 = .ok (.newarray .boolean, 2) by decide +kernel) (fun q3 k3 H hK hP hD hS => ?_)
  have hP : va_P D vwCl [(h0, .inr (2, [.int 0, .ref q1, .ref q2, .null])), (q1, .inl (k1, a0i 64)), (q2, .inl (k2, a0i 64)), (q3, .inl (k3, a0i 64))] H := hP
  have hD : va_D A [(h0, .inr (2, [.int 0, .ref q1, .ref q2, .null])), (q1, .inl (k1, a0i 64)), (q2, .inl (k2, a0i 64)), (q3, .inl (k3, a0i 64))] := hD
  have hK : va_K D vwCl [(k1, .int), (k2, .int), (k3, .boolean)] s := hK
  refine va_putF (D := D) (ci := 2) (v := .ref q3) (ty := .array .boolean) (C := RX2) (T := TX2) (N := 4) hx hb htg (by decide +kernel) tyX2 tyX2_ok nmX2 hown hK hP hD hS 0 rfl rfl 3 (by decide) (htg (.fieldLink RX2 18 RX2 "gone" "[Z") (by decide +kernel)) (fun _ h9 => h9) rfl hin rfl (by decide +kernel) rfl rfl (Nat.le_of_ble_eq_true rfl) (show decode cX2_init 25 = .ok (.putfield 18, 3) by decide +kernel) (fun H locs hP hD hS => ?_)
  have hP : va_P D vwCl [(h0, .inr (2, [.int 0, .ref q1, .ref q2, .ref q3])), (q1, .inl (k1, a0i 64)), (q2, .inl (k2, a0i 64)), (q3, .inl (k3, a0i 64))] H := hP
  have hD : va_D A [(h0, .inr (2, [.int 0, .ref q1, .ref q2, .ref q3])), (q1, .inl (k1, a0i 64)), (q2, .inl (k2, a0i 64)), (q3, .inl (k3, a0i 64))] := hD
  exact W.vret hx hb hr (fun t ht hW => ⟨⟨(), rfl, trivial, q1, q2, q3, k1, k2, k3, by rw [ht]; exact hP, va_K.moved hW.alike hK, hD⟩, hS.F ht⟩) hS.2.2 (show decode cX2_init 28 = .ok (.return_, 1) by decide +kernel)
theorem oi_X3 : Cond.methodLink RX3 3 objectInit ∈ gtbl := by decide +kernel
set_option maxHeartbeats 4000000 in
set_option maxRecDepth 100000 in
theorem c_X3 (l : Launch) (D : va_G) (h0 sz : Nat) : Met l yX3_init (wI yX3_init cX3_init) ({ frames := 1, cells := 15, slots := 1360, locals := 30 }) (va_Pc [.ref h0] (fun U => U.heap.size = sz ∧ va_P D vwCl [(h0, .inr (3, [.int 0, .int 0, .int 0, .null, .null, .null, .null, .null, .null, .null, .null, .null, .null, .null, .int 0, .null, .null, .null, .null]))] U.heap ∧ va_K D vwCl [] U ∧ va_D (fun _ => True) [(h0, .inr (3, [.int 0, .int 0, .int 0, .null, .null, .null, .null, .null, .null, .null, .null, .null, .null, .null, .int 0, .null, .null, .null, .null]))])) (va_Qv (fun _ : Unit => True) (fun _ t => ∃ (q1 q2 q3 q4 q5 q6 q7 q8 q9 q10 q11 q12 q13 q14 q15 : Nat) (k1 k2 k3 k4 k5 k6 k7 k8 k9 k10 k11 k12 k13 k14 k15 : ClassId), va_P D vwCl [(h0, .inr (3, [.int 0, .int 0, .int 0, .ref q1, .ref q2, .ref q3, .ref q4, .ref q5, .ref q6, .ref q7, .ref q8, .ref q9, .ref q10, .ref q11, .int 0, .ref q12, .ref q13, .ref q14, .ref q15])), (q1, .inl (k1, a0i 64)), (q2, .inl (k2, a0i 64)), (q3, .inl (k3, a0i 64)), (q4, .inl (k4, a0i 64)), (q5, .inl (k5, a0i 64)), (q6, .inl (k6, a0i 64)), (q7, .inl (k7, a0i 64)), (q8, .inl (k8, a0i 64)), (q9, .inl (k9, a0i 64)), (q10, .inl (k10, a0i 512)), (q11, .inl (k11, a0i 64)), (q12, .inl (k12, a0i 64)), (q13, .inl (k13, a0i 64)), (q14, .inl (k14, a0i 40)), (q15, .inl (k15, a0i 40))] t.heap ∧ va_K D vwCl [(k1, .int), (k2, .int), (k3, .int), (k4, .int), (k5, .int), (k6, .int), (k7, .boolean), (k8, .boolean), (k9, .boolean), (k10, .int), (k11, .int), (k12, .int), (k13, .int), (k14, .int), (k15, .int)] t ∧ va_D (va_A [(h0, .inr (3, [.int 0, .int 0, .int 0, .null, .null, .null, .null, .null, .null, .null, .null, .null, .null, .null, .int 0, .null, .null, .null, .null]))] sz) [(h0, .inr (3, [.int 0, .int 0, .int 0, .ref q1, .ref q2, .ref q3, .ref q4, .ref q5, .ref q6, .ref q7, .ref q8, .ref q9, .ref q10, .ref q11, .int 0, .ref q12, .ref q13, .ref q14, .ref q15])), (q1, .inl (k1, a0i 64)), (q2, .inl (k2, a0i 64)), (q3, .inl (k3, a0i 64)), (q4, .inl (k4, a0i 64)), (q5, .inl (k5, a0i 64)), (q6, .inl (k6, a0i 64)), (q7, .inl (k7, a0i 64)), (q8, .inl (k8, a0i 64)), (q9, .inl (k9, a0i 64)), (q10, .inl (k10, a0i 512)), (q11, .inl (k11, a0i 64)), (q12, .inl (k12, a0i 64)), (q13, .inl (k13, a0i 64)), (q14, .inl (k14, a0i 40)), (q15, .inl (k15, a0i 40))]) (va_A [(h0, .inr (3, [.int 0, .int 0, .int 0, .null, .null, .null, .null, .null, .null, .null, .null, .null, .null, .null, .int 0, .null, .null, .null, .null]))] sz)) 15 1360 (va_A [(h0, .inr (3, [.int 0, .int 0, .int 0, .null, .null, .null, .null, .null, .null, .null, .null, .null, .null, .null, .int 0, .null, .null, .null, .null]))] sz) := by
  refine Met.ofW (cc := cX3_init) (maxL := 1) (ret := none) (by decide) rfl ?_
  intro p e s m args below meth c s₁ B hml hv
  obtain ⟨rfl, hsz, hP, hK, hD0⟩ := hv
  have hx := B.exec
  have hb := B.bytes
  have hr := B.returns
  have hts := atoms_spec (ws := wI yX3_init cX3_init) B.pre
  have htg : ∀ w ∈ gtbl, w.before #[Value.ref h0] s = true := fun w hw => hts w (List.mem_cons_of_mem _ hw)
  have hown : s.vm.findClass RX3 = some m.cls := findClass_of_methodNamed B.named
  have hin : meth.name = "<init>" := (name_of_methodNamed B.named B.method).1
  subst hsz
  have hD := hD0.self (sz := s.heap.size)
  generalize hAe : va_A [(h0, .inr (3, [.int 0, .int 0, .int 0, .null, .null, .null, .null, .null, .null, .null, .null, .null, .null, .null, .int 0, .null, .null, .null, .null]))] s.heap.size = A at hD ⊢
  have hA : ∀ q : Nat, s.heap.size ≤ q → A q := fun q h => by rw [← hAe]; exact Or.inr h
  have hS : va_S A s.heap s.heap [] := va_S.rf
  have hl := lv_entry ([.ref h0]) (n := 1) (Nat.le_of_ble_eq_true rfl)
  rw [lg_entry_eq]
  generalize (lg_sl ([.ref h0]) ++ List.replicate (1 - (lg_sl ([.ref h0])).length) Slot.unset).toArray = ls at hl ⊢
  have hl : lv_has ls 1 [(0, .ref h0)] := hl
  refine lv_aload_n hx hb (show decode cX3_init 0 = .ok (.aload_n 0, 1) by decide +kernel) rfl (lv_at hl 0 rfl) ?_
  refine W.objInit hx hb hown (htg _ oi_X3) (htg _ oi_inst) (htg _ oi_code) rfl (by rw [hml]; exact hl.1) rfl (show decode cX3_init 1 = .ok (.invokespecial 3, 3) by decide +kernel) (Nat.le_of_ble_eq_true rfl) (Nat.le_of_ble_eq_true rfl) ?_
  refine W.eq (g2 := F0 m 4 ls []) rfl ?_
  refine lv_aload_n hx hb (show decode cX3_init 4 = .ok (.aload_n 0, 1) by decide +kernel) rfl (lv_at hl 0 rfl) ?_
  refine lv_bipush (v := 64) hx hb (show decode cX3_init 5 = .ok (.bipush 64, 2) by decide +kernel) rfl ?_
  refine va_newa (atype := .int) (a0 := a0i 64) (N' := 64) (ty := .int) hx hb (htg _ ac_int) rfl hK hP hD hS hA (fun _ => rfl) (by decide) (by decide) (by decide) (Nat.le_of_ble_eq_true rfl) (Nat.le_of_ble_eq_true rfl) (show decode cX3_init 7 = .ok (.newarray .int, 2) by decide +kernel) (fun q1 k1 H hK hP hD hS => ?_)
  have hP : va_P D vwCl [(h0, .inr (3, [.int 0, .int 0, .int 0, .null, .null, .null, .null, .null, .null, .null, .null, .null, .null, .null, .int 0, .null, .null, .null, .null])), (q1, .inl (k1, a0i 64))] H := hP
  have hD : va_D A [(h0, .inr (3, [.int 0, .int 0, .int 0, .null, .null, .null, .null, .null, .null, .null, .null, .null, .null, .null, .int 0, .null, .null, .null, .null])), (q1, .inl (k1, a0i 64))] := hD
  have hK : va_K D vwCl [(k1, .int)] s := hK
  refine va_putF (D := D) (ci := 3) (v := .ref q1) (ty := .array .int) (C := RX3) (T := TX3) (N := 19) hx hb htg (by decide +kernel) tyX3 tyX3_ok nmX3 hown hK hP hD hS 0 rfl rfl 3 (by decide) (htg (.fieldLink RX3 9 RX3 "fuel" "[I") (by decide +kernel)) (fun _ h9 => h9) rfl hin rfl (by decide +kernel) rfl rfl (Nat.le_of_ble_eq_true rfl) (show decode cX3_init 9 = .ok (.putfield 9, 3) by decide +kernel) (fun H locs hP hD hS => ?_)
  have hP : va_P D vwCl [(h0, .inr (3, [.int 0, .int 0, .int 0, .ref q1, .null, .null, .null, .null, .null, .null, .null, .null, .null, .null, .int 0, .null, .null, .null, .null])), (q1, .inl (k1, a0i 64))] H := hP
  have hD : va_D A [(h0, .inr (3, [.int 0, .int 0, .int 0, .ref q1, .null, .null, .null, .null, .null, .null, .null, .null, .null, .null, .int 0, .null, .null, .null, .null])), (q1, .inl (k1, a0i 64))] := hD
  refine lv_aload_n hx hb (show decode cX3_init 12 = .ok (.aload_n 0, 1) by decide +kernel) rfl (lv_at hl 0 rfl) ?_
  refine lv_bipush (v := 64) hx hb (show decode cX3_init 13 = .ok (.bipush 64, 2) by decide +kernel) rfl ?_
  refine va_newa (atype := .int) (a0 := a0i 64) (N' := 64) (ty := .int) hx hb (htg _ ac_int) rfl hK hP hD hS hA (fun _ => rfl) (by decide) (by decide) (by decide) (Nat.le_of_ble_eq_true rfl) (Nat.le_of_ble_eq_true rfl) (show decode cX3_init 15 = .ok (.newarray .int, 2) by decide +kernel) (fun q2 k2 H hK hP hD hS => ?_)
  have hP : va_P D vwCl [(h0, .inr (3, [.int 0, .int 0, .int 0, .ref q1, .null, .null, .null, .null, .null, .null, .null, .null, .null, .null, .int 0, .null, .null, .null, .null])), (q1, .inl (k1, a0i 64)), (q2, .inl (k2, a0i 64))] H := hP
  have hD : va_D A [(h0, .inr (3, [.int 0, .int 0, .int 0, .ref q1, .null, .null, .null, .null, .null, .null, .null, .null, .null, .null, .int 0, .null, .null, .null, .null])), (q1, .inl (k1, a0i 64)), (q2, .inl (k2, a0i 64))] := hD
  have hK : va_K D vwCl [(k1, .int), (k2, .int)] s := hK
  refine va_putF (D := D) (ci := 3) (v := .ref q2) (ty := .array .int) (C := RX3) (T := TX3) (N := 19) hx hb htg (by decide +kernel) tyX3 tyX3_ok nmX3 hown hK hP hD hS 0 rfl rfl 4 (by decide) (htg (.fieldLink RX3 15 RX3 "tall" "[I") (by decide +kernel)) (fun _ h9 => h9) rfl hin rfl (by decide +kernel) rfl rfl (Nat.le_of_ble_eq_true rfl) (show decode cX3_init 17 = .ok (.putfield 15, 3) by decide +kernel) (fun H locs hP hD hS => ?_)
  have hP : va_P D vwCl [(h0, .inr (3, [.int 0, .int 0, .int 0, .ref q1, .ref q2, .null, .null, .null, .null, .null, .null, .null, .null, .null, .int 0, .null, .null, .null, .null])), (q1, .inl (k1, a0i 64)), (q2, .inl (k2, a0i 64))] H := hP
  have hD : va_D A [(h0, .inr (3, [.int 0, .int 0, .int 0, .ref q1, .ref q2, .null, .null, .null, .null, .null, .null, .null, .null, .null, .int 0, .null, .null, .null, .null])), (q1, .inl (k1, a0i 64)), (q2, .inl (k2, a0i 64))] := hD
  refine lv_aload_n hx hb (show decode cX3_init 20 = .ok (.aload_n 0, 1) by decide +kernel) rfl (lv_at hl 0 rfl) ?_
  refine lv_bipush (v := 64) hx hb (show decode cX3_init 21 = .ok (.bipush 64, 2) by decide +kernel) rfl ?_
  refine va_newa (atype := .int) (a0 := a0i 64) (N' := 64) (ty := .int) hx hb (htg _ ac_int) rfl hK hP hD hS hA (fun _ => rfl) (by decide) (by decide) (by decide) (Nat.le_of_ble_eq_true rfl) (Nat.le_of_ble_eq_true rfl) (show decode cX3_init 23 = .ok (.newarray .int, 2) by decide +kernel) (fun q3 k3 H hK hP hD hS => ?_)
  have hP : va_P D vwCl [(h0, .inr (3, [.int 0, .int 0, .int 0, .ref q1, .ref q2, .null, .null, .null, .null, .null, .null, .null, .null, .null, .int 0, .null, .null, .null, .null])), (q1, .inl (k1, a0i 64)), (q2, .inl (k2, a0i 64)), (q3, .inl (k3, a0i 64))] H := hP
  have hD : va_D A [(h0, .inr (3, [.int 0, .int 0, .int 0, .ref q1, .ref q2, .null, .null, .null, .null, .null, .null, .null, .null, .null, .int 0, .null, .null, .null, .null])), (q1, .inl (k1, a0i 64)), (q2, .inl (k2, a0i 64)), (q3, .inl (k3, a0i 64))] := hD
  have hK : va_K D vwCl [(k1, .int), (k2, .int), (k3, .int)] s := hK
  refine va_putF (D := D) (ci := 3) (v := .ref q3) (ty := .array .int) (C := RX3) (T := TX3) (N := 19) hx hb htg (by decide +kernel) tyX3 tyX3_ok nmX3 hown hK hP hD hS 0 rfl rfl 5 (by decide) (htg (.fieldLink RX3 18 RX3 "damp" "[I") (by decide +kernel)) (fun _ h9 => h9) rfl hin rfl (by decide +kernel) rfl rfl (Nat.le_of_ble_eq_true rfl) (show decode cX3_init 25 = .ok (.putfield 18, 3) by decide +kernel) (fun H locs hP hD hS => ?_)
  have hP : va_P D vwCl [(h0, .inr (3, [.int 0, .int 0, .int 0, .ref q1, .ref q2, .ref q3, .null, .null, .null, .null, .null, .null, .null, .null, .int 0, .null, .null, .null, .null])), (q1, .inl (k1, a0i 64)), (q2, .inl (k2, a0i 64)), (q3, .inl (k3, a0i 64))] H := hP
  have hD : va_D A [(h0, .inr (3, [.int 0, .int 0, .int 0, .ref q1, .ref q2, .ref q3, .null, .null, .null, .null, .null, .null, .null, .null, .int 0, .null, .null, .null, .null])), (q1, .inl (k1, a0i 64)), (q2, .inl (k2, a0i 64)), (q3, .inl (k3, a0i 64))] := hD
  refine lv_aload_n hx hb (show decode cX3_init 28 = .ok (.aload_n 0, 1) by decide +kernel) rfl (lv_at hl 0 rfl) ?_
  refine lv_bipush (v := 64) hx hb (show decode cX3_init 29 = .ok (.bipush 64, 2) by decide +kernel) rfl ?_
  refine va_newa (atype := .int) (a0 := a0i 64) (N' := 64) (ty := .int) hx hb (htg _ ac_int) rfl hK hP hD hS hA (fun _ => rfl) (by decide) (by decide) (by decide) (Nat.le_of_ble_eq_true rfl) (Nat.le_of_ble_eq_true rfl) (show decode cX3_init 31 = .ok (.newarray .int, 2) by decide +kernel) (fun q4 k4 H hK hP hD hS => ?_)
  have hP : va_P D vwCl [(h0, .inr (3, [.int 0, .int 0, .int 0, .ref q1, .ref q2, .ref q3, .null, .null, .null, .null, .null, .null, .null, .null, .int 0, .null, .null, .null, .null])), (q1, .inl (k1, a0i 64)), (q2, .inl (k2, a0i 64)), (q3, .inl (k3, a0i 64)), (q4, .inl (k4, a0i 64))] H := hP
  have hD : va_D A [(h0, .inr (3, [.int 0, .int 0, .int 0, .ref q1, .ref q2, .ref q3, .null, .null, .null, .null, .null, .null, .null, .null, .int 0, .null, .null, .null, .null])), (q1, .inl (k1, a0i 64)), (q2, .inl (k2, a0i 64)), (q3, .inl (k3, a0i 64)), (q4, .inl (k4, a0i 64))] := hD
  have hK : va_K D vwCl [(k1, .int), (k2, .int), (k3, .int), (k4, .int)] s := hK
  refine va_putF (D := D) (ci := 3) (v := .ref q4) (ty := .array .int) (C := RX3) (T := TX3) (N := 19) hx hb htg (by decide +kernel) tyX3 tyX3_ok nmX3 hown hK hP hD hS 0 rfl rfl 6 (by decide) (htg (.fieldLink RX3 21 RX3 "lit" "[I") (by decide +kernel)) (fun _ h9 => h9) rfl hin rfl (by decide +kernel) rfl rfl (Nat.le_of_ble_eq_true rfl) (show decode cX3_init 33 = .ok (.putfield 21, 3) by decide +kernel) (fun H locs hP hD hS => ?_)
  have hP : va_P D vwCl [(h0, .inr (3, [.int 0, .int 0, .int 0, .ref q1, .ref q2, .ref q3, .ref q4, .null, .null, .null, .null, .null, .null, .null, .int 0, .null, .null, .null, .null])), (q1, .inl (k1, a0i 64)), (q2, .inl (k2, a0i 64)), (q3, .inl (k3, a0i 64)), (q4, .inl (k4, a0i 64))] H := hP
  have hD : va_D A [(h0, .inr (3, [.int 0, .int 0, .int 0, .ref q1, .ref q2, .ref q3, .ref q4, .null, .null, .null, .null, .null, .null, .null, .int 0, .null, .null, .null, .null])), (q1, .inl (k1, a0i 64)), (q2, .inl (k2, a0i 64)), (q3, .inl (k3, a0i 64)), (q4, .inl (k4, a0i 64))] := hD
  refine lv_aload_n hx hb (show decode cX3_init 36 = .ok (.aload_n 0, 1) by decide +kernel) rfl (lv_at hl 0 rfl) ?_
  refine lv_bipush (v := 64) hx hb (show decode cX3_init 37 = .ok (.bipush 64, 2) by decide +kernel) rfl ?_
  refine va_newa (atype := .int) (a0 := a0i 64) (N' := 64) (ty := .int) hx hb (htg _ ac_int) rfl hK hP hD hS hA (fun _ => rfl) (by decide) (by decide) (by decide) (Nat.le_of_ble_eq_true rfl) (Nat.le_of_ble_eq_true rfl) (show decode cX3_init 39 = .ok (.newarray .int, 2) by decide +kernel) (fun q5 k5 H hK hP hD hS => ?_)
  have hP : va_P D vwCl [(h0, .inr (3, [.int 0, .int 0, .int 0, .ref q1, .ref q2, .ref q3, .ref q4, .null, .null, .null, .null, .null, .null, .null, .int 0, .null, .null, .null, .null])), (q1, .inl (k1, a0i 64)), (q2, .inl (k2, a0i 64)), (q3, .inl (k3, a0i 64)), (q4, .inl (k4, a0i 64)), (q5, .inl (k5, a0i 64))] H := hP
  have hD : va_D A [(h0, .inr (3, [.int 0, .int 0, .int 0, .ref q1, .ref q2, .ref q3, .ref q4, .null, .null, .null, .null, .null, .null, .null, .int 0, .null, .null, .null, .null])), (q1, .inl (k1, a0i 64)), (q2, .inl (k2, a0i 64)), (q3, .inl (k3, a0i 64)), (q4, .inl (k4, a0i 64)), (q5, .inl (k5, a0i 64))] := hD
  have hK : va_K D vwCl [(k1, .int), (k2, .int), (k3, .int), (k4, .int), (k5, .int)] s := hK
  refine va_putF (D := D) (ci := 3) (v := .ref q5) (ty := .array .int) (C := RX3) (T := TX3) (N := 19) hx hb htg (by decide +kernel) tyX3 tyX3_ok nmX3 hown hK hP hD hS 0 rfl rfl 7 (by decide) (htg (.fieldLink RX3 24 RX3 "unburnt" "[I") (by decide +kernel)) (fun _ h9 => h9) rfl hin rfl (by decide +kernel) rfl rfl (Nat.le_of_ble_eq_true rfl) (show decode cX3_init 41 = .ok (.putfield 24, 3) by decide +kernel) (fun H locs hP hD hS => ?_)
  have hP : va_P D vwCl [(h0, .inr (3, [.int 0, .int 0, .int 0, .ref q1, .ref q2, .ref q3, .ref q4, .ref q5, .null, .null, .null, .null, .null, .null, .int 0, .null, .null, .null, .null])), (q1, .inl (k1, a0i 64)), (q2, .inl (k2, a0i 64)), (q3, .inl (k3, a0i 64)), (q4, .inl (k4, a0i 64)), (q5, .inl (k5, a0i 64))] H := hP
  have hD : va_D A [(h0, .inr (3, [.int 0, .int 0, .int 0, .ref q1, .ref q2, .ref q3, .ref q4, .ref q5, .null, .null, .null, .null, .null, .null, .int 0, .null, .null, .null, .null])), (q1, .inl (k1, a0i 64)), (q2, .inl (k2, a0i 64)), (q3, .inl (k3, a0i 64)), (q4, .inl (k4, a0i 64)), (q5, .inl (k5, a0i 64))] := hD
  refine lv_aload_n hx hb (show decode cX3_init 44 = .ok (.aload_n 0, 1) by decide +kernel) rfl (lv_at hl 0 rfl) ?_
  refine lv_bipush (v := 64) hx hb (show decode cX3_init 45 = .ok (.bipush 64, 2) by decide +kernel) rfl ?_
  refine va_newa (atype := .int) (a0 := a0i 64) (N' := 64) (ty := .int) hx hb (htg _ ac_int) rfl hK hP hD hS hA (fun _ => rfl) (by decide) (by decide) (by decide) (Nat.le_of_ble_eq_true rfl) (Nat.le_of_ble_eq_true rfl) (show decode cX3_init 47 = .ok (.newarray .int, 2) by decide +kernel) (fun q6 k6 H hK hP hD hS => ?_)
  have hP : va_P D vwCl [(h0, .inr (3, [.int 0, .int 0, .int 0, .ref q1, .ref q2, .ref q3, .ref q4, .ref q5, .null, .null, .null, .null, .null, .null, .int 0, .null, .null, .null, .null])), (q1, .inl (k1, a0i 64)), (q2, .inl (k2, a0i 64)), (q3, .inl (k3, a0i 64)), (q4, .inl (k4, a0i 64)), (q5, .inl (k5, a0i 64)), (q6, .inl (k6, a0i 64))] H := hP
  have hD : va_D A [(h0, .inr (3, [.int 0, .int 0, .int 0, .ref q1, .ref q2, .ref q3, .ref q4, .ref q5, .null, .null, .null, .null, .null, .null, .int 0, .null, .null, .null, .null])), (q1, .inl (k1, a0i 64)), (q2, .inl (k2, a0i 64)), (q3, .inl (k3, a0i 64)), (q4, .inl (k4, a0i 64)), (q5, .inl (k5, a0i 64)), (q6, .inl (k6, a0i 64))] := hD
  have hK : va_K D vwCl [(k1, .int), (k2, .int), (k3, .int), (k4, .int), (k5, .int), (k6, .int)] s := hK
  refine va_putF (D := D) (ci := 3) (v := .ref q6) (ty := .array .int) (C := RX3) (T := TX3) (N := 19) hx hb htg (by decide +kernel) tyX3 tyX3_ok nmX3 hown hK hP hD hS 0 rfl rfl 8 (by decide) (htg (.fieldLink RX3 27 RX3 "cut" "[I") (by decide +kernel)) (fun _ h9 => h9) rfl hin rfl (by decide +kernel) rfl rfl (Nat.le_of_ble_eq_true rfl) (show decode cX3_init 49 = .ok (.putfield 27, 3) by decide +kernel) (fun H locs hP hD hS => ?_)
  have hP : va_P D vwCl [(h0, .inr (3, [.int 0, .int 0, .int 0, .ref q1, .ref q2, .ref q3, .ref q4, .ref q5, .ref q6, .null, .null, .null, .null, .null, .int 0, .null, .null, .null, .null])), (q1, .inl (k1, a0i 64)), (q2, .inl (k2, a0i 64)), (q3, .inl (k3, a0i 64)), (q4, .inl (k4, a0i 64)), (q5, .inl (k5, a0i 64)), (q6, .inl (k6, a0i 64))] H := hP
  have hD : va_D A [(h0, .inr (3, [.int 0, .int 0, .int 0, .ref q1, .ref q2, .ref q3, .ref q4, .ref q5, .ref q6, .null, .null, .null, .null, .null, .int 0, .null, .null, .null, .null])), (q1, .inl (k1, a0i 64)), (q2, .inl (k2, a0i 64)), (q3, .inl (k3, a0i 64)), (q4, .inl (k4, a0i 64)), (q5, .inl (k5, a0i 64)), (q6, .inl (k6, a0i 64))] := hD
  refine lv_aload_n hx hb (show decode cX3_init 52 = .ok (.aload_n 0, 1) by decide +kernel) rfl (lv_at hl 0 rfl) ?_
  refine lv_bipush (v := 64) hx hb (show decode cX3_init 53 = .ok (.bipush 64, 2) by decide +kernel) rfl ?_
  refine va_newa (atype := .boolean) (a0 := a0i 64) (N' := 64) (ty := .boolean) hx hb (htg _ ac_bool) rfl hK hP hD hS hA (fun _ => rfl) (by decide) (by decide) (by decide) (Nat.le_of_ble_eq_true rfl) (Nat.le_of_ble_eq_true rfl) (show decode cX3_init 55 = .ok (.newarray .boolean, 2) by decide +kernel) (fun q7 k7 H hK hP hD hS => ?_)
  have hP : va_P D vwCl [(h0, .inr (3, [.int 0, .int 0, .int 0, .ref q1, .ref q2, .ref q3, .ref q4, .ref q5, .ref q6, .null, .null, .null, .null, .null, .int 0, .null, .null, .null, .null])), (q1, .inl (k1, a0i 64)), (q2, .inl (k2, a0i 64)), (q3, .inl (k3, a0i 64)), (q4, .inl (k4, a0i 64)), (q5, .inl (k5, a0i 64)), (q6, .inl (k6, a0i 64)), (q7, .inl (k7, a0i 64))] H := hP
  have hD : va_D A [(h0, .inr (3, [.int 0, .int 0, .int 0, .ref q1, .ref q2, .ref q3, .ref q4, .ref q5, .ref q6, .null, .null, .null, .null, .null, .int 0, .null, .null, .null, .null])), (q1, .inl (k1, a0i 64)), (q2, .inl (k2, a0i 64)), (q3, .inl (k3, a0i 64)), (q4, .inl (k4, a0i 64)), (q5, .inl (k5, a0i 64)), (q6, .inl (k6, a0i 64)), (q7, .inl (k7, a0i 64))] := hD
  have hK : va_K D vwCl [(k1, .int), (k2, .int), (k3, .int), (k4, .int), (k5, .int), (k6, .int), (k7, .boolean)] s := hK
  refine va_putF (D := D) (ci := 3) (v := .ref q7) (ty := .array .boolean) (C := RX3) (T := TX3) (N := 19) hx hb htg (by decide +kernel) tyX3 tyX3_ok nmX3 hown hK hP hD hS 0 rfl rfl 9 (by decide) (htg (.fieldLink RX3 30 RX3 "isSafe" "[Z") (by decide +kernel)) (fun _ h9 => h9) rfl hin rfl (by decide +kernel) rfl rfl (Nat.le_of_ble_eq_true rfl) (show decode cX3_init 57 = .ok (.putfield 30, 3) by decide +kernel) (fun H locs hP hD hS => ?_)
  have hP : va_P D vwCl [(h0, .inr (3, [.int 0, .int 0, .int 0, .ref q1, .ref q2, .ref q3, .ref q4, .ref q5, .ref q6, .ref q7, .null, .null, .null, .null, .int 0, .null, .null, .null, .null])), (q1, .inl (k1, a0i 64)), (q2, .inl (k2, a0i 64)), (q3, .inl (k3, a0i 64)), (q4, .inl (k4, a0i 64)), (q5, .inl (k5, a0i 64)), (q6, .inl (k6, a0i 64)), (q7, .inl (k7, a0i 64))] H := hP
  have hD : va_D A [(h0, .inr (3, [.int 0, .int 0, .int 0, .ref q1, .ref q2, .ref q3, .ref q4, .ref q5, .ref q6, .ref q7, .null, .null, .null, .null, .int 0, .null, .null, .null, .null])), (q1, .inl (k1, a0i 64)), (q2, .inl (k2, a0i 64)), (q3, .inl (k3, a0i 64)), (q4, .inl (k4, a0i 64)), (q5, .inl (k5, a0i 64)), (q6, .inl (k6, a0i 64)), (q7, .inl (k7, a0i 64))] := hD
  refine lv_aload_n hx hb (show decode cX3_init 60 = .ok (.aload_n 0, 1) by decide +kernel) rfl (lv_at hl 0 rfl) ?_
  refine lv_bipush (v := 64) hx hb (show decode cX3_init 61 = .ok (.bipush 64, 2) by decide +kernel) rfl ?_
  refine va_newa (atype := .boolean) (a0 := a0i 64) (N' := 64) (ty := .boolean) hx hb (htg _ ac_bool) rfl hK hP hD hS hA (fun _ => rfl) (by decide) (by decide) (by decide) (Nat.le_of_ble_eq_true rfl) (Nat.le_of_ble_eq_true rfl) (show decode cX3_init 63 = .ok (.newarray .boolean, 2) by decide +kernel) (fun q8 k8 H hK hP hD hS => ?_)
  have hP : va_P D vwCl [(h0, .inr (3, [.int 0, .int 0, .int 0, .ref q1, .ref q2, .ref q3, .ref q4, .ref q5, .ref q6, .ref q7, .null, .null, .null, .null, .int 0, .null, .null, .null, .null])), (q1, .inl (k1, a0i 64)), (q2, .inl (k2, a0i 64)), (q3, .inl (k3, a0i 64)), (q4, .inl (k4, a0i 64)), (q5, .inl (k5, a0i 64)), (q6, .inl (k6, a0i 64)), (q7, .inl (k7, a0i 64)), (q8, .inl (k8, a0i 64))] H := hP
  have hD : va_D A [(h0, .inr (3, [.int 0, .int 0, .int 0, .ref q1, .ref q2, .ref q3, .ref q4, .ref q5, .ref q6, .ref q7, .null, .null, .null, .null, .int 0, .null, .null, .null, .null])), (q1, .inl (k1, a0i 64)), (q2, .inl (k2, a0i 64)), (q3, .inl (k3, a0i 64)), (q4, .inl (k4, a0i 64)), (q5, .inl (k5, a0i 64)), (q6, .inl (k6, a0i 64)), (q7, .inl (k7, a0i 64)), (q8, .inl (k8, a0i 64))] := hD
  have hK : va_K D vwCl [(k1, .int), (k2, .int), (k3, .int), (k4, .int), (k5, .int), (k6, .int), (k7, .boolean), (k8, .boolean)] s := hK
  refine va_putF (D := D) (ci := 3) (v := .ref q8) (ty := .array .boolean) (C := RX3) (T := TX3) (N := 19) hx hb htg (by decide +kernel) tyX3 tyX3_ok nmX3 hown hK hP hD hS 0 rfl rfl 10 (by decide) (htg (.fieldLink RX3 34 RX3 "isRoad" "[Z") (by decide +kernel)) (fun _ h9 => h9) rfl hin rfl (by decide +kernel) rfl rfl (Nat.le_of_ble_eq_true rfl) (show decode cX3_init 65 = .ok (.putfield 34, 3) by decide +kernel) (fun H locs hP hD hS => ?_)
  have hP : va_P D vwCl [(h0, .inr (3, [.int 0, .int 0, .int 0, .ref q1, .ref q2, .ref q3, .ref q4, .ref q5, .ref q6, .ref q7, .ref q8, .null, .null, .null, .int 0, .null, .null, .null, .null])), (q1, .inl (k1, a0i 64)), (q2, .inl (k2, a0i 64)), (q3, .inl (k3, a0i 64)), (q4, .inl (k4, a0i 64)), (q5, .inl (k5, a0i 64)), (q6, .inl (k6, a0i 64)), (q7, .inl (k7, a0i 64)), (q8, .inl (k8, a0i 64))] H := hP
  have hD : va_D A [(h0, .inr (3, [.int 0, .int 0, .int 0, .ref q1, .ref q2, .ref q3, .ref q4, .ref q5, .ref q6, .ref q7, .ref q8, .null, .null, .null, .int 0, .null, .null, .null, .null])), (q1, .inl (k1, a0i 64)), (q2, .inl (k2, a0i 64)), (q3, .inl (k3, a0i 64)), (q4, .inl (k4, a0i 64)), (q5, .inl (k5, a0i 64)), (q6, .inl (k6, a0i 64)), (q7, .inl (k7, a0i 64)), (q8, .inl (k8, a0i 64))] := hD
  refine lv_aload_n hx hb (show decode cX3_init 68 = .ok (.aload_n 0, 1) by decide +kernel) rfl (lv_at hl 0 rfl) ?_
  refine lv_bipush (v := 64) hx hb (show decode cX3_init 69 = .ok (.bipush 64, 2) by decide +kernel) rfl ?_
  refine va_newa (atype := .boolean) (a0 := a0i 64) (N' := 64) (ty := .boolean) hx hb (htg _ ac_bool) rfl hK hP hD hS hA (fun _ => rfl) (by decide) (by decide) (by decide) (Nat.le_of_ble_eq_true rfl) (Nat.le_of_ble_eq_true rfl) (show decode cX3_init 71 = .ok (.newarray .boolean, 2) by decide +kernel) (fun q9 k9 H hK hP hD hS => ?_)
  have hP : va_P D vwCl [(h0, .inr (3, [.int 0, .int 0, .int 0, .ref q1, .ref q2, .ref q3, .ref q4, .ref q5, .ref q6, .ref q7, .ref q8, .null, .null, .null, .int 0, .null, .null, .null, .null])), (q1, .inl (k1, a0i 64)), (q2, .inl (k2, a0i 64)), (q3, .inl (k3, a0i 64)), (q4, .inl (k4, a0i 64)), (q5, .inl (k5, a0i 64)), (q6, .inl (k6, a0i 64)), (q7, .inl (k7, a0i 64)), (q8, .inl (k8, a0i 64)), (q9, .inl (k9, a0i 64))] H := hP
  have hD : va_D A [(h0, .inr (3, [.int 0, .int 0, .int 0, .ref q1, .ref q2, .ref q3, .ref q4, .ref q5, .ref q6, .ref q7, .ref q8, .null, .null, .null, .int 0, .null, .null, .null, .null])), (q1, .inl (k1, a0i 64)), (q2, .inl (k2, a0i 64)), (q3, .inl (k3, a0i 64)), (q4, .inl (k4, a0i 64)), (q5, .inl (k5, a0i 64)), (q6, .inl (k6, a0i 64)), (q7, .inl (k7, a0i 64)), (q8, .inl (k8, a0i 64)), (q9, .inl (k9, a0i 64))] := hD
  have hK : va_K D vwCl [(k1, .int), (k2, .int), (k3, .int), (k4, .int), (k5, .int), (k6, .int), (k7, .boolean), (k8, .boolean), (k9, .boolean)] s := hK
  refine va_putF (D := D) (ci := 3) (v := .ref q9) (ty := .array .boolean) (C := RX3) (T := TX3) (N := 19) hx hb htg (by decide +kernel) tyX3 tyX3_ok nmX3 hown hK hP hD hS 0 rfl rfl 11 (by decide) (htg (.fieldLink RX3 37 RX3 "isExit" "[Z") (by decide +kernel)) (fun _ h9 => h9) rfl hin rfl (by decide +kernel) rfl rfl (Nat.le_of_ble_eq_true rfl) (show decode cX3_init 73 = .ok (.putfield 37, 3) by decide +kernel) (fun H locs hP hD hS => ?_)
  have hP : va_P D vwCl [(h0, .inr (3, [.int 0, .int 0, .int 0, .ref q1, .ref q2, .ref q3, .ref q4, .ref q5, .ref q6, .ref q7, .ref q8, .ref q9, .null, .null, .int 0, .null, .null, .null, .null])), (q1, .inl (k1, a0i 64)), (q2, .inl (k2, a0i 64)), (q3, .inl (k3, a0i 64)), (q4, .inl (k4, a0i 64)), (q5, .inl (k5, a0i 64)), (q6, .inl (k6, a0i 64)), (q7, .inl (k7, a0i 64)), (q8, .inl (k8, a0i 64)), (q9, .inl (k9, a0i 64))] H := hP
  have hD : va_D A [(h0, .inr (3, [.int 0, .int 0, .int 0, .ref q1, .ref q2, .ref q3, .ref q4, .ref q5, .ref q6, .ref q7, .ref q8, .ref q9, .null, .null, .int 0, .null, .null, .null, .null])), (q1, .inl (k1, a0i 64)), (q2, .inl (k2, a0i 64)), (q3, .inl (k3, a0i 64)), (q4, .inl (k4, a0i 64)), (q5, .inl (k5, a0i 64)), (q6, .inl (k6, a0i 64)), (q7, .inl (k7, a0i 64)), (q8, .inl (k8, a0i 64)), (q9, .inl (k9, a0i 64))] := hD
  refine lv_aload_n hx hb (show decode cX3_init 76 = .ok (.aload_n 0, 1) by decide +kernel) rfl (lv_at hl 0 rfl) ?_
  refine lv_sipush (v := 512) hx hb (show decode cX3_init 77 = .ok (.sipush 512, 3) by decide +kernel) rfl ?_
  refine va_newa (atype := .int) (a0 := a0i 512) (N' := 512) (ty := .int) hx hb (htg _ ac_int) rfl hK hP hD hS hA (fun _ => rfl) (by decide) (by decide) (by decide) (Nat.le_of_ble_eq_true rfl) (Nat.le_of_ble_eq_true rfl) (show decode cX3_init 80 = .ok (.newarray .int, 2) by decide +kernel) (fun q10 k10 H hK hP hD hS => ?_)
  have hP : va_P D vwCl [(h0, .inr (3, [.int 0, .int 0, .int 0, .ref q1, .ref q2, .ref q3, .ref q4, .ref q5, .ref q6, .ref q7, .ref q8, .ref q9, .null, .null, .int 0, .null, .null, .null, .null])), (q1, .inl (k1, a0i 64)), (q2, .inl (k2, a0i 64)), (q3, .inl (k3, a0i 64)), (q4, .inl (k4, a0i 64)), (q5, .inl (k5, a0i 64)), (q6, .inl (k6, a0i 64)), (q7, .inl (k7, a0i 64)), (q8, .inl (k8, a0i 64)), (q9, .inl (k9, a0i 64)), (q10, .inl (k10, a0i 512))] H := hP
  have hD : va_D A [(h0, .inr (3, [.int 0, .int 0, .int 0, .ref q1, .ref q2, .ref q3, .ref q4, .ref q5, .ref q6, .ref q7, .ref q8, .ref q9, .null, .null, .int 0, .null, .null, .null, .null])), (q1, .inl (k1, a0i 64)), (q2, .inl (k2, a0i 64)), (q3, .inl (k3, a0i 64)), (q4, .inl (k4, a0i 64)), (q5, .inl (k5, a0i 64)), (q6, .inl (k6, a0i 64)), (q7, .inl (k7, a0i 64)), (q8, .inl (k8, a0i 64)), (q9, .inl (k9, a0i 64)), (q10, .inl (k10, a0i 512))] := hD
  have hK : va_K D vwCl [(k1, .int), (k2, .int), (k3, .int), (k4, .int), (k5, .int), (k6, .int), (k7, .boolean), (k8, .boolean), (k9, .boolean), (k10, .int)] s := hK
  refine va_putF (D := D) (ci := 3) (v := .ref q10) (ty := .array .int) (C := RX3) (T := TX3) (N := 19) hx hb htg (by decide +kernel) tyX3 tyX3_ok nmX3 hown hK hP hD hS 0 rfl rfl 12 (by decide) (htg (.fieldLink RX3 40 RX3 "beside" "[I") (by decide +kernel)) (fun _ h9 => h9) rfl hin rfl (by decide +kernel) rfl rfl (Nat.le_of_ble_eq_true rfl) (show decode cX3_init 82 = .ok (.putfield 40, 3) by decide +kernel) (fun H locs hP hD hS => ?_)
  have hP : va_P D vwCl [(h0, .inr (3, [.int 0, .int 0, .int 0, .ref q1, .ref q2, .ref q3, .ref q4, .ref q5, .ref q6, .ref q7, .ref q8, .ref q9, .ref q10, .null, .int 0, .null, .null, .null, .null])), (q1, .inl (k1, a0i 64)), (q2, .inl (k2, a0i 64)), (q3, .inl (k3, a0i 64)), (q4, .inl (k4, a0i 64)), (q5, .inl (k5, a0i 64)), (q6, .inl (k6, a0i 64)), (q7, .inl (k7, a0i 64)), (q8, .inl (k8, a0i 64)), (q9, .inl (k9, a0i 64)), (q10, .inl (k10, a0i 512))] H := hP
  have hD : va_D A [(h0, .inr (3, [.int 0, .int 0, .int 0, .ref q1, .ref q2, .ref q3, .ref q4, .ref q5, .ref q6, .ref q7, .ref q8, .ref q9, .ref q10, .null, .int 0, .null, .null, .null, .null])), (q1, .inl (k1, a0i 64)), (q2, .inl (k2, a0i 64)), (q3, .inl (k3, a0i 64)), (q4, .inl (k4, a0i 64)), (q5, .inl (k5, a0i 64)), (q6, .inl (k6, a0i 64)), (q7, .inl (k7, a0i 64)), (q8, .inl (k8, a0i 64)), (q9, .inl (k9, a0i 64)), (q10, .inl (k10, a0i 512))] := hD
  refine lv_aload_n hx hb (show decode cX3_init 85 = .ok (.aload_n 0, 1) by decide +kernel) rfl (lv_at hl 0 rfl) ?_
  refine lv_bipush (v := 64) hx hb (show decode cX3_init 86 = .ok (.bipush 64, 2) by decide +kernel) rfl ?_
  refine va_newa (atype := .int) (a0 := a0i 64) (N' := 64) (ty := .int) hx hb (htg _ ac_int) rfl hK hP hD hS hA (fun _ => rfl) (by decide) (by decide) (by decide) (Nat.le_of_ble_eq_true rfl) (Nat.le_of_ble_eq_true rfl) (show decode cX3_init 88 = .ok (.newarray .int, 2) by decide +kernel) (fun q11 k11 H hK hP hD hS => ?_)
  have hP : va_P D vwCl [(h0, .inr (3, [.int 0, .int 0, .int 0, .ref q1, .ref q2, .ref q3, .ref q4, .ref q5, .ref q6, .ref q7, .ref q8, .ref q9, .ref q10, .null, .int 0, .null, .null, .null, .null])), (q1, .inl (k1, a0i 64)), (q2, .inl (k2, a0i 64)), (q3, .inl (k3, a0i 64)), (q4, .inl (k4, a0i 64)), (q5, .inl (k5, a0i 64)), (q6, .inl (k6, a0i 64)), (q7, .inl (k7, a0i 64)), (q8, .inl (k8, a0i 64)), (q9, .inl (k9, a0i 64)), (q10, .inl (k10, a0i 512)), (q11, .inl (k11, a0i 64))] H := hP
  have hD : va_D A [(h0, .inr (3, [.int 0, .int 0, .int 0, .ref q1, .ref q2, .ref q3, .ref q4, .ref q5, .ref q6, .ref q7, .ref q8, .ref q9, .ref q10, .null, .int 0, .null, .null, .null, .null])), (q1, .inl (k1, a0i 64)), (q2, .inl (k2, a0i 64)), (q3, .inl (k3, a0i 64)), (q4, .inl (k4, a0i 64)), (q5, .inl (k5, a0i 64)), (q6, .inl (k6, a0i 64)), (q7, .inl (k7, a0i 64)), (q8, .inl (k8, a0i 64)), (q9, .inl (k9, a0i 64)), (q10, .inl (k10, a0i 512)), (q11, .inl (k11, a0i 64))] := hD
  have hK : va_K D vwCl [(k1, .int), (k2, .int), (k3, .int), (k4, .int), (k5, .int), (k6, .int), (k7, .boolean), (k8, .boolean), (k9, .boolean), (k10, .int), (k11, .int)] s := hK
  refine va_putF (D := D) (ci := 3) (v := .ref q11) (ty := .array .int) (C := RX3) (T := TX3) (N := 19) hx hb htg (by decide +kernel) tyX3 tyX3_ok nmX3 hown hK hP hD hS 0 rfl rfl 13 (by decide) (htg (.fieldLink RX3 43 RX3 "rowOf" "[I") (by decide +kernel)) (fun _ h9 => h9) rfl hin rfl (by decide +kernel) rfl rfl (Nat.le_of_ble_eq_true rfl) (show decode cX3_init 90 = .ok (.putfield 43, 3) by decide +kernel) (fun H locs hP hD hS => ?_)
  have hP : va_P D vwCl [(h0, .inr (3, [.int 0, .int 0, .int 0, .ref q1, .ref q2, .ref q3, .ref q4, .ref q5, .ref q6, .ref q7, .ref q8, .ref q9, .ref q10, .ref q11, .int 0, .null, .null, .null, .null])), (q1, .inl (k1, a0i 64)), (q2, .inl (k2, a0i 64)), (q3, .inl (k3, a0i 64)), (q4, .inl (k4, a0i 64)), (q5, .inl (k5, a0i 64)), (q6, .inl (k6, a0i 64)), (q7, .inl (k7, a0i 64)), (q8, .inl (k8, a0i 64)), (q9, .inl (k9, a0i 64)), (q10, .inl (k10, a0i 512)), (q11, .inl (k11, a0i 64))] H := hP
  have hD : va_D A [(h0, .inr (3, [.int 0, .int 0, .int 0, .ref q1, .ref q2, .ref q3, .ref q4, .ref q5, .ref q6, .ref q7, .ref q8, .ref q9, .ref q10, .ref q11, .int 0, .null, .null, .null, .null])), (q1, .inl (k1, a0i 64)), (q2, .inl (k2, a0i 64)), (q3, .inl (k3, a0i 64)), (q4, .inl (k4, a0i 64)), (q5, .inl (k5, a0i 64)), (q6, .inl (k6, a0i 64)), (q7, .inl (k7, a0i 64)), (q8, .inl (k8, a0i 64)), (q9, .inl (k9, a0i 64)), (q10, .inl (k10, a0i 512)), (q11, .inl (k11, a0i 64))] := hD
  refine lv_aload_n hx hb (show decode cX3_init 93 = .ok (.aload_n 0, 1) by decide +kernel) rfl (lv_at hl 0 rfl) ?_
  refine lv_bipush (v := 64) hx hb (show decode cX3_init 94 = .ok (.bipush 64, 2) by decide +kernel) rfl ?_
  refine va_newa (atype := .int) (a0 := a0i 64) (N' := 64) (ty := .int) hx hb (htg _ ac_int) rfl hK hP hD hS hA (fun _ => rfl) (by decide) (by decide) (by decide) (Nat.le_of_ble_eq_true rfl) (Nat.le_of_ble_eq_true rfl) (show decode cX3_init 96 = .ok (.newarray .int, 2) by decide +kernel) (fun q12 k12 H hK hP hD hS => ?_)
  have hP : va_P D vwCl [(h0, .inr (3, [.int 0, .int 0, .int 0, .ref q1, .ref q2, .ref q3, .ref q4, .ref q5, .ref q6, .ref q7, .ref q8, .ref q9, .ref q10, .ref q11, .int 0, .null, .null, .null, .null])), (q1, .inl (k1, a0i 64)), (q2, .inl (k2, a0i 64)), (q3, .inl (k3, a0i 64)), (q4, .inl (k4, a0i 64)), (q5, .inl (k5, a0i 64)), (q6, .inl (k6, a0i 64)), (q7, .inl (k7, a0i 64)), (q8, .inl (k8, a0i 64)), (q9, .inl (k9, a0i 64)), (q10, .inl (k10, a0i 512)), (q11, .inl (k11, a0i 64)), (q12, .inl (k12, a0i 64))] H := hP
  have hD : va_D A [(h0, .inr (3, [.int 0, .int 0, .int 0, .ref q1, .ref q2, .ref q3, .ref q4, .ref q5, .ref q6, .ref q7, .ref q8, .ref q9, .ref q10, .ref q11, .int 0, .null, .null, .null, .null])), (q1, .inl (k1, a0i 64)), (q2, .inl (k2, a0i 64)), (q3, .inl (k3, a0i 64)), (q4, .inl (k4, a0i 64)), (q5, .inl (k5, a0i 64)), (q6, .inl (k6, a0i 64)), (q7, .inl (k7, a0i 64)), (q8, .inl (k8, a0i 64)), (q9, .inl (k9, a0i 64)), (q10, .inl (k10, a0i 512)), (q11, .inl (k11, a0i 64)), (q12, .inl (k12, a0i 64))] := hD
  have hK : va_K D vwCl [(k1, .int), (k2, .int), (k3, .int), (k4, .int), (k5, .int), (k6, .int), (k7, .boolean), (k8, .boolean), (k9, .boolean), (k10, .int), (k11, .int), (k12, .int)] s := hK
  refine va_putF (D := D) (ci := 3) (v := .ref q12) (ty := .array .int) (C := RX3) (T := TX3) (N := 19) hx hb htg (by decide +kernel) tyX3 tyX3_ok nmX3 hown hK hP hD hS 0 rfl rfl 15 (by decide) (htg (.fieldLink RX3 46 RX3 "dropsOver" "[I") (by decide +kernel)) (fun _ h9 => h9) rfl hin rfl (by decide +kernel) rfl rfl (Nat.le_of_ble_eq_true rfl) (show decode cX3_init 98 = .ok (.putfield 46, 3) by decide +kernel) (fun H locs hP hD hS => ?_)
  have hP : va_P D vwCl [(h0, .inr (3, [.int 0, .int 0, .int 0, .ref q1, .ref q2, .ref q3, .ref q4, .ref q5, .ref q6, .ref q7, .ref q8, .ref q9, .ref q10, .ref q11, .int 0, .ref q12, .null, .null, .null])), (q1, .inl (k1, a0i 64)), (q2, .inl (k2, a0i 64)), (q3, .inl (k3, a0i 64)), (q4, .inl (k4, a0i 64)), (q5, .inl (k5, a0i 64)), (q6, .inl (k6, a0i 64)), (q7, .inl (k7, a0i 64)), (q8, .inl (k8, a0i 64)), (q9, .inl (k9, a0i 64)), (q10, .inl (k10, a0i 512)), (q11, .inl (k11, a0i 64)), (q12, .inl (k12, a0i 64))] H := hP
  have hD : va_D A [(h0, .inr (3, [.int 0, .int 0, .int 0, .ref q1, .ref q2, .ref q3, .ref q4, .ref q5, .ref q6, .ref q7, .ref q8, .ref q9, .ref q10, .ref q11, .int 0, .ref q12, .null, .null, .null])), (q1, .inl (k1, a0i 64)), (q2, .inl (k2, a0i 64)), (q3, .inl (k3, a0i 64)), (q4, .inl (k4, a0i 64)), (q5, .inl (k5, a0i 64)), (q6, .inl (k6, a0i 64)), (q7, .inl (k7, a0i 64)), (q8, .inl (k8, a0i 64)), (q9, .inl (k9, a0i 64)), (q10, .inl (k10, a0i 512)), (q11, .inl (k11, a0i 64)), (q12, .inl (k12, a0i 64))] := hD
  refine lv_aload_n hx hb (show decode cX3_init 101 = .ok (.aload_n 0, 1) by decide +kernel) rfl (lv_at hl 0 rfl) ?_
  refine lv_bipush (v := 64) hx hb (show decode cX3_init 102 = .ok (.bipush 64, 2) by decide +kernel) rfl ?_
  refine va_newa (atype := .int) (a0 := a0i 64) (N' := 64) (ty := .int) hx hb (htg _ ac_int) rfl hK hP hD hS hA (fun _ => rfl) (by decide) (by decide) (by decide) (Nat.le_of_ble_eq_true rfl) (Nat.le_of_ble_eq_true rfl) (show decode cX3_init 104 = .ok (.newarray .int, 2) by decide +kernel) (fun q13 k13 H hK hP hD hS => ?_)
  have hP : va_P D vwCl [(h0, .inr (3, [.int 0, .int 0, .int 0, .ref q1, .ref q2, .ref q3, .ref q4, .ref q5, .ref q6, .ref q7, .ref q8, .ref q9, .ref q10, .ref q11, .int 0, .ref q12, .null, .null, .null])), (q1, .inl (k1, a0i 64)), (q2, .inl (k2, a0i 64)), (q3, .inl (k3, a0i 64)), (q4, .inl (k4, a0i 64)), (q5, .inl (k5, a0i 64)), (q6, .inl (k6, a0i 64)), (q7, .inl (k7, a0i 64)), (q8, .inl (k8, a0i 64)), (q9, .inl (k9, a0i 64)), (q10, .inl (k10, a0i 512)), (q11, .inl (k11, a0i 64)), (q12, .inl (k12, a0i 64)), (q13, .inl (k13, a0i 64))] H := hP
  have hD : va_D A [(h0, .inr (3, [.int 0, .int 0, .int 0, .ref q1, .ref q2, .ref q3, .ref q4, .ref q5, .ref q6, .ref q7, .ref q8, .ref q9, .ref q10, .ref q11, .int 0, .ref q12, .null, .null, .null])), (q1, .inl (k1, a0i 64)), (q2, .inl (k2, a0i 64)), (q3, .inl (k3, a0i 64)), (q4, .inl (k4, a0i 64)), (q5, .inl (k5, a0i 64)), (q6, .inl (k6, a0i 64)), (q7, .inl (k7, a0i 64)), (q8, .inl (k8, a0i 64)), (q9, .inl (k9, a0i 64)), (q10, .inl (k10, a0i 512)), (q11, .inl (k11, a0i 64)), (q12, .inl (k12, a0i 64)), (q13, .inl (k13, a0i 64))] := hD
  have hK : va_K D vwCl [(k1, .int), (k2, .int), (k3, .int), (k4, .int), (k5, .int), (k6, .int), (k7, .boolean), (k8, .boolean), (k9, .boolean), (k10, .int), (k11, .int), (k12, .int), (k13, .int)] s := hK
  refine va_putF (D := D) (ci := 3) (v := .ref q13) (ty := .array .int) (C := RX3) (T := TX3) (N := 19) hx hb htg (by decide +kernel) tyX3 tyX3_ok nmX3 hown hK hP hD hS 0 rfl rfl 16 (by decide) (htg (.fieldLink RX3 49 RX3 "newestDrop" "[I") (by decide +kernel)) (fun _ h9 => h9) rfl hin rfl (by decide +kernel) rfl rfl (Nat.le_of_ble_eq_true rfl) (show decode cX3_init 106 = .ok (.putfield 49, 3) by decide +kernel) (fun H locs hP hD hS => ?_)
  have hP : va_P D vwCl [(h0, .inr (3, [.int 0, .int 0, .int 0, .ref q1, .ref q2, .ref q3, .ref q4, .ref q5, .ref q6, .ref q7, .ref q8, .ref q9, .ref q10, .ref q11, .int 0, .ref q12, .ref q13, .null, .null])), (q1, .inl (k1, a0i 64)), (q2, .inl (k2, a0i 64)), (q3, .inl (k3, a0i 64)), (q4, .inl (k4, a0i 64)), (q5, .inl (k5, a0i 64)), (q6, .inl (k6, a0i 64)), (q7, .inl (k7, a0i 64)), (q8, .inl (k8, a0i 64)), (q9, .inl (k9, a0i 64)), (q10, .inl (k10, a0i 512)), (q11, .inl (k11, a0i 64)), (q12, .inl (k12, a0i 64)), (q13, .inl (k13, a0i 64))] H := hP
  have hD : va_D A [(h0, .inr (3, [.int 0, .int 0, .int 0, .ref q1, .ref q2, .ref q3, .ref q4, .ref q5, .ref q6, .ref q7, .ref q8, .ref q9, .ref q10, .ref q11, .int 0, .ref q12, .ref q13, .null, .null])), (q1, .inl (k1, a0i 64)), (q2, .inl (k2, a0i 64)), (q3, .inl (k3, a0i 64)), (q4, .inl (k4, a0i 64)), (q5, .inl (k5, a0i 64)), (q6, .inl (k6, a0i 64)), (q7, .inl (k7, a0i 64)), (q8, .inl (k8, a0i 64)), (q9, .inl (k9, a0i 64)), (q10, .inl (k10, a0i 512)), (q11, .inl (k11, a0i 64)), (q12, .inl (k12, a0i 64)), (q13, .inl (k13, a0i 64))] := hD
  refine lv_aload_n hx hb (show decode cX3_init 109 = .ok (.aload_n 0, 1) by decide +kernel) rfl (lv_at hl 0 rfl) ?_
  refine lv_bipush (v := 40) hx hb (show decode cX3_init 110 = .ok (.bipush 40, 2) by decide +kernel) rfl ?_
  refine va_newa (atype := .int) (a0 := a0i 40) (N' := 40) (ty := .int) hx hb (htg _ ac_int) rfl hK hP hD hS hA (fun _ => rfl) (by decide) (by decide) (by decide) (Nat.le_of_ble_eq_true rfl) (Nat.le_of_ble_eq_true rfl) (show decode cX3_init 112 = .ok (.newarray .int, 2) by decide +kernel) (fun q14 k14 H hK hP hD hS => ?_)
  have hP : va_P D vwCl [(h0, .inr (3, [.int 0, .int 0, .int 0, .ref q1, .ref q2, .ref q3, .ref q4, .ref q5, .ref q6, .ref q7, .ref q8, .ref q9, .ref q10, .ref q11, .int 0, .ref q12, .ref q13, .null, .null])), (q1, .inl (k1, a0i 64)), (q2, .inl (k2, a0i 64)), (q3, .inl (k3, a0i 64)), (q4, .inl (k4, a0i 64)), (q5, .inl (k5, a0i 64)), (q6, .inl (k6, a0i 64)), (q7, .inl (k7, a0i 64)), (q8, .inl (k8, a0i 64)), (q9, .inl (k9, a0i 64)), (q10, .inl (k10, a0i 512)), (q11, .inl (k11, a0i 64)), (q12, .inl (k12, a0i 64)), (q13, .inl (k13, a0i 64)), (q14, .inl (k14, a0i 40))] H := hP
  have hD : va_D A [(h0, .inr (3, [.int 0, .int 0, .int 0, .ref q1, .ref q2, .ref q3, .ref q4, .ref q5, .ref q6, .ref q7, .ref q8, .ref q9, .ref q10, .ref q11, .int 0, .ref q12, .ref q13, .null, .null])), (q1, .inl (k1, a0i 64)), (q2, .inl (k2, a0i 64)), (q3, .inl (k3, a0i 64)), (q4, .inl (k4, a0i 64)), (q5, .inl (k5, a0i 64)), (q6, .inl (k6, a0i 64)), (q7, .inl (k7, a0i 64)), (q8, .inl (k8, a0i 64)), (q9, .inl (k9, a0i 64)), (q10, .inl (k10, a0i 512)), (q11, .inl (k11, a0i 64)), (q12, .inl (k12, a0i 64)), (q13, .inl (k13, a0i 64)), (q14, .inl (k14, a0i 40))] := hD
  have hK : va_K D vwCl [(k1, .int), (k2, .int), (k3, .int), (k4, .int), (k5, .int), (k6, .int), (k7, .boolean), (k8, .boolean), (k9, .boolean), (k10, .int), (k11, .int), (k12, .int), (k13, .int), (k14, .int)] s := hK
  refine va_putF (D := D) (ci := 3) (v := .ref q14) (ty := .array .int) (C := RX3) (T := TX3) (N := 19) hx hb htg (by decide +kernel) tyX3 tyX3_ok nmX3 hown hK hP hD hS 0 rfl rfl 17 (by decide) (htg (.fieldLink RX3 52 RX3 "dropBefore" "[I") (by decide +kernel)) (fun _ h9 => h9) rfl hin rfl (by decide +kernel) rfl rfl (Nat.le_of_ble_eq_true rfl) (show decode cX3_init 114 = .ok (.putfield 52, 3) by decide +kernel) (fun H locs hP hD hS => ?_)
  have hP : va_P D vwCl [(h0, .inr (3, [.int 0, .int 0, .int 0, .ref q1, .ref q2, .ref q3, .ref q4, .ref q5, .ref q6, .ref q7, .ref q8, .ref q9, .ref q10, .ref q11, .int 0, .ref q12, .ref q13, .ref q14, .null])), (q1, .inl (k1, a0i 64)), (q2, .inl (k2, a0i 64)), (q3, .inl (k3, a0i 64)), (q4, .inl (k4, a0i 64)), (q5, .inl (k5, a0i 64)), (q6, .inl (k6, a0i 64)), (q7, .inl (k7, a0i 64)), (q8, .inl (k8, a0i 64)), (q9, .inl (k9, a0i 64)), (q10, .inl (k10, a0i 512)), (q11, .inl (k11, a0i 64)), (q12, .inl (k12, a0i 64)), (q13, .inl (k13, a0i 64)), (q14, .inl (k14, a0i 40))] H := hP
  have hD : va_D A [(h0, .inr (3, [.int 0, .int 0, .int 0, .ref q1, .ref q2, .ref q3, .ref q4, .ref q5, .ref q6, .ref q7, .ref q8, .ref q9, .ref q10, .ref q11, .int 0, .ref q12, .ref q13, .ref q14, .null])), (q1, .inl (k1, a0i 64)), (q2, .inl (k2, a0i 64)), (q3, .inl (k3, a0i 64)), (q4, .inl (k4, a0i 64)), (q5, .inl (k5, a0i 64)), (q6, .inl (k6, a0i 64)), (q7, .inl (k7, a0i 64)), (q8, .inl (k8, a0i 64)), (q9, .inl (k9, a0i 64)), (q10, .inl (k10, a0i 512)), (q11, .inl (k11, a0i 64)), (q12, .inl (k12, a0i 64)), (q13, .inl (k13, a0i 64)), (q14, .inl (k14, a0i 40))] := hD
  refine lv_aload_n hx hb (show decode cX3_init 117 = .ok (.aload_n 0, 1) by decide +kernel) rfl (lv_at hl 0 rfl) ?_
  refine lv_bipush (v := 40) hx hb (show decode cX3_init 118 = .ok (.bipush 40, 2) by decide +kernel) rfl ?_
  refine va_newa (atype := .int) (a0 := a0i 40) (N' := 40) (ty := .int) hx hb (htg _ ac_int) rfl hK hP hD hS hA (fun _ => rfl) (by decide) (by decide) (by decide) (Nat.le_of_ble_eq_true rfl) (Nat.le_of_ble_eq_true rfl) (show decode cX3_init 120 = .ok (.newarray .int, 2) by decide +kernel) (fun q15 k15 H hK hP hD hS => ?_)
  have hP : va_P D vwCl [(h0, .inr (3, [.int 0, .int 0, .int 0, .ref q1, .ref q2, .ref q3, .ref q4, .ref q5, .ref q6, .ref q7, .ref q8, .ref q9, .ref q10, .ref q11, .int 0, .ref q12, .ref q13, .ref q14, .null])), (q1, .inl (k1, a0i 64)), (q2, .inl (k2, a0i 64)), (q3, .inl (k3, a0i 64)), (q4, .inl (k4, a0i 64)), (q5, .inl (k5, a0i 64)), (q6, .inl (k6, a0i 64)), (q7, .inl (k7, a0i 64)), (q8, .inl (k8, a0i 64)), (q9, .inl (k9, a0i 64)), (q10, .inl (k10, a0i 512)), (q11, .inl (k11, a0i 64)), (q12, .inl (k12, a0i 64)), (q13, .inl (k13, a0i 64)), (q14, .inl (k14, a0i 40)), (q15, .inl (k15, a0i 40))] H := hP
  have hD : va_D A [(h0, .inr (3, [.int 0, .int 0, .int 0, .ref q1, .ref q2, .ref q3, .ref q4, .ref q5, .ref q6, .ref q7, .ref q8, .ref q9, .ref q10, .ref q11, .int 0, .ref q12, .ref q13, .ref q14, .null])), (q1, .inl (k1, a0i 64)), (q2, .inl (k2, a0i 64)), (q3, .inl (k3, a0i 64)), (q4, .inl (k4, a0i 64)), (q5, .inl (k5, a0i 64)), (q6, .inl (k6, a0i 64)), (q7, .inl (k7, a0i 64)), (q8, .inl (k8, a0i 64)), (q9, .inl (k9, a0i 64)), (q10, .inl (k10, a0i 512)), (q11, .inl (k11, a0i 64)), (q12, .inl (k12, a0i 64)), (q13, .inl (k13, a0i 64)), (q14, .inl (k14, a0i 40)), (q15, .inl (k15, a0i 40))] := hD
  have hK : va_K D vwCl [(k1, .int), (k2, .int), (k3, .int), (k4, .int), (k5, .int), (k6, .int), (k7, .boolean), (k8, .boolean), (k9, .boolean), (k10, .int), (k11, .int), (k12, .int), (k13, .int), (k14, .int), (k15, .int)] s := hK
  refine va_putF (D := D) (ci := 3) (v := .ref q15) (ty := .array .int) (C := RX3) (T := TX3) (N := 19) hx hb htg (by decide +kernel) tyX3 tyX3_ok nmX3 hown hK hP hD hS 0 rfl rfl 18 (by decide) (htg (.fieldLink RX3 55 RX3 "dropMinute" "[I") (by decide +kernel)) (fun _ h9 => h9) rfl hin rfl (by decide +kernel) rfl rfl (Nat.le_of_ble_eq_true rfl) (show decode cX3_init 122 = .ok (.putfield 55, 3) by decide +kernel) (fun H locs hP hD hS => ?_)
  have hP : va_P D vwCl [(h0, .inr (3, [.int 0, .int 0, .int 0, .ref q1, .ref q2, .ref q3, .ref q4, .ref q5, .ref q6, .ref q7, .ref q8, .ref q9, .ref q10, .ref q11, .int 0, .ref q12, .ref q13, .ref q14, .ref q15])), (q1, .inl (k1, a0i 64)), (q2, .inl (k2, a0i 64)), (q3, .inl (k3, a0i 64)), (q4, .inl (k4, a0i 64)), (q5, .inl (k5, a0i 64)), (q6, .inl (k6, a0i 64)), (q7, .inl (k7, a0i 64)), (q8, .inl (k8, a0i 64)), (q9, .inl (k9, a0i 64)), (q10, .inl (k10, a0i 512)), (q11, .inl (k11, a0i 64)), (q12, .inl (k12, a0i 64)), (q13, .inl (k13, a0i 64)), (q14, .inl (k14, a0i 40)), (q15, .inl (k15, a0i 40))] H := hP
  have hD : va_D A [(h0, .inr (3, [.int 0, .int 0, .int 0, .ref q1, .ref q2, .ref q3, .ref q4, .ref q5, .ref q6, .ref q7, .ref q8, .ref q9, .ref q10, .ref q11, .int 0, .ref q12, .ref q13, .ref q14, .ref q15])), (q1, .inl (k1, a0i 64)), (q2, .inl (k2, a0i 64)), (q3, .inl (k3, a0i 64)), (q4, .inl (k4, a0i 64)), (q5, .inl (k5, a0i 64)), (q6, .inl (k6, a0i 64)), (q7, .inl (k7, a0i 64)), (q8, .inl (k8, a0i 64)), (q9, .inl (k9, a0i 64)), (q10, .inl (k10, a0i 512)), (q11, .inl (k11, a0i 64)), (q12, .inl (k12, a0i 64)), (q13, .inl (k13, a0i 64)), (q14, .inl (k14, a0i 40)), (q15, .inl (k15, a0i 40))] := hD
  exact W.vret hx hb hr (fun t ht hW => ⟨⟨(), rfl, trivial, q1, q2, q3, q4, q5, q6, q7, q8, q9, q10, q11, q12, q13, q14, q15, k1, k2, k3, k4, k5, k6, k7, k8, k9, k10, k11, k12, k13, k14, k15, by rw [ht]; exact hP, va_K.moved hW.alike hK, hD⟩, hS.F ht⟩) hS.2.2 (show decode cX3_init 125 = .ok (.return_, 1) by decide +kernel)
theorem oi_X4 : Cond.methodLink RX4 3 objectInit ∈ gtbl := by decide +kernel
set_option maxHeartbeats 4000000 in
set_option maxRecDepth 100000 in
theorem c_X4 (l : Launch) (D : va_G) (h0 sz : Nat) : Met l yX4_init (wI yX4_init cX4_init) ({ frames := 1, cells := 2, slots := 12, locals := 30 }) (va_Pc [.ref h0] (fun U => U.heap.size = sz ∧ va_P D vwCl [(h0, .inr (4, [.int 0, .null, .null]))] U.heap ∧ va_K D vwCl [] U ∧ va_D (fun _ => True) [(h0, .inr (4, [.int 0, .null, .null]))])) (va_Qv (fun _ : Unit => True) (fun _ t => ∃ (q1 q2 : Nat) (k1 k2 : ClassId), va_P D vwCl [(h0, .inr (4, [.int 0, .ref q1, .ref q2])), (q1, .inl (k1, a0i 6)), (q2, .inl (k2, a0i 6))] t.heap ∧ va_K D vwCl [(k1, .int), (k2, .int)] t ∧ va_D (va_A [(h0, .inr (4, [.int 0, .null, .null]))] sz) [(h0, .inr (4, [.int 0, .ref q1, .ref q2])), (q1, .inl (k1, a0i 6)), (q2, .inl (k2, a0i 6))]) (va_A [(h0, .inr (4, [.int 0, .null, .null]))] sz)) 2 12 (va_A [(h0, .inr (4, [.int 0, .null, .null]))] sz) := by
  refine Met.ofW (cc := cX4_init) (maxL := 1) (ret := none) (by decide) rfl ?_
  intro p e s m args below meth c s₁ B hml hv
  obtain ⟨rfl, hsz, hP, hK, hD0⟩ := hv
  have hx := B.exec
  have hb := B.bytes
  have hr := B.returns
  have hts := atoms_spec (ws := wI yX4_init cX4_init) B.pre
  have htg : ∀ w ∈ gtbl, w.before #[Value.ref h0] s = true := fun w hw => hts w (List.mem_cons_of_mem _ hw)
  have hown : s.vm.findClass RX4 = some m.cls := findClass_of_methodNamed B.named
  have hin : meth.name = "<init>" := (name_of_methodNamed B.named B.method).1
  subst hsz
  have hD := hD0.self (sz := s.heap.size)
  generalize hAe : va_A [(h0, .inr (4, [.int 0, .null, .null]))] s.heap.size = A at hD ⊢
  have hA : ∀ q : Nat, s.heap.size ≤ q → A q := fun q h => by rw [← hAe]; exact Or.inr h
  have hS : va_S A s.heap s.heap [] := va_S.rf
  have hl := lv_entry ([.ref h0]) (n := 1) (Nat.le_of_ble_eq_true rfl)
  rw [lg_entry_eq]
  generalize (lg_sl ([.ref h0]) ++ List.replicate (1 - (lg_sl ([.ref h0])).length) Slot.unset).toArray = ls at hl ⊢
  have hl : lv_has ls 1 [(0, .ref h0)] := hl
  refine lv_aload_n hx hb (show decode cX4_init 0 = .ok (.aload_n 0, 1) by decide +kernel) rfl (lv_at hl 0 rfl) ?_
  refine W.objInit hx hb hown (htg _ oi_X4) (htg _ oi_inst) (htg _ oi_code) rfl (by rw [hml]; exact hl.1) rfl (show decode cX4_init 1 = .ok (.invokespecial 3, 3) by decide +kernel) (Nat.le_of_ble_eq_true rfl) (Nat.le_of_ble_eq_true rfl) ?_
  refine W.eq (g2 := F0 m 4 ls []) rfl ?_
  refine lv_aload_n hx hb (show decode cX4_init 4 = .ok (.aload_n 0, 1) by decide +kernel) rfl (lv_at hl 0 rfl) ?_
  refine lv_bipush (v := 6) hx hb (show decode cX4_init 5 = .ok (.bipush 6, 2) by decide +kernel) rfl ?_
  refine va_newa (atype := .int) (a0 := a0i 6) (N' := 6) (ty := .int) hx hb (htg _ ac_int) rfl hK hP hD hS hA (fun _ => rfl) (by decide) (by decide) (by decide) (Nat.le_of_ble_eq_true rfl) (Nat.le_of_ble_eq_true rfl) (show decode cX4_init 7 = .ok (.newarray .int, 2) by decide +kernel) (fun q1 k1 H hK hP hD hS => ?_)
  have hP : va_P D vwCl [(h0, .inr (4, [.int 0, .null, .null])), (q1, .inl (k1, a0i 6))] H := hP
  have hD : va_D A [(h0, .inr (4, [.int 0, .null, .null])), (q1, .inl (k1, a0i 6))] := hD
  have hK : va_K D vwCl [(k1, .int)] s := hK
  refine va_putF (D := D) (ci := 4) (v := .ref q1) (ty := .array .int) (C := RX4) (T := TX4) (N := 3) hx hb htg (by decide +kernel) tyX4 tyX4_ok nmX4 hown hK hP hD hS 0 rfl rfl 1 (by decide) (htg (.fieldLink RX4 9 RX4 "place" "[I") (by decide +kernel)) (fun _ h9 => h9) rfl hin rfl (by decide +kernel) rfl rfl (Nat.le_of_ble_eq_true rfl) (show decode cX4_init 9 = .ok (.putfield 9, 3) by decide +kernel) (fun H locs hP hD hS => ?_)
  have hP : va_P D vwCl [(h0, .inr (4, [.int 0, .ref q1, .null])), (q1, .inl (k1, a0i 6))] H := hP
  have hD : va_D A [(h0, .inr (4, [.int 0, .ref q1, .null])), (q1, .inl (k1, a0i 6))] := hD
  refine lv_aload_n hx hb (show decode cX4_init 12 = .ok (.aload_n 0, 1) by decide +kernel) rfl (lv_at hl 0 rfl) ?_
  refine lv_bipush (v := 6) hx hb (show decode cX4_init 13 = .ok (.bipush 6, 2) by decide +kernel) rfl ?_
  refine va_newa (atype := .int) (a0 := a0i 6) (N' := 6) (ty := .int) hx hb (htg _ ac_int) rfl hK hP hD hS hA (fun _ => rfl) (by decide) (by decide) (by decide) (Nat.le_of_ble_eq_true rfl) (Nat.le_of_ble_eq_true rfl) (show decode cX4_init 15 = .ok (.newarray .int, 2) by decide +kernel) (fun q2 k2 H hK hP hD hS => ?_)
  have hP : va_P D vwCl [(h0, .inr (4, [.int 0, .ref q1, .null])), (q1, .inl (k1, a0i 6)), (q2, .inl (k2, a0i 6))] H := hP
  have hD : va_D A [(h0, .inr (4, [.int 0, .ref q1, .null])), (q1, .inl (k1, a0i 6)), (q2, .inl (k2, a0i 6))] := hD
  have hK : va_K D vwCl [(k1, .int), (k2, .int)] s := hK
  refine va_putF (D := D) (ci := 4) (v := .ref q2) (ty := .array .int) (C := RX4) (T := TX4) (N := 3) hx hb htg (by decide +kernel) tyX4 tyX4_ok nmX4 hown hK hP hD hS 0 rfl rfl 2 (by decide) (htg (.fieldLink RX4 15 RX4 "cutBefore" "[I") (by decide +kernel)) (fun _ h9 => h9) rfl hin rfl (by decide +kernel) rfl rfl (Nat.le_of_ble_eq_true rfl) (show decode cX4_init 17 = .ok (.putfield 15, 3) by decide +kernel) (fun H locs hP hD hS => ?_)
  have hP : va_P D vwCl [(h0, .inr (4, [.int 0, .ref q1, .ref q2])), (q1, .inl (k1, a0i 6)), (q2, .inl (k2, a0i 6))] H := hP
  have hD : va_D A [(h0, .inr (4, [.int 0, .ref q1, .ref q2])), (q1, .inl (k1, a0i 6)), (q2, .inl (k2, a0i 6))] := hD
  exact W.vret hx hb hr (fun t ht hW => ⟨⟨(), rfl, trivial, q1, q2, k1, k2, by rw [ht]; exact hP, va_K.moved hW.alike hK, hD⟩, hS.F ht⟩) hS.2.2 (show decode cX4_init 20 = .ok (.return_, 1) by decide +kernel)
theorem oi_X5 : Cond.methodLink RX5 3 objectInit ∈ gtbl := by decide +kernel
set_option maxHeartbeats 4000000 in
set_option maxRecDepth 100000 in
theorem c_X5 (l : Launch) (D : va_G) (h0 sz : Nat) : Met l yX5_init (wI yX5_init cX5_init) ({ frames := 1, cells := 3, slots := 18, locals := 30 }) (va_Pc [.ref h0] (fun U => U.heap.size = sz ∧ va_P D vwCl [(h0, .inr (5, [.int 0, .null, .null, .null]))] U.heap ∧ va_K D vwCl [] U ∧ va_D (fun _ => True) [(h0, .inr (5, [.int 0, .null, .null, .null]))])) (va_Qv (fun _ : Unit => True) (fun _ t => ∃ (q1 q2 q3 : Nat) (k1 k2 k3 : ClassId), va_P D vwCl [(h0, .inr (5, [.int 0, .ref q1, .ref q2, .ref q3])), (q1, .inl (k1, a0i 6)), (q2, .inl (k2, a0i 6)), (q3, .inl (k3, a0i 6))] t.heap ∧ va_K D vwCl [(k1, .int), (k2, .int), (k3, .int)] t ∧ va_D (va_A [(h0, .inr (5, [.int 0, .null, .null, .null]))] sz) [(h0, .inr (5, [.int 0, .ref q1, .ref q2, .ref q3])), (q1, .inl (k1, a0i 6)), (q2, .inl (k2, a0i 6)), (q3, .inl (k3, a0i 6))]) (va_A [(h0, .inr (5, [.int 0, .null, .null, .null]))] sz)) 3 18 (va_A [(h0, .inr (5, [.int 0, .null, .null, .null]))] sz) := by
  refine Met.ofW (cc := cX5_init) (maxL := 1) (ret := none) (by decide) rfl ?_
  intro p e s m args below meth c s₁ B hml hv
  obtain ⟨rfl, hsz, hP, hK, hD0⟩ := hv
  have hx := B.exec
  have hb := B.bytes
  have hr := B.returns
  have hts := atoms_spec (ws := wI yX5_init cX5_init) B.pre
  have htg : ∀ w ∈ gtbl, w.before #[Value.ref h0] s = true := fun w hw => hts w (List.mem_cons_of_mem _ hw)
  have hown : s.vm.findClass RX5 = some m.cls := findClass_of_methodNamed B.named
  have hin : meth.name = "<init>" := (name_of_methodNamed B.named B.method).1
  subst hsz
  have hD := hD0.self (sz := s.heap.size)
  generalize hAe : va_A [(h0, .inr (5, [.int 0, .null, .null, .null]))] s.heap.size = A at hD ⊢
  have hA : ∀ q : Nat, s.heap.size ≤ q → A q := fun q h => by rw [← hAe]; exact Or.inr h
  have hS : va_S A s.heap s.heap [] := va_S.rf
  have hl := lv_entry ([.ref h0]) (n := 1) (Nat.le_of_ble_eq_true rfl)
  rw [lg_entry_eq]
  generalize (lg_sl ([.ref h0]) ++ List.replicate (1 - (lg_sl ([.ref h0])).length) Slot.unset).toArray = ls at hl ⊢
  have hl : lv_has ls 1 [(0, .ref h0)] := hl
  refine lv_aload_n hx hb (show decode cX5_init 0 = .ok (.aload_n 0, 1) by decide +kernel) rfl (lv_at hl 0 rfl) ?_
  refine W.objInit hx hb hown (htg _ oi_X5) (htg _ oi_inst) (htg _ oi_code) rfl (by rw [hml]; exact hl.1) rfl (show decode cX5_init 1 = .ok (.invokespecial 3, 3) by decide +kernel) (Nat.le_of_ble_eq_true rfl) (Nat.le_of_ble_eq_true rfl) ?_
  refine W.eq (g2 := F0 m 4 ls []) rfl ?_
  refine lv_aload_n hx hb (show decode cX5_init 4 = .ok (.aload_n 0, 1) by decide +kernel) rfl (lv_at hl 0 rfl) ?_
  refine lv_bipush (v := 6) hx hb (show decode cX5_init 5 = .ok (.bipush 6, 2) by decide +kernel) rfl ?_
  refine va_newa (atype := .int) (a0 := a0i 6) (N' := 6) (ty := .int) hx hb (htg _ ac_int) rfl hK hP hD hS hA (fun _ => rfl) (by decide) (by decide) (by decide) (Nat.le_of_ble_eq_true rfl) (Nat.le_of_ble_eq_true rfl) (show decode cX5_init 7 = .ok (.newarray .int, 2) by decide +kernel) (fun q1 k1 H hK hP hD hS => ?_)
  have hP : va_P D vwCl [(h0, .inr (5, [.int 0, .null, .null, .null])), (q1, .inl (k1, a0i 6))] H := hP
  have hD : va_D A [(h0, .inr (5, [.int 0, .null, .null, .null])), (q1, .inl (k1, a0i 6))] := hD
  have hK : va_K D vwCl [(k1, .int)] s := hK
  refine va_putF (D := D) (ci := 5) (v := .ref q1) (ty := .array .int) (C := RX5) (T := TX5) (N := 4) hx hb htg (by decide +kernel) tyX5 tyX5_ok nmX5 hown hK hP hD hS 0 rfl rfl 1 (by decide) (htg (.fieldLink RX5 9 RX5 "place" "[I") (by decide +kernel)) (fun _ h9 => h9) rfl hin rfl (by decide +kernel) rfl rfl (Nat.le_of_ble_eq_true rfl) (show decode cX5_init 9 = .ok (.putfield 9, 3) by decide +kernel) (fun H locs hP hD hS => ?_)
  have hP : va_P D vwCl [(h0, .inr (5, [.int 0, .ref q1, .null, .null])), (q1, .inl (k1, a0i 6))] H := hP
  have hD : va_D A [(h0, .inr (5, [.int 0, .ref q1, .null, .null])), (q1, .inl (k1, a0i 6))] := hD
  refine lv_aload_n hx hb (show decode cX5_init 12 = .ok (.aload_n 0, 1) by decide +kernel) rfl (lv_at hl 0 rfl) ?_
  refine lv_bipush (v := 6) hx hb (show decode cX5_init 13 = .ok (.bipush 6, 2) by decide +kernel) rfl ?_
  refine va_newa (atype := .int) (a0 := a0i 6) (N' := 6) (ty := .int) hx hb (htg _ ac_int) rfl hK hP hD hS hA (fun _ => rfl) (by decide) (by decide) (by decide) (Nat.le_of_ble_eq_true rfl) (Nat.le_of_ble_eq_true rfl) (show decode cX5_init 15 = .ok (.newarray .int, 2) by decide +kernel) (fun q2 k2 H hK hP hD hS => ?_)
  have hP : va_P D vwCl [(h0, .inr (5, [.int 0, .ref q1, .null, .null])), (q1, .inl (k1, a0i 6)), (q2, .inl (k2, a0i 6))] H := hP
  have hD : va_D A [(h0, .inr (5, [.int 0, .ref q1, .null, .null])), (q1, .inl (k1, a0i 6)), (q2, .inl (k2, a0i 6))] := hD
  have hK : va_K D vwCl [(k1, .int), (k2, .int)] s := hK
  refine va_putF (D := D) (ci := 5) (v := .ref q2) (ty := .array .int) (C := RX5) (T := TX5) (N := 4) hx hb htg (by decide +kernel) tyX5 tyX5_ok nmX5 hown hK hP hD hS 0 rfl rfl 2 (by decide) (htg (.fieldLink RX5 15 RX5 "carsOf" "[I") (by decide +kernel)) (fun _ h9 => h9) rfl hin rfl (by decide +kernel) rfl rfl (Nat.le_of_ble_eq_true rfl) (show decode cX5_init 17 = .ok (.putfield 15, 3) by decide +kernel) (fun H locs hP hD hS => ?_)
  have hP : va_P D vwCl [(h0, .inr (5, [.int 0, .ref q1, .ref q2, .null])), (q1, .inl (k1, a0i 6)), (q2, .inl (k2, a0i 6))] H := hP
  have hD : va_D A [(h0, .inr (5, [.int 0, .ref q1, .ref q2, .null])), (q1, .inl (k1, a0i 6)), (q2, .inl (k2, a0i 6))] := hD
  refine lv_aload_n hx hb (show decode cX5_init 20 = .ok (.aload_n 0, 1) by decide +kernel) rfl (lv_at hl 0 rfl) ?_
  refine lv_bipush (v := 6) hx hb (show decode cX5_init 21 = .ok (.bipush 6, 2) by decide +kernel) rfl ?_
  refine va_newa (atype := .int) (a0 := a0i 6) (N' := 6) (ty := .int) hx hb (htg _ ac_int) rfl hK hP hD hS hA (fun _ => rfl) (by decide) (by decide) (by decide) (Nat.le_of_ble_eq_true rfl) (Nat.le_of_ble_eq_true rfl) (show decode cX5_init 23 = .ok (.newarray .int, 2) by decide +kernel) (fun q3 k3 H hK hP hD hS => ?_)
  have hP : va_P D vwCl [(h0, .inr (5, [.int 0, .ref q1, .ref q2, .null])), (q1, .inl (k1, a0i 6)), (q2, .inl (k2, a0i 6)), (q3, .inl (k3, a0i 6))] H := hP
  have hD : va_D A [(h0, .inr (5, [.int 0, .ref q1, .ref q2, .null])), (q1, .inl (k1, a0i 6)), (q2, .inl (k2, a0i 6)), (q3, .inl (k3, a0i 6))] := hD
  have hK : va_K D vwCl [(k1, .int), (k2, .int), (k3, .int)] s := hK
  refine va_putF (D := D) (ci := 5) (v := .ref q3) (ty := .array .int) (C := RX5) (T := TX5) (N := 4) hx hb htg (by decide +kernel) tyX5 tyX5_ok nmX5 hown hK hP hD hS 0 rfl rfl 3 (by decide) (htg (.fieldLink RX5 18 RX5 "rateOf" "[I") (by decide +kernel)) (fun _ h9 => h9) rfl hin rfl (by decide +kernel) rfl rfl (Nat.le_of_ble_eq_true rfl) (show decode cX5_init 25 = .ok (.putfield 18, 3) by decide +kernel) (fun H locs hP hD hS => ?_)
  have hP : va_P D vwCl [(h0, .inr (5, [.int 0, .ref q1, .ref q2, .ref q3])), (q1, .inl (k1, a0i 6)), (q2, .inl (k2, a0i 6)), (q3, .inl (k3, a0i 6))] H := hP
  have hD : va_D A [(h0, .inr (5, [.int 0, .ref q1, .ref q2, .ref q3])), (q1, .inl (k1, a0i 6)), (q2, .inl (k2, a0i 6)), (q3, .inl (k3, a0i 6))] := hD
  exact W.vret hx hb hr (fun t ht hW => ⟨⟨(), rfl, trivial, q1, q2, q3, k1, k2, k3, by rw [ht]; exact hP, va_K.moved hW.alike hK, hD⟩, hS.F ht⟩) hS.2.2 (show decode cX5_init 28 = .ok (.return_, 1) by decide +kernel)
theorem oi_X6 : Cond.methodLink RX6 3 objectInit ∈ gtbl := by decide +kernel
set_option maxHeartbeats 4000000 in
set_option maxRecDepth 100000 in
theorem c_X6 (l : Launch) (D : va_G) (h0 sz : Nat) : Met l yX6_init (wI yX6_init cX6_init) ({ frames := 1, cells := 3, slots := 193, locals := 30 }) (va_Pc [.ref h0] (fun U => U.heap.size = sz ∧ va_P D vwCl [(h0, .inr (6, [.int 0, .null, .null, .null]))] U.heap ∧ va_K D vwCl [] U ∧ va_D (fun _ => True) [(h0, .inr (6, [.int 0, .null, .null, .null]))])) (va_Qv (fun _ : Unit => True) (fun _ t => ∃ (q1 q2 q3 : Nat) (k1 k2 k3 : ClassId), va_P D vwCl [(h0, .inr (6, [.int 0, .ref q1, .ref q2, .ref q3])), (q1, .inl (k1, a0i 65)), (q2, .inl (k2, a0i 64)), (q3, .inl (k3, a0i 64))] t.heap ∧ va_K D vwCl [(k1, .int), (k2, .int), (k3, .int)] t ∧ va_D (va_A [(h0, .inr (6, [.int 0, .null, .null, .null]))] sz) [(h0, .inr (6, [.int 0, .ref q1, .ref q2, .ref q3])), (q1, .inl (k1, a0i 65)), (q2, .inl (k2, a0i 64)), (q3, .inl (k3, a0i 64))]) (va_A [(h0, .inr (6, [.int 0, .null, .null, .null]))] sz)) 3 193 (va_A [(h0, .inr (6, [.int 0, .null, .null, .null]))] sz) := by
  refine Met.ofW (cc := cX6_init) (maxL := 1) (ret := none) (by decide) rfl ?_
  intro p e s m args below meth c s₁ B hml hv
  obtain ⟨rfl, hsz, hP, hK, hD0⟩ := hv
  have hx := B.exec
  have hb := B.bytes
  have hr := B.returns
  have hts := atoms_spec (ws := wI yX6_init cX6_init) B.pre
  have htg : ∀ w ∈ gtbl, w.before #[Value.ref h0] s = true := fun w hw => hts w (List.mem_cons_of_mem _ hw)
  have hown : s.vm.findClass RX6 = some m.cls := findClass_of_methodNamed B.named
  have hin : meth.name = "<init>" := (name_of_methodNamed B.named B.method).1
  subst hsz
  have hD := hD0.self (sz := s.heap.size)
  generalize hAe : va_A [(h0, .inr (6, [.int 0, .null, .null, .null]))] s.heap.size = A at hD ⊢
  have hA : ∀ q : Nat, s.heap.size ≤ q → A q := fun q h => by rw [← hAe]; exact Or.inr h
  have hS : va_S A s.heap s.heap [] := va_S.rf
  have hl := lv_entry ([.ref h0]) (n := 1) (Nat.le_of_ble_eq_true rfl)
  rw [lg_entry_eq]
  generalize (lg_sl ([.ref h0]) ++ List.replicate (1 - (lg_sl ([.ref h0])).length) Slot.unset).toArray = ls at hl ⊢
  have hl : lv_has ls 1 [(0, .ref h0)] := hl
  refine lv_aload_n hx hb (show decode cX6_init 0 = .ok (.aload_n 0, 1) by decide +kernel) rfl (lv_at hl 0 rfl) ?_
  refine W.objInit hx hb hown (htg _ oi_X6) (htg _ oi_inst) (htg _ oi_code) rfl (by rw [hml]; exact hl.1) rfl (show decode cX6_init 1 = .ok (.invokespecial 3, 3) by decide +kernel) (Nat.le_of_ble_eq_true rfl) (Nat.le_of_ble_eq_true rfl) ?_
  refine W.eq (g2 := F0 m 4 ls []) rfl ?_
  refine lv_aload_n hx hb (show decode cX6_init 4 = .ok (.aload_n 0, 1) by decide +kernel) rfl (lv_at hl 0 rfl) ?_
  refine lv_bipush (v := 65) hx hb (show decode cX6_init 5 = .ok (.bipush 65, 2) by decide +kernel) rfl ?_
  refine va_newa (atype := .int) (a0 := a0i 65) (N' := 65) (ty := .int) hx hb (htg _ ac_int) rfl hK hP hD hS hA (fun _ => rfl) (by decide) (by decide) (by decide) (Nat.le_of_ble_eq_true rfl) (Nat.le_of_ble_eq_true rfl) (show decode cX6_init 7 = .ok (.newarray .int, 2) by decide +kernel) (fun q1 k1 H hK hP hD hS => ?_)
  have hP : va_P D vwCl [(h0, .inr (6, [.int 0, .null, .null, .null])), (q1, .inl (k1, a0i 65))] H := hP
  have hD : va_D A [(h0, .inr (6, [.int 0, .null, .null, .null])), (q1, .inl (k1, a0i 65))] := hD
  have hK : va_K D vwCl [(k1, .int)] s := hK
  refine va_putF (D := D) (ci := 6) (v := .ref q1) (ty := .array .int) (C := RX6) (T := TX6) (N := 4) hx hb htg (by decide +kernel) tyX6 tyX6_ok nmX6 hown hK hP hD hS 0 rfl rfl 1 (by decide) (htg (.fieldLink RX6 9 RX6 "row" "[I") (by decide +kernel)) (fun _ h9 => h9) rfl hin rfl (by decide +kernel) rfl rfl (Nat.le_of_ble_eq_true rfl) (show decode cX6_init 9 = .ok (.putfield 9, 3) by decide +kernel) (fun H locs hP hD hS => ?_)
  have hP : va_P D vwCl [(h0, .inr (6, [.int 0, .ref q1, .null, .null])), (q1, .inl (k1, a0i 65))] H := hP
  have hD : va_D A [(h0, .inr (6, [.int 0, .ref q1, .null, .null])), (q1, .inl (k1, a0i 65))] := hD
  refine lv_aload_n hx hb (show decode cX6_init 12 = .ok (.aload_n 0, 1) by decide +kernel) rfl (lv_at hl 0 rfl) ?_
  refine lv_bipush (v := 64) hx hb (show decode cX6_init 13 = .ok (.bipush 64, 2) by decide +kernel) rfl ?_
  refine va_newa (atype := .int) (a0 := a0i 64) (N' := 64) (ty := .int) hx hb (htg _ ac_int) rfl hK hP hD hS hA (fun _ => rfl) (by decide) (by decide) (by decide) (Nat.le_of_ble_eq_true rfl) (Nat.le_of_ble_eq_true rfl) (show decode cX6_init 15 = .ok (.newarray .int, 2) by decide +kernel) (fun q2 k2 H hK hP hD hS => ?_)
  have hP : va_P D vwCl [(h0, .inr (6, [.int 0, .ref q1, .null, .null])), (q1, .inl (k1, a0i 65)), (q2, .inl (k2, a0i 64))] H := hP
  have hD : va_D A [(h0, .inr (6, [.int 0, .ref q1, .null, .null])), (q1, .inl (k1, a0i 65)), (q2, .inl (k2, a0i 64))] := hD
  have hK : va_K D vwCl [(k1, .int), (k2, .int)] s := hK
  refine va_putF (D := D) (ci := 6) (v := .ref q2) (ty := .array .int) (C := RX6) (T := TX6) (N := 4) hx hb htg (by decide +kernel) tyX6 tyX6_ok nmX6 hown hK hP hD hS 0 rfl rfl 2 (by decide) (htg (.fieldLink RX6 15 RX6 "toExit" "[I") (by decide +kernel)) (fun _ h9 => h9) rfl hin rfl (by decide +kernel) rfl rfl (Nat.le_of_ble_eq_true rfl) (show decode cX6_init 17 = .ok (.putfield 15, 3) by decide +kernel) (fun H locs hP hD hS => ?_)
  have hP : va_P D vwCl [(h0, .inr (6, [.int 0, .ref q1, .ref q2, .null])), (q1, .inl (k1, a0i 65)), (q2, .inl (k2, a0i 64))] H := hP
  have hD : va_D A [(h0, .inr (6, [.int 0, .ref q1, .ref q2, .null])), (q1, .inl (k1, a0i 65)), (q2, .inl (k2, a0i 64))] := hD
  refine lv_aload_n hx hb (show decode cX6_init 20 = .ok (.aload_n 0, 1) by decide +kernel) rfl (lv_at hl 0 rfl) ?_
  refine lv_bipush (v := 64) hx hb (show decode cX6_init 21 = .ok (.bipush 64, 2) by decide +kernel) rfl ?_
  refine va_newa (atype := .int) (a0 := a0i 64) (N' := 64) (ty := .int) hx hb (htg _ ac_int) rfl hK hP hD hS hA (fun _ => rfl) (by decide) (by decide) (by decide) (Nat.le_of_ble_eq_true rfl) (Nat.le_of_ble_eq_true rfl) (show decode cX6_init 23 = .ok (.newarray .int, 2) by decide +kernel) (fun q3 k3 H hK hP hD hS => ?_)
  have hP : va_P D vwCl [(h0, .inr (6, [.int 0, .ref q1, .ref q2, .null])), (q1, .inl (k1, a0i 65)), (q2, .inl (k2, a0i 64)), (q3, .inl (k3, a0i 64))] H := hP
  have hD : va_D A [(h0, .inr (6, [.int 0, .ref q1, .ref q2, .null])), (q1, .inl (k1, a0i 65)), (q2, .inl (k2, a0i 64)), (q3, .inl (k3, a0i 64))] := hD
  have hK : va_K D vwCl [(k1, .int), (k2, .int), (k3, .int)] s := hK
  refine va_putF (D := D) (ci := 6) (v := .ref q3) (ty := .array .int) (C := RX6) (T := TX6) (N := 4) hx hb htg (by decide +kernel) tyX6 tyX6_ok nmX6 hown hK hP hD hS 0 rfl rfl 3 (by decide) (htg (.fieldLink RX6 18 RX6 "queue" "[I") (by decide +kernel)) (fun _ h9 => h9) rfl hin rfl (by decide +kernel) rfl rfl (Nat.le_of_ble_eq_true rfl) (show decode cX6_init 25 = .ok (.putfield 18, 3) by decide +kernel) (fun H locs hP hD hS => ?_)
  have hP : va_P D vwCl [(h0, .inr (6, [.int 0, .ref q1, .ref q2, .ref q3])), (q1, .inl (k1, a0i 65)), (q2, .inl (k2, a0i 64)), (q3, .inl (k3, a0i 64))] H := hP
  have hD : va_D A [(h0, .inr (6, [.int 0, .ref q1, .ref q2, .ref q3])), (q1, .inl (k1, a0i 65)), (q2, .inl (k2, a0i 64)), (q3, .inl (k3, a0i 64))] := hD
  exact W.vret hx hb hr (fun t ht hW => ⟨⟨(), rfl, trivial, q1, q2, q3, k1, k2, k3, by rw [ht]; exact hP, va_K.moved hW.alike hK, hD⟩, hS.F ht⟩) hS.2.2 (show decode cX6_init 28 = .ok (.return_, 1) by decide +kernel)
theorem oi_X7 : Cond.methodLink RX7 3 objectInit ∈ gtbl := by decide +kernel
set_option maxHeartbeats 4000000 in
set_option maxRecDepth 100000 in
theorem c_X7 (l : Launch) (D : va_G) (h0 sz : Nat) : Met l yX7_init (wI yX7_init cX7_init) ({ frames := 1, cells := 3, slots := 24, locals := 30 }) (va_Pc [.ref h0] (fun U => U.heap.size = sz ∧ va_P D vwCl [(h0, .inr (7, [.int 0, .null, .null, .null]))] U.heap ∧ va_K D vwCl [] U ∧ va_D (fun _ => True) [(h0, .inr (7, [.int 0, .null, .null, .null]))])) (va_Qv (fun _ : Unit => True) (fun _ t => ∃ (q1 q2 q3 : Nat) (k1 k2 k3 : ClassId), va_P D vwCl [(h0, .inr (7, [.int 0, .ref q1, .ref q2, .ref q3])), (q1, .inl (k1, a0i 8)), (q2, .inl (k2, a0i 8)), (q3, .inl (k3, a0i 8))] t.heap ∧ va_K D vwCl [(k1, .int), (k2, .int), (k3, .int)] t ∧ va_D (va_A [(h0, .inr (7, [.int 0, .null, .null, .null]))] sz) [(h0, .inr (7, [.int 0, .ref q1, .ref q2, .ref q3])), (q1, .inl (k1, a0i 8)), (q2, .inl (k2, a0i 8)), (q3, .inl (k3, a0i 8))]) (va_A [(h0, .inr (7, [.int 0, .null, .null, .null]))] sz)) 3 24 (va_A [(h0, .inr (7, [.int 0, .null, .null, .null]))] sz) := by
  refine Met.ofW (cc := cX7_init) (maxL := 1) (ret := none) (by decide) rfl ?_
  intro p e s m args below meth c s₁ B hml hv
  obtain ⟨rfl, hsz, hP, hK, hD0⟩ := hv
  have hx := B.exec
  have hb := B.bytes
  have hr := B.returns
  have hts := atoms_spec (ws := wI yX7_init cX7_init) B.pre
  have htg : ∀ w ∈ gtbl, w.before #[Value.ref h0] s = true := fun w hw => hts w (List.mem_cons_of_mem _ hw)
  have hown : s.vm.findClass RX7 = some m.cls := findClass_of_methodNamed B.named
  have hin : meth.name = "<init>" := (name_of_methodNamed B.named B.method).1
  subst hsz
  have hD := hD0.self (sz := s.heap.size)
  generalize hAe : va_A [(h0, .inr (7, [.int 0, .null, .null, .null]))] s.heap.size = A at hD ⊢
  have hA : ∀ q : Nat, s.heap.size ≤ q → A q := fun q h => by rw [← hAe]; exact Or.inr h
  have hS : va_S A s.heap s.heap [] := va_S.rf
  have hl := lv_entry ([.ref h0]) (n := 1) (Nat.le_of_ble_eq_true rfl)
  rw [lg_entry_eq]
  generalize (lg_sl ([.ref h0]) ++ List.replicate (1 - (lg_sl ([.ref h0])).length) Slot.unset).toArray = ls at hl ⊢
  have hl : lv_has ls 1 [(0, .ref h0)] := hl
  refine lv_aload_n hx hb (show decode cX7_init 0 = .ok (.aload_n 0, 1) by decide +kernel) rfl (lv_at hl 0 rfl) ?_
  refine W.objInit hx hb hown (htg _ oi_X7) (htg _ oi_inst) (htg _ oi_code) rfl (by rw [hml]; exact hl.1) rfl (show decode cX7_init 1 = .ok (.invokespecial 3, 3) by decide +kernel) (Nat.le_of_ble_eq_true rfl) (Nat.le_of_ble_eq_true rfl) ?_
  refine W.eq (g2 := F0 m 4 ls []) rfl ?_
  refine lv_aload_n hx hb (show decode cX7_init 4 = .ok (.aload_n 0, 1) by decide +kernel) rfl (lv_at hl 0 rfl) ?_
  refine lv_bipush (v := 8) hx hb (show decode cX7_init 5 = .ok (.bipush 8, 2) by decide +kernel) rfl ?_
  refine va_newa (atype := .int) (a0 := a0i 8) (N' := 8) (ty := .int) hx hb (htg _ ac_int) rfl hK hP hD hS hA (fun _ => rfl) (by decide) (by decide) (by decide) (Nat.le_of_ble_eq_true rfl) (Nat.le_of_ble_eq_true rfl) (show decode cX7_init 7 = .ok (.newarray .int, 2) by decide +kernel) (fun q1 k1 H hK hP hD hS => ?_)
  have hP : va_P D vwCl [(h0, .inr (7, [.int 0, .null, .null, .null])), (q1, .inl (k1, a0i 8))] H := hP
  have hD : va_D A [(h0, .inr (7, [.int 0, .null, .null, .null])), (q1, .inl (k1, a0i 8))] := hD
  have hK : va_K D vwCl [(k1, .int)] s := hK
  refine va_putF (D := D) (ci := 7) (v := .ref q1) (ty := .array .int) (C := RX7) (T := TX7) (N := 4) hx hb htg (by decide +kernel) tyX7 tyX7_ok nmX7 hown hK hP hD hS 0 rfl rfl 1 (by decide) (htg (.fieldLink RX7 9 RX7 "since" "[I") (by decide +kernel)) (fun _ h9 => h9) rfl hin rfl (by decide +kernel) rfl rfl (Nat.le_of_ble_eq_true rfl) (show decode cX7_init 9 = .ok (.putfield 9, 3) by decide +kernel) (fun H locs hP hD hS => ?_)
  have hP : va_P D vwCl [(h0, .inr (7, [.int 0, .ref q1, .null, .null])), (q1, .inl (k1, a0i 8))] H := hP
  have hD : va_D A [(h0, .inr (7, [.int 0, .ref q1, .null, .null])), (q1, .inl (k1, a0i 8))] := hD
  refine lv_aload_n hx hb (show decode cX7_init 12 = .ok (.aload_n 0, 1) by decide +kernel) rfl (lv_at hl 0 rfl) ?_
  refine lv_bipush (v := 8) hx hb (show decode cX7_init 13 = .ok (.bipush 8, 2) by decide +kernel) rfl ?_
  refine va_newa (atype := .int) (a0 := a0i 8) (N' := 8) (ty := .int) hx hb (htg _ ac_int) rfl hK hP hD hS hA (fun _ => rfl) (by decide) (by decide) (by decide) (Nat.le_of_ble_eq_true rfl) (Nat.le_of_ble_eq_true rfl) (show decode cX7_init 15 = .ok (.newarray .int, 2) by decide +kernel) (fun q2 k2 H hK hP hD hS => ?_)
  have hP : va_P D vwCl [(h0, .inr (7, [.int 0, .ref q1, .null, .null])), (q1, .inl (k1, a0i 8)), (q2, .inl (k2, a0i 8))] H := hP
  have hD : va_D A [(h0, .inr (7, [.int 0, .ref q1, .null, .null])), (q1, .inl (k1, a0i 8)), (q2, .inl (k2, a0i 8))] := hD
  have hK : va_K D vwCl [(k1, .int), (k2, .int)] s := hK
  refine va_putF (D := D) (ci := 7) (v := .ref q2) (ty := .array .int) (C := RX7) (T := TX7) (N := 4) hx hb htg (by decide +kernel) tyX7 tyX7_ok nmX7 hown hK hP hD hS 0 rfl rfl 2 (by decide) (htg (.fieldLink RX7 15 RX7 "to" "[I") (by decide +kernel)) (fun _ h9 => h9) rfl hin rfl (by decide +kernel) rfl rfl (Nat.le_of_ble_eq_true rfl) (show decode cX7_init 17 = .ok (.putfield 15, 3) by decide +kernel) (fun H locs hP hD hS => ?_)
  have hP : va_P D vwCl [(h0, .inr (7, [.int 0, .ref q1, .ref q2, .null])), (q1, .inl (k1, a0i 8)), (q2, .inl (k2, a0i 8))] H := hP
  have hD : va_D A [(h0, .inr (7, [.int 0, .ref q1, .ref q2, .null])), (q1, .inl (k1, a0i 8)), (q2, .inl (k2, a0i 8))] := hD
  refine lv_aload_n hx hb (show decode cX7_init 20 = .ok (.aload_n 0, 1) by decide +kernel) rfl (lv_at hl 0 rfl) ?_
  refine lv_bipush (v := 8) hx hb (show decode cX7_init 21 = .ok (.bipush 8, 2) by decide +kernel) rfl ?_
  refine va_newa (atype := .int) (a0 := a0i 8) (N' := 8) (ty := .int) hx hb (htg _ ac_int) rfl hK hP hD hS hA (fun _ => rfl) (by decide) (by decide) (by decide) (Nat.le_of_ble_eq_true rfl) (Nat.le_of_ble_eq_true rfl) (show decode cX7_init 23 = .ok (.newarray .int, 2) by decide +kernel) (fun q3 k3 H hK hP hD hS => ?_)
  have hP : va_P D vwCl [(h0, .inr (7, [.int 0, .ref q1, .ref q2, .null])), (q1, .inl (k1, a0i 8)), (q2, .inl (k2, a0i 8)), (q3, .inl (k3, a0i 8))] H := hP
  have hD : va_D A [(h0, .inr (7, [.int 0, .ref q1, .ref q2, .null])), (q1, .inl (k1, a0i 8)), (q2, .inl (k2, a0i 8)), (q3, .inl (k3, a0i 8))] := hD
  have hK : va_K D vwCl [(k1, .int), (k2, .int), (k3, .int)] s := hK
  refine va_putF (D := D) (ci := 7) (v := .ref q3) (ty := .array .int) (C := RX7) (T := TX7) (N := 4) hx hb htg (by decide +kernel) tyX7 tyX7_ok nmX7 hown hK hP hD hS 0 rfl rfl 3 (by decide) (htg (.fieldLink RX7 18 RX7 "force" "[I") (by decide +kernel)) (fun _ h9 => h9) rfl hin rfl (by decide +kernel) rfl rfl (Nat.le_of_ble_eq_true rfl) (show decode cX7_init 25 = .ok (.putfield 18, 3) by decide +kernel) (fun H locs hP hD hS => ?_)
  have hP : va_P D vwCl [(h0, .inr (7, [.int 0, .ref q1, .ref q2, .ref q3])), (q1, .inl (k1, a0i 8)), (q2, .inl (k2, a0i 8)), (q3, .inl (k3, a0i 8))] H := hP
  have hD : va_D A [(h0, .inr (7, [.int 0, .ref q1, .ref q2, .ref q3])), (q1, .inl (k1, a0i 8)), (q2, .inl (k2, a0i 8)), (q3, .inl (k3, a0i 8))] := hD
  exact W.vret hx hb hr (fun t ht hW => ⟨⟨(), rfl, trivial, q1, q2, q3, k1, k2, k3, by rw [ht]; exact hP, va_K.moved hW.alike hK, hD⟩, hS.F ht⟩) hS.2.2 (show decode cX7_init 28 = .ok (.return_, 1) by decide +kernel)
