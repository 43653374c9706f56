/-! the constructors -/
def wI (y : MethodName) (b : ByteArray) : List Cond := .code y b 1 none :: gtbl
theorem oi_link0 : Cond.methodLink RX0 3 objectInit ∈ gtbl := by decide +kernel
theorem oi_inst : Cond.instanceMethod objectInit ∈ gtbl := by decide +kernel
theorem oi_code : Cond.code objectInit ⟨#[0xb1]⟩ 1 none ∈ gtbl := by decide +kernel
theorem ac_int : Cond.arrayClass .int ∈ gtbl := by decide +kernel
theorem ac_bool : Cond.arrayClass .boolean ∈ gtbl := by decide +kernel
abbrev a0i (n : Nat) : vp_A := (n, .inl (fun _ => 0))
set_option maxHeartbeats 4000000 in
set_option maxRecDepth 100000 in
theorem c_X0 (l : Launch) (D : va_G) (h0 sz : Nat) : Met l yX0_init (wI yX0_init cX0_init) ({ frames := 1, cells := 3, slots := 18, locals := 30 }) (va_Pc [.ref h0] (fun U => U.heap.size = sz ∧ va_P D vwCl [(h0, .inr (0, [.int 0, .int 0, .null, .null, .null]))] U.heap ∧ va_K D vwCl [] U ∧ va_D (fun _ => True) [(h0, .inr (0, [.int 0, .int 0, .null, .null, .null]))])) (va_Qv (fun _ : Unit => True) (fun _ t => ∃ (q1 q2 q3 : Nat) (k1 k2 k3 : ClassId), va_P D vwCl [(h0, .inr (0, [.int 0, .int 0, .ref q1, .ref q2, .ref q3])), (q1, .inl (k1, a0i 6)), (q2, .inl (k2, a0i 6)), (q3, .inl (k3, a0i 6))] t.heap ∧ va_K D vwCl [(k1, .int), (k2, .int), (k3, .int)] t ∧ va_D (va_A [(h0, .inr (0, [.int 0, .int 0, .null, .null, .null]))] sz) [(h0, .inr (0, [.int 0, .int 0, .ref q1, .ref q2, .ref q3])), (q1, .inl (k1, a0i 6)), (q2, .inl (k2, a0i 6)), (q3, .inl (k3, a0i 6))]) (va_A [(h0, .inr (0, [.int 0, .int 0, .null, .null, .null]))] sz)) 3 18 (va_A [(h0, .inr (0, [.int 0, .int 0, .null, .null, .null]))] sz) := by
  refine Met.ofW (cc := cX0_init) (maxL := 1) (ret := none) (by decide) rfl ?_
  intro p e s m args below meth c s₁ B hml hv
  obtain ⟨rfl, hsz, hP, hK, hD0⟩ := hv
  have hx := B.exec
  have hb := B.bytes
  have hr := B.returns
  have hts := atoms_spec (ws := wI yX0_init cX0_init) B.pre
  have htg : ∀ w ∈ gtbl, w.before #[Value.ref h0] s = true := fun w hw => hts w (List.mem_cons_of_mem _ hw)
  have hown : s.vm.findClass RX0 = some m.cls := findClass_of_methodNamed B.named
  have hin : meth.name = "<init>" := (name_of_methodNamed B.named B.method).1
  subst hsz
  have hD := hD0.self (sz := s.heap.size)
  generalize hAe : va_A [(h0, .inr (0, [.int 0, .int 0, .null, .null, .null]))] s.heap.size = A at hD ⊢
  have hA : ∀ q : Nat, s.heap.size ≤ q → A q := fun q h => by rw [← hAe]; exact Or.inr h
  have hS : va_S A s.heap s.heap [] := va_S.rf
  have hl := lv_entry ([.ref h0]) (n := 1) (Nat.le_of_ble_eq_true rfl)
  rw [lg_entry_eq]
  generalize (lg_sl ([.ref h0]) ++ List.replicate (1 - (lg_sl ([.ref h0])).length) Slot.unset).toArray = ls at hl ⊢
  have hl : lv_has ls 1 [(0, .ref h0)] := hl
  refine lv_aload_n hx hb (show decode cX0_init 0 = .ok (.aload_n 0, 1) by decide +kernel) rfl (lv_at hl 0 rfl) ?_
  refine W.objInit hx hb hown (htg _ oi_link0) (htg _ oi_inst) (htg _ oi_code) rfl (by rw [hml]; exact hl.1) rfl (show decode cX0_init 1 = .ok (.invokespecial 3, 3) by decide +kernel) (Nat.le_of_ble_eq_true rfl) (Nat.le_of_ble_eq_true rfl) ?_
  refine W.eq (g2 := F0 m 4 ls []) rfl ?_
  refine lv_aload_n hx hb (show decode cX0_init 4 = .ok (.aload_n 0, 1) by decide +kernel) rfl (lv_at hl 0 rfl) ?_
  refine lv_bipush (v := 6) hx hb (show decode cX0_init 5 = .ok (.bipush 6, 2) by decide +kernel) rfl ?_
  refine va_newa (atype := .int) (a0 := a0i 6) (N' := 6) (ty := .int) hx hb (htg _ ac_int) rfl hK hP hD hS hA (fun _ => rfl) (by decide) (by decide) (by decide) (Nat.le_of_ble_eq_true rfl) (Nat.le_of_ble_eq_true rfl) (show decode cX0_init 7 = .ok (.newarray .int, 2) by decide +kernel) (fun q1 k1 H hK hP hD hS => ?_)
  have hP : va_P D vwCl [(h0, .inr (0, [.int 0, .int 0, .null, .null, .null])), (q1, .inl (k1, a0i 6))] H := hP
  have hD : va_D A [(h0, .inr (0, [.int 0, .int 0, .null, .null, .null])), (q1, .inl (k1, a0i 6))] := hD
  refine va_putF (D := D) (ci := 0) (v := .ref q1) (ty := .array .int) (C := RX0) (T := TX0) (N := 5) hx hb htg (by decide +kernel) tyX0 tyX0_ok nmX0 hown hK hP hD hS 0 rfl rfl 2 (by decide) (htg (.fieldLink RX0 9 RX0 "place" "[I") (by decide +kernel)) (fun _ h9 => h9) rfl hin rfl (by decide +kernel) rfl rfl (Nat.le_of_ble_eq_true rfl) (show decode cX0_init 9 = .ok (.putfield 9, 3) by decide +kernel) (fun H locs hP hD hS => ?_)
  have hP : va_P D vwCl [(h0, .inr (0, [.int 0, .int 0, .ref q1, .null, .null])), (q1, .inl (k1, a0i 6))] H := hP
  have hD : va_D A [(h0, .inr (0, [.int 0, .int 0, .ref q1, .null, .null])), (q1, .inl (k1, a0i 6))] := hD
  refine lv_aload_n hx hb (show decode cX0_init 12 = .ok (.aload_n 0, 1) by decide +kernel) rfl (lv_at hl 0 rfl) ?_
  refine lv_bipush (v := 6) hx hb (show decode cX0_init 13 = .ok (.bipush 6, 2) by decide +kernel) rfl ?_
  refine va_newa (atype := .int) (a0 := a0i 6) (N' := 6) (ty := .int) hx hb (htg _ ac_int) rfl hK hP hD hS hA (fun _ => rfl) (by decide) (by decide) (by decide) (Nat.le_of_ble_eq_true rfl) (Nat.le_of_ble_eq_true rfl) (show decode cX0_init 15 = .ok (.newarray .int, 2) by decide +kernel) (fun q2 k2 H hK hP hD hS => ?_)
  have hP : va_P D vwCl [(h0, .inr (0, [.int 0, .int 0, .ref q1, .null, .null])), (q1, .inl (k1, a0i 6)), (q2, .inl (k2, a0i 6))] H := hP
  have hD : va_D A [(h0, .inr (0, [.int 0, .int 0, .ref q1, .null, .null])), (q1, .inl (k1, a0i 6)), (q2, .inl (k2, a0i 6))] := hD
  refine va_putF (D := D) (ci := 0) (v := .ref q2) (ty := .array .int) (C := RX0) (T := TX0) (N := 5) hx hb htg (by decide +kernel) tyX0 tyX0_ok nmX0 hown hK hP hD hS 0 rfl rfl 3 (by decide) (htg (.fieldLink RX0 15 RX0 "free" "[I") (by decide +kernel)) (fun _ h9 => h9) rfl hin rfl (by decide +kernel) rfl rfl (Nat.le_of_ble_eq_true rfl) (show decode cX0_init 17 = .ok (.putfield 15, 3) by decide +kernel) (fun H locs hP hD hS => ?_)
  have hP : va_P D vwCl [(h0, .inr (0, [.int 0, .int 0, .ref q1, .ref q2, .null])), (q1, .inl (k1, a0i 6)), (q2, .inl (k2, a0i 6))] H := hP
  have hD : va_D A [(h0, .inr (0, [.int 0, .int 0, .ref q1, .ref q2, .null])), (q1, .inl (k1, a0i 6)), (q2, .inl (k2, a0i 6))] := hD
  refine lv_aload_n hx hb (show decode cX0_init 20 = .ok (.aload_n 0, 1) by decide +kernel) rfl (lv_at hl 0 rfl) ?_
  refine lv_bipush (v := 6) hx hb (show decode cX0_init 21 = .ok (.bipush 6, 2) by decide +kernel) rfl ?_
  refine va_newa (atype := .int) (a0 := a0i 6) (N' := 6) (ty := .int) hx hb (htg _ ac_int) rfl hK hP hD hS hA (fun _ => rfl) (by decide) (by decide) (by decide) (Nat.le_of_ble_eq_true rfl) (Nat.le_of_ble_eq_true rfl) (show decode cX0_init 23 = .ok (.newarray .int, 2) by decide +kernel) (fun q3 k3 H hK hP hD hS => ?_)
  have hP : va_P D vwCl [(h0, .inr (0, [.int 0, .int 0, .ref q1, .ref q2, .null])), (q1, .inl (k1, a0i 6)), (q2, .inl (k2, a0i 6)), (q3, .inl (k3, a0i 6))] H := hP
  have hD : va_D A [(h0, .inr (0, [.int 0, .int 0, .ref q1, .ref q2, .null])), (q1, .inl (k1, a0i 6)), (q2, .inl (k2, a0i 6)), (q3, .inl (k3, a0i 6))] := hD
  refine va_putF (D := D) (ci := 0) (v := .ref q3) (ty := .array .int) (C := RX0) (T := TX0) (N := 5) hx hb htg (by decide +kernel) tyX0 tyX0_ok nmX0 hown hK hP hD hS 0 rfl rfl 4 (by decide) (htg (.fieldLink RX0 18 RX0 "orders" "[I") (by decide +kernel)) (fun _ h9 => h9) rfl hin rfl (by decide +kernel) rfl rfl (Nat.le_of_ble_eq_true rfl) (show decode cX0_init 25 = .ok (.putfield 18, 3) by decide +kernel) (fun H locs hP hD hS => ?_)
  have hP : va_P D vwCl [(h0, .inr (0, [.int 0, .int 0, .ref q1, .ref q2, .ref q3])), (q1, .inl (k1, a0i 6)), (q2, .inl (k2, a0i 6)), (q3, .inl (k3, a0i 6))] H := hP
  have hD : va_D A [(h0, .inr (0, [.int 0, .int 0, .ref q1, .ref q2, .ref q3])), (q1, .inl (k1, a0i 6)), (q2, .inl (k2, a0i 6)), (q3, .inl (k3, a0i 6))] := hD
  have hK : va_K D vwCl [(k1, .int), (k2, .int), (k3, .int)] s := hK
  exact W.vret hx hb hr (fun t ht hW => ⟨⟨(), rfl, trivial, q1, q2, q3, k1, k2, k3, by rw [ht]; exact hP, va_K.moved hW.alike hK, hD⟩, hS.F ht⟩) hS.2.2 (show decode cX0_init 28 = .ok (.return_, 1) by decide +kernel)
