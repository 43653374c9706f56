abbrev pl0 (kI kB : ClassId) (q q1 q2 q3 : Nat) : va_W := [(q, .inr (0, [.int 0, .int 0, .ref q1, .ref q2, .ref q3])), (q1, .inl (kI, a0i 6)), (q2, .inl (kI, a0i 6)), (q3, .inl (kI, a0i 6))]
abbrev fs0 : List Value := [.int 0, .int 0, .null, .null, .null]
theorem df0 : ∀ j, j < 5 → defaultValue (tyX0 j) = vp_V fs0 j := by decide
abbrev pl1 (kI kB : ClassId) (q q1 q2 : Nat) : va_W := [(q, .inr (1, [.ref q1, .ref q2])), (q1, .inl (kI, a0i 64)), (q2, .inl (kI, a0i 64))]
abbrev fs1 : List Value := [.null, .null]
theorem df1 : ∀ j, j < 2 → defaultValue (tyX1 j) = vp_V fs1 j := by decide
abbrev pl2 (kI kB : ClassId) (q q1 q2 q3 : Nat) : va_W := [(q, .inr (2, [.int 0, .ref q1, .ref q2, .ref q3])), (q1, .inl (kI, a0i 64)), (q2, .inl (kI, a0i 64)), (q3, .inl (kB, a0i 64))]
abbrev fs2 : List Value := [.int 0, .null, .null, .null]
theorem df2 : ∀ j, j < 4 → defaultValue (tyX2 j) = vp_V fs2 j := by decide
abbrev pl3 (kI kB : ClassId) (q q1 q2 q3 q4 q5 q6 q7 q8 q9 q10 q11 q12 q13 q14 q15 : Nat) : va_W := [(q, .inr (3, [.int 0, .int 0, .int 0, .ref q1, .ref q2, .ref q3, .ref q4, .ref q5, .ref q6, .ref q7, .ref q8, .ref q9, .ref q10, .ref q11, .int 0, .ref q12, .ref q13, .ref q14, .ref q15])), (q1, .inl (kI, a0i 64)), (q2, .inl (kI, a0i 64)), (q3, .inl (kI, a0i 64)), (q4, .inl (kI, a0i 64)), (q5, .inl (kI, a0i 64)), (q6, .inl (kI, a0i 64)), (q7, .inl (kB, a0i 64)), (q8, .inl (kB, a0i 64)), (q9, .inl (kB, a0i 64)), (q10, .inl (kI, a0i 512)), (q11, .inl (kI, a0i 64)), (q12, .inl (kI, a0i 64)), (q13, .inl (kI, a0i 64)), (q14, .inl (kI, a0i 40)), (q15, .inl (kI, a0i 40))]
abbrev fs3 : List Value := [.int 0, .int 0, .int 0, .null, .null, .null, .null, .null, .null, .null, .null, .null, .null, .null, .int 0, .null, .null, .null, .null]
theorem df3 : ∀ j, j < 19 → defaultValue (tyX3 j) = vp_V fs3 j := by decide
abbrev pl4 (kI kB : ClassId) (q q1 q2 : Nat) : va_W := [(q, .inr (4, [.int 0, .ref q1, .ref q2])), (q1, .inl (kI, a0i 6)), (q2, .inl (kI, a0i 6))]
abbrev fs4 : List Value := [.int 0, .null, .null]
theorem df4 : ∀ j, j < 3 → defaultValue (tyX4 j) = vp_V fs4 j := by decide
abbrev pl5 (kI kB : ClassId) (q q1 q2 q3 : Nat) : va_W := [(q, .inr (5, [.int 0, .ref q1, .ref q2, .ref q3])), (q1, .inl (kI, a0i 6)), (q2, .inl (kI, a0i 6)), (q3, .inl (kI, a0i 6))]
abbrev fs5 : List Value := [.int 0, .null, .null, .null]
theorem df5 : ∀ j, j < 4 → defaultValue (tyX5 j) = vp_V fs5 j := by decide
abbrev pl6 (kI kB : ClassId) (q q1 q2 q3 : Nat) : va_W := [(q, .inr (6, [.int 0, .ref q1, .ref q2, .ref q3])), (q1, .inl (kI, a0i 65)), (q2, .inl (kI, a0i 64)), (q3, .inl (kI, a0i 64))]
abbrev fs6 : List Value := [.int 0, .null, .null, .null]
theorem df6 : ∀ j, j < 4 → defaultValue (tyX6 j) = vp_V fs6 j := by decide
abbrev pl7 (kI kB : ClassId) (q q1 q2 q3 : Nat) : va_W := [(q, .inr (7, [.int 0, .ref q1, .ref q2, .ref q3])), (q1, .inl (kI, a0i 8)), (q2, .inl (kI, a0i 8)), (q3, .inl (kI, a0i 8))]
abbrev fs7 : List Value := [.int 0, .null, .null, .null]
theorem df7 : ∀ j, j < 4 → defaultValue (tyX7 j) = vp_V fs7 j := by decide
def nst8 : List Cond := [.methodLinkNest RX8 9 yX3_init "FireLines", .methodLinkNest RX8 28 yX7_init "FireLines", .methodLinkNest RX8 29 yX2_init "FireLines", .methodLinkNest RX8 36 yX1_init "FireLines", .methodLinkNest RX8 43 yX0_init "FireLines", .methodLinkNest RX8 50 yX5_init "FireLines", .methodLinkNest RX8 57 yX6_init "FireLines", .methodLinkNest RX8 64 yX4_init "FireLines"]
theorem nl_X3 : Cond.methodLinkNest RX8 9 yX3_init "FireLines" ∈ nst8 := by unfold nst8; simp
theorem cl_X3 : Cond.classLink RX8 7 RX3 ∈ gtbl := by decide +kernel
theorem is_X3 : Cond.instantiable RX3 19 ∈ gtbl := by decide +kernel
theorem ii_X3 : Cond.initialized RX3 ∈ gtbl := by decide +kernel
theorem cd_X3 : Cond.code yX3_init cX3_init 1 none ∈ gtbl := by decide +kernel
theorem im_X3 : Cond.instanceMethod yX3_init ∈ gtbl := by decide +kernel
theorem nl_X7 : Cond.methodLinkNest RX8 28 yX7_init "FireLines" ∈ nst8 := by unfold nst8; simp
theorem cl_X7 : Cond.classLink RX8 16 RX7 ∈ gtbl := by decide +kernel
theorem is_X7 : Cond.instantiable RX7 4 ∈ gtbl := by decide +kernel
theorem ii_X7 : Cond.initialized RX7 ∈ gtbl := by decide +kernel
theorem cd_X7 : Cond.code yX7_init cX7_init 1 none ∈ gtbl := by decide +kernel
theorem im_X7 : Cond.instanceMethod yX7_init ∈ gtbl := by decide +kernel
theorem nl_X2 : Cond.methodLinkNest RX8 29 yX2_init "FireLines" ∈ nst8 := by unfold nst8; simp
theorem cl_X2 : Cond.classLink RX8 22 RX2 ∈ gtbl := by decide +kernel
theorem is_X2 : Cond.instantiable RX2 4 ∈ gtbl := by decide +kernel
theorem ii_X2 : Cond.initialized RX2 ∈ gtbl := by decide +kernel
theorem cd_X2 : Cond.code yX2_init cX2_init 1 none ∈ gtbl := by decide +kernel
theorem im_X2 : Cond.instanceMethod yX2_init ∈ gtbl := by decide +kernel
theorem nl_X1 : Cond.methodLinkNest RX8 36 yX1_init "FireLines" ∈ nst8 := by unfold nst8; simp
theorem cl_X1 : Cond.classLink RX8 34 RX1 ∈ gtbl := by decide +kernel
theorem is_X1 : Cond.instantiable RX1 2 ∈ gtbl := by decide +kernel
theorem ii_X1 : Cond.initialized RX1 ∈ gtbl := by decide +kernel
theorem cd_X1 : Cond.code yX1_init cX1_init 1 none ∈ gtbl := by decide +kernel
theorem im_X1 : Cond.instanceMethod yX1_init ∈ gtbl := by decide +kernel
theorem nl_X0 : Cond.methodLinkNest RX8 43 yX0_init "FireLines" ∈ nst8 := by unfold nst8; simp
theorem cl_X0 : Cond.classLink RX8 41 RX0 ∈ gtbl := by decide +kernel
theorem is_X0 : Cond.instantiable RX0 5 ∈ gtbl := by decide +kernel
theorem ii_X0 : Cond.initialized RX0 ∈ gtbl := by decide +kernel
theorem cd_X0 : Cond.code yX0_init cX0_init 1 none ∈ gtbl := by decide +kernel
theorem im_X0 : Cond.instanceMethod yX0_init ∈ gtbl := by decide +kernel
theorem nl_X5 : Cond.methodLinkNest RX8 50 yX5_init "FireLines" ∈ nst8 := by unfold nst8; simp
theorem cl_X5 : Cond.classLink RX8 48 RX5 ∈ gtbl := by decide +kernel
theorem is_X5 : Cond.instantiable RX5 4 ∈ gtbl := by decide +kernel
theorem ii_X5 : Cond.initialized RX5 ∈ gtbl := by decide +kernel
theorem cd_X5 : Cond.code yX5_init cX5_init 1 none ∈ gtbl := by decide +kernel
theorem im_X5 : Cond.instanceMethod yX5_init ∈ gtbl := by decide +kernel
theorem nl_X6 : Cond.methodLinkNest RX8 57 yX6_init "FireLines" ∈ nst8 := by unfold nst8; simp
theorem cl_X6 : Cond.classLink RX8 55 RX6 ∈ gtbl := by decide +kernel
theorem is_X6 : Cond.instantiable RX6 4 ∈ gtbl := by decide +kernel
theorem ii_X6 : Cond.initialized RX6 ∈ gtbl := by decide +kernel
theorem cd_X6 : Cond.code yX6_init cX6_init 1 none ∈ gtbl := by decide +kernel
theorem im_X6 : Cond.instanceMethod yX6_init ∈ gtbl := by decide +kernel
theorem nl_X4 : Cond.methodLinkNest RX8 64 yX4_init "FireLines" ∈ nst8 := by unfold nst8; simp
theorem cl_X4 : Cond.classLink RX8 62 RX4 ∈ gtbl := by decide +kernel
theorem is_X4 : Cond.instantiable RX4 3 ∈ gtbl := by decide +kernel
theorem ii_X4 : Cond.initialized RX4 ∈ gtbl := by decide +kernel
theorem cd_X4 : Cond.code yX4_init cX4_init 1 none ∈ gtbl := by decide +kernel
theorem im_X4 : Cond.instanceMethod yX4_init ∈ gtbl := by decide +kernel
def C8 (p : Program) (s : State) (m : MethodId) (meth : Method) (c : Code) (D : va_G) (h0 : Nat) (A : Nat → Prop) (kI kB : ClassId) : Prop :=
  CallFix p m c cX8_init 2 s #[Value.ref h0] gtbl RX8 ∧ meth.name = "<init>" ∧ (∀ q : Nat, s.heap.size ≤ q → A q) ∧ va_K D vwCl [] s ∧ (∀ w ∈ nst8, nestB w = true ∧ va_Nw w s) ∧ s.vm.findClass "[I" = some kI ∧ s.vm.findClass "[Z" = some kB
abbrev oR (kk : ClassId) (f : Nat → Option Nat) : va_E := .inl (kk, 4, .inr (.inr (.inr (.inr f))))
abbrev rr8 : Room := { frames := 4, cells := 72, slots := 2866, locals := 95 }
set_option maxHeartbeats 2000000 in
theorem n_X3_5 {p : Program} {l : Launch} {e : Env} {s : State} {m : MethodId} {below : List Frame} {meth : Method} {c : Code} {D : va_G} {h0 : Nat} {A : Nat → Prop} {H : Heap} {locs : List Loc} {cells slots : Nat} {Q : State → Prop} {ls : Array Slot} {rest : List Value} {a b : va_W} (F : CallFix p m c cX8_init 2 s #[Value.ref h0] gtbl RX8) (hK : va_K D vwCl [] s) (hA : ∀ q : Nat, s.heap.size ≤ q → A q) (hN : ∀ w ∈ nst8, nestB w = true ∧ va_Nw w s) (hP : va_P D vwCl (a ++ b) H) (hD : va_D A (a ++ b)) (hS : va_S A s.heap H locs) (hsz : ls.size = 2) (hrest : (rest.map fun v => v.category).sum ≤ 5) (hcells : cells + 1 + 15 ≤ 72 ∧ slots + 19 + 1360 ≤ 2866) (kk : ∀ (q q1 q2 q3 q4 q5 q6 q7 q8 q9 q10 q11 q12 q13 q14 q15 : Nat) (kI kB : ClassId) (H1 : Heap) (locs1 : List Loc), va_K D vwCl [(kI, .int), (kB, .boolean)] s → va_P D vwCl ((a ++ pl3 kI kB q q1 q2 q3 q4 q5 q6 q7 q8 q9 q10 q11 q12 q13 q14 q15) ++ b) H1 → va_D A ((a ++ pl3 kI kB q q1 q2 q3 q4 q5 q6 q7 q8 q9 q10 q11 q12 q13 q14 q15) ++ b) → va_S A s.heap H1 locs1 → W p l e rr8 s m #[Value.ref h0] below meth c H1 locs1 (cells + 1 + 15) (slots + 19 + 1360) Q (F0 m 12 ls (.ref q :: rest))) : W p l e rr8 s m #[Value.ref h0] below meth c H locs cells slots Q (F0 m 5 ls rest) := by
  refine mk8 (D := D) (fs := fs3) (T := TX3) F inX3 tyX3 tyX3_ok cl_X3 is_X3 ii_X3 hK hP hD hS hA rfl df3 (c_X3 l D) rfl rfl (hN _ nl_X3).2 cd_X3 im_X3 rfl rfl (by decide +kernel) ⟨(Nat.le_of_ble_eq_true rfl), (Nat.le_of_ble_eq_true rfl)⟩ hsz hrest (show decode cX8_init 5 = .ok (.new 7, 3) by decide +kernel) (show decode cX8_init 8 = .ok (.dup, 1) by decide +kernel) (show decode cX8_init 9 = .ok (.invokespecial 9, 3) by decide +kernel) hcells (fun q sz t H1 locs1 ht hvm hB hj hS => ?_)
  obtain ⟨q1, q2, q3, q4, q5, q6, q7, q8, q9, q10, q11, q12, q13, q14, q15, k1, k2, k3, k4, k5, k6, k7, k8, k9, k10, k11, k12, k13, k14, k15, hP1, hK1, hD1⟩ := hB
  rw [ht] at hP1
  have hK1 := va_K.moved hvm.symm hK1
  have hkI := K_int hK1 (a := k1) (by simp)
  have hkB := K_bool hK1 (a := k7) (by simp)
  obtain rfl := some_eq hkI (K_int hK1 (a := k2) (by simp))
  obtain rfl := some_eq hkI (K_int hK1 (a := k3) (by simp))
  obtain rfl := some_eq hkI (K_int hK1 (a := k4) (by simp))
  obtain rfl := some_eq hkI (K_int hK1 (a := k5) (by simp))
  obtain rfl := some_eq hkI (K_int hK1 (a := k6) (by simp))
  obtain rfl := some_eq hkI (K_int hK1 (a := k10) (by simp))
  obtain rfl := some_eq hkI (K_int hK1 (a := k11) (by simp))
  obtain rfl := some_eq hkI (K_int hK1 (a := k12) (by simp))
  obtain rfl := some_eq hkI (K_int hK1 (a := k13) (by simp))
  obtain rfl := some_eq hkI (K_int hK1 (a := k14) (by simp))
  obtain rfl := some_eq hkI (K_int hK1 (a := k15) (by simp))
  obtain rfl := some_eq hkB (K_bool hK1 (a := k8) (by simp))
  obtain rfl := some_eq hkB (K_bool hK1 (a := k9) (by simp))
  obtain ⟨hP2, hD2⟩ := hj _ hP1 hD1
  exact kk q q1 q2 q3 q4 q5 q6 q7 q8 q9 q10 q11 q12 q13 q14 q15 k1 k7 H1 locs1 (hK1.sub [0, 6] rfl) hP2 hD2 hS
set_option maxHeartbeats 2000000 in
theorem n_X7_43 {p : Program} {l : Launch} {e : Env} {s : State} {m : MethodId} {below : List Frame} {meth : Method} {c : Code} {D : va_G} {h0 : Nat} {A : Nat → Prop} {kI kB : ClassId} {H : Heap} {locs : List Loc} {cells slots : Nat} {Q : State → Prop} {ls : Array Slot} {rest : List Value} {a b : va_W} (C : C8 p s m meth c D h0 A kI kB) (hP : va_P D vwCl (a ++ b) H) (hD : va_D A (a ++ b)) (hS : va_S A s.heap H locs) (hsz : ls.size = 2) (hrest : (rest.map fun v => v.category).sum ≤ 5) (hcells : cells + 1 + 3 ≤ 72 ∧ slots + 4 + 24 ≤ 2866) (kk : ∀ (q q1 q2 q3 : Nat) (H1 : Heap) (locs1 : List Loc), va_P D vwCl ((a ++ pl7 kI kB q q1 q2 q3) ++ b) H1 → va_D A ((a ++ pl7 kI kB q q1 q2 q3) ++ b) → va_S A s.heap H1 locs1 → W p l e rr8 s m #[Value.ref h0] below meth c H1 locs1 (cells + 1 + 3) (slots + 4 + 24) Q (F0 m 50 ls (.ref q :: rest))) : W p l e rr8 s m #[Value.ref h0] below meth c H locs cells slots Q (F0 m 43 ls rest) := by
  obtain ⟨F, hin, hA, hK, hN, hkI, hkB⟩ := C
  refine mk8 (D := D) (fs := fs7) (T := TX7) F inX7 tyX7 tyX7_ok cl_X7 is_X7 ii_X7 hK hP hD hS hA rfl df7 (c_X7 l D) rfl rfl (hN _ nl_X7).2 cd_X7 im_X7 rfl rfl (by decide +kernel) ⟨(Nat.le_of_ble_eq_true rfl), (Nat.le_of_ble_eq_true rfl)⟩ hsz hrest (show decode cX8_init 43 = .ok (.new 16, 3) by decide +kernel) (show decode cX8_init 46 = .ok (.dup, 1) by decide +kernel) (show decode cX8_init 47 = .ok (.invokespecial 28, 3) by decide +kernel) hcells (fun q sz t H1 locs1 ht hvm hB hj hS => ?_)
  obtain ⟨q1, q2, q3, k1, k2, k3, hP1, hK1, hD1⟩ := hB
  rw [ht] at hP1
  have hK1 := va_K.moved hvm.symm hK1
  obtain rfl := some_eq hkI (K_int hK1 (a := k1) (by simp))
  obtain rfl := some_eq hkI (K_int hK1 (a := k2) (by simp))
  obtain rfl := some_eq hkI (K_int hK1 (a := k3) (by simp))
  obtain ⟨hP2, hD2⟩ := hj _ hP1 hD1
  exact kk q q1 q2 q3 H1 locs1 hP2 hD2 hS
set_option maxHeartbeats 2000000 in
theorem n_X2_56 {p : Program} {l : Launch} {e : Env} {s : State} {m : MethodId} {below : List Frame} {meth : Method} {c : Code} {D : va_G} {h0 : Nat} {A : Nat → Prop} {kI kB : ClassId} {H : Heap} {locs : List Loc} {cells slots : Nat} {Q : State → Prop} {ls : Array Slot} {rest : List Value} {a b : va_W} (C : C8 p s m meth c D h0 A kI kB) (hP : va_P D vwCl (a ++ b) H) (hD : va_D A (a ++ b)) (hS : va_S A s.heap H locs) (hsz : ls.size = 2) (hrest : (rest.map fun v => v.category).sum ≤ 5) (hcells : cells + 1 + 3 ≤ 72 ∧ slots + 4 + 192 ≤ 2866) (kk : ∀ (q q1 q2 q3 : Nat) (H1 : Heap) (locs1 : List Loc), va_P D vwCl ((a ++ pl2 kI kB q q1 q2 q3) ++ b) H1 → va_D A ((a ++ pl2 kI kB q q1 q2 q3) ++ b) → va_S A s.heap H1 locs1 → W p l e rr8 s m #[Value.ref h0] below meth c H1 locs1 (cells + 1 + 3) (slots + 4 + 192) Q (F0 m 63 ls (.ref q :: rest))) : W p l e rr8 s m #[Value.ref h0] below meth c H locs cells slots Q (F0 m 56 ls rest) := by
  obtain ⟨F, hin, hA, hK, hN, hkI, hkB⟩ := C
  refine mk8 (D := D) (fs := fs2) (T := TX2) F inX2 tyX2 tyX2_ok cl_X2 is_X2 ii_X2 hK hP hD hS hA rfl df2 (c_X2 l D) rfl rfl (hN _ nl_X2).2 cd_X2 im_X2 rfl rfl (by decide +kernel) ⟨(Nat.le_of_ble_eq_true rfl), (Nat.le_of_ble_eq_true rfl)⟩ hsz hrest (show decode cX8_init 56 = .ok (.new 22, 3) by decide +kernel) (show decode cX8_init 59 = .ok (.dup, 1) by decide +kernel) (show decode cX8_init 60 = .ok (.invokespecial 29, 3) by decide +kernel) hcells (fun q sz t H1 locs1 ht hvm hB hj hS => ?_)
  obtain ⟨q1, q2, q3, k1, k2, k3, hP1, hK1, hD1⟩ := hB
  rw [ht] at hP1
  have hK1 := va_K.moved hvm.symm hK1
  obtain rfl := some_eq hkI (K_int hK1 (a := k1) (by simp))
  obtain rfl := some_eq hkI (K_int hK1 (a := k2) (by simp))
  obtain rfl := some_eq hkB (K_bool hK1 (a := k3) (by simp))
  obtain ⟨hP2, hD2⟩ := hj _ hP1 hD1
  exact kk q q1 q2 q3 H1 locs1 hP2 hD2 hS
set_option maxHeartbeats 2000000 in
theorem n_X2_71 {p : Program} {l : Launch} {e : Env} {s : State} {m : MethodId} {below : List Frame} {meth : Method} {c : Code} {D : va_G} {h0 : Nat} {A : Nat → Prop} {kI kB : ClassId} {H : Heap} {locs : List Loc} {cells slots : Nat} {Q : State → Prop} {ls : Array Slot} {rest : List Value} {a b : va_W} (C : C8 p s m meth c D h0 A kI kB) (hP : va_P D vwCl (a ++ b) H) (hD : va_D A (a ++ b)) (hS : va_S A s.heap H locs) (hsz : ls.size = 2) (hrest : (rest.map fun v => v.category).sum ≤ 5) (hcells : cells + 1 + 3 ≤ 72 ∧ slots + 4 + 192 ≤ 2866) (kk : ∀ (q q1 q2 q3 : Nat) (H1 : Heap) (locs1 : List Loc), va_P D vwCl ((a ++ pl2 kI kB q q1 q2 q3) ++ b) H1 → va_D A ((a ++ pl2 kI kB q q1 q2 q3) ++ b) → va_S A s.heap H1 locs1 → W p l e rr8 s m #[Value.ref h0] below meth c H1 locs1 (cells + 1 + 3) (slots + 4 + 192) Q (F0 m 78 ls (.ref q :: rest))) : W p l e rr8 s m #[Value.ref h0] below meth c H locs cells slots Q (F0 m 71 ls rest) := by
  obtain ⟨F, hin, hA, hK, hN, hkI, hkB⟩ := C
  refine mk8 (D := D) (fs := fs2) (T := TX2) F inX2 tyX2 tyX2_ok cl_X2 is_X2 ii_X2 hK hP hD hS hA rfl df2 (c_X2 l D) rfl rfl (hN _ nl_X2).2 cd_X2 im_X2 rfl rfl (by decide +kernel) ⟨(Nat.le_of_ble_eq_true rfl), (Nat.le_of_ble_eq_true rfl)⟩ hsz hrest (show decode cX8_init 71 = .ok (.new 22, 3) by decide +kernel) (show decode cX8_init 74 = .ok (.dup, 1) by decide +kernel) (show decode cX8_init 75 = .ok (.invokespecial 29, 3) by decide +kernel) hcells (fun q sz t H1 locs1 ht hvm hB hj hS => ?_)
  obtain ⟨q1, q2, q3, k1, k2, k3, hP1, hK1, hD1⟩ := hB
  rw [ht] at hP1
  have hK1 := va_K.moved hvm.symm hK1
  obtain rfl := some_eq hkI (K_int hK1 (a := k1) (by simp))
  obtain rfl := some_eq hkI (K_int hK1 (a := k2) (by simp))
  obtain rfl := some_eq hkB (K_bool hK1 (a := k3) (by simp))
  obtain ⟨hP2, hD2⟩ := hj _ hP1 hD1
  exact kk q q1 q2 q3 H1 locs1 hP2 hD2 hS
set_option maxHeartbeats 2000000 in
theorem n_X1_82 {p : Program} {l : Launch} {e : Env} {s : State} {m : MethodId} {below : List Frame} {meth : Method} {c : Code} {D : va_G} {h0 : Nat} {A : Nat → Prop} {kI kB : ClassId} {H : Heap} {locs : List Loc} {cells slots : Nat} {Q : State → Prop} {ls : Array Slot} {rest : List Value} {a b : va_W} (C : C8 p s m meth c D h0 A kI kB) (hP : va_P D vwCl (a ++ b) H) (hD : va_D A (a ++ b)) (hS : va_S A s.heap H locs) (hsz : ls.size = 2) (hrest : (rest.map fun v => v.category).sum ≤ 5) (hcells : cells + 1 + 2 ≤ 72 ∧ slots + 2 + 128 ≤ 2866) (kk : ∀ (q q1 q2 : Nat) (H1 : Heap) (locs1 : List Loc), va_P D vwCl ((a ++ pl1 kI kB q q1 q2) ++ b) H1 → va_D A ((a ++ pl1 kI kB q q1 q2) ++ b) → va_S A s.heap H1 locs1 → W p l e rr8 s m #[Value.ref h0] below meth c H1 locs1 (cells + 1 + 2) (slots + 2 + 128) Q (F0 m 89 ls (.ref q :: rest))) : W p l e rr8 s m #[Value.ref h0] below meth c H locs cells slots Q (F0 m 82 ls rest) := by
  obtain ⟨F, hin, hA, hK, hN, hkI, hkB⟩ := C
  refine mk8 (D := D) (fs := fs1) (T := TX1) F inX1 tyX1 tyX1_ok cl_X1 is_X1 ii_X1 hK hP hD hS hA rfl df1 (c_X1 l D) rfl rfl (hN _ nl_X1).2 cd_X1 im_X1 rfl rfl (by decide +kernel) ⟨(Nat.le_of_ble_eq_true rfl), (Nat.le_of_ble_eq_true rfl)⟩ hsz hrest (show decode cX8_init 82 = .ok (.new 34, 3) by decide +kernel) (show decode cX8_init 85 = .ok (.dup, 1) by decide +kernel) (show decode cX8_init 86 = .ok (.invokespecial 36, 3) by decide +kernel) hcells (fun q sz t H1 locs1 ht hvm hB hj hS => ?_)
  obtain ⟨q1, q2, k1, k2, hP1, hK1, hD1⟩ := hB
  rw [ht] at hP1
  have hK1 := va_K.moved hvm.symm hK1
  obtain rfl := some_eq hkI (K_int hK1 (a := k1) (by simp))
  obtain rfl := some_eq hkI (K_int hK1 (a := k2) (by simp))
  obtain ⟨hP2, hD2⟩ := hj _ hP1 hD1
  exact kk q q1 q2 H1 locs1 hP2 hD2 hS
set_option maxHeartbeats 2000000 in
theorem n_X0_93 {p : Program} {l : Launch} {e : Env} {s : State} {m : MethodId} {below : List Frame} {meth : Method} {c : Code} {D : va_G} {h0 : Nat} {A : Nat → Prop} {kI kB : ClassId} {H : Heap} {locs : List Loc} {cells slots : Nat} {Q : State → Prop} {ls : Array Slot} {rest : List Value} {a b : va_W} (C : C8 p s m meth c D h0 A kI kB) (hP : va_P D vwCl (a ++ b) H) (hD : va_D A (a ++ b)) (hS : va_S A s.heap H locs) (hsz : ls.size = 2) (hrest : (rest.map fun v => v.category).sum ≤ 5) (hcells : cells + 1 + 3 ≤ 72 ∧ slots + 5 + 18 ≤ 2866) (kk : ∀ (q q1 q2 q3 : Nat) (H1 : Heap) (locs1 : List Loc), va_P D vwCl ((a ++ pl0 kI kB q q1 q2 q3) ++ b) H1 → va_D A ((a ++ pl0 kI kB q q1 q2 q3) ++ b) → va_S A s.heap H1 locs1 → W p l e rr8 s m #[Value.ref h0] below meth c H1 locs1 (cells + 1 + 3) (slots + 5 + 18) Q (F0 m 100 ls (.ref q :: rest))) : W p l e rr8 s m #[Value.ref h0] below meth c H locs cells slots Q (F0 m 93 ls rest) := by
  obtain ⟨F, hin, hA, hK, hN, hkI, hkB⟩ := C
  refine mk8 (D := D) (fs := fs0) (T := TX0) F inX0 tyX0 tyX0_ok cl_X0 is_X0 ii_X0 hK hP hD hS hA rfl df0 (c_X0 l D) rfl rfl (hN _ nl_X0).2 cd_X0 im_X0 rfl rfl (by decide +kernel) ⟨(Nat.le_of_ble_eq_true rfl), (Nat.le_of_ble_eq_true rfl)⟩ hsz hrest (show decode cX8_init 93 = .ok (.new 41, 3) by decide +kernel) (show decode cX8_init 96 = .ok (.dup, 1) by decide +kernel) (show decode cX8_init 97 = .ok (.invokespecial 43, 3) by decide +kernel) hcells (fun q sz t H1 locs1 ht hvm hB hj hS => ?_)
  obtain ⟨q1, q2, q3, k1, k2, k3, hP1, hK1, hD1⟩ := hB
  rw [ht] at hP1
  have hK1 := va_K.moved hvm.symm hK1
  obtain rfl := some_eq hkI (K_int hK1 (a := k1) (by simp))
  obtain rfl := some_eq hkI (K_int hK1 (a := k2) (by simp))
  obtain rfl := some_eq hkI (K_int hK1 (a := k3) (by simp))
  obtain ⟨hP2, hD2⟩ := hj _ hP1 hD1
  exact kk q q1 q2 q3 H1 locs1 hP2 hD2 hS
set_option maxHeartbeats 2000000 in
theorem n_X5_104 {p : Program} {l : Launch} {e : Env} {s : State} {m : MethodId} {below : List Frame} {meth : Method} {c : Code} {D : va_G} {h0 : Nat} {A : Nat → Prop} {kI kB : ClassId} {H : Heap} {locs : List Loc} {cells slots : Nat} {Q : State → Prop} {ls : Array Slot} {rest : List Value} {a b : va_W} (C : C8 p s m meth c D h0 A kI kB) (hP : va_P D vwCl (a ++ b) H) (hD : va_D A (a ++ b)) (hS : va_S A s.heap H locs) (hsz : ls.size = 2) (hrest : (rest.map fun v => v.category).sum ≤ 5) (hcells : cells + 1 + 3 ≤ 72 ∧ slots + 4 + 18 ≤ 2866) (kk : ∀ (q q1 q2 q3 : Nat) (H1 : Heap) (locs1 : List Loc), va_P D vwCl ((a ++ pl5 kI kB q q1 q2 q3) ++ b) H1 → va_D A ((a ++ pl5 kI kB q q1 q2 q3) ++ b) → va_S A s.heap H1 locs1 → W p l e rr8 s m #[Value.ref h0] below meth c H1 locs1 (cells + 1 + 3) (slots + 4 + 18) Q (F0 m 111 ls (.ref q :: rest))) : W p l e rr8 s m #[Value.ref h0] below meth c H locs cells slots Q (F0 m 104 ls rest) := by
  obtain ⟨F, hin, hA, hK, hN, hkI, hkB⟩ := C
  refine mk8 (D := D) (fs := fs5) (T := TX5) F inX5 tyX5 tyX5_ok cl_X5 is_X5 ii_X5 hK hP hD hS hA rfl df5 (c_X5 l D) rfl rfl (hN _ nl_X5).2 cd_X5 im_X5 rfl rfl (by decide +kernel) ⟨(Nat.le_of_ble_eq_true rfl), (Nat.le_of_ble_eq_true rfl)⟩ hsz hrest (show decode cX8_init 104 = .ok (.new 48, 3) by decide +kernel) (show decode cX8_init 107 = .ok (.dup, 1) by decide +kernel) (show decode cX8_init 108 = .ok (.invokespecial 50, 3) by decide +kernel) hcells (fun q sz t H1 locs1 ht hvm hB hj hS => ?_)
  obtain ⟨q1, q2, q3, k1, k2, k3, hP1, hK1, hD1⟩ := hB
  rw [ht] at hP1
  have hK1 := va_K.moved hvm.symm hK1
  obtain rfl := some_eq hkI (K_int hK1 (a := k1) (by simp))
  obtain rfl := some_eq hkI (K_int hK1 (a := k2) (by simp))
  obtain rfl := some_eq hkI (K_int hK1 (a := k3) (by simp))
  obtain ⟨hP2, hD2⟩ := hj _ hP1 hD1
  exact kk q q1 q2 q3 H1 locs1 hP2 hD2 hS
set_option maxHeartbeats 2000000 in
theorem n_X6_115 {p : Program} {l : Launch} {e : Env} {s : State} {m : MethodId} {below : List Frame} {meth : Method} {c : Code} {D : va_G} {h0 : Nat} {A : Nat → Prop} {kI kB : ClassId} {H : Heap} {locs : List Loc} {cells slots : Nat} {Q : State → Prop} {ls : Array Slot} {rest : List Value} {a b : va_W} (C : C8 p s m meth c D h0 A kI kB) (hP : va_P D vwCl (a ++ b) H) (hD : va_D A (a ++ b)) (hS : va_S A s.heap H locs) (hsz : ls.size = 2) (hrest : (rest.map fun v => v.category).sum ≤ 5) (hcells : cells + 1 + 3 ≤ 72 ∧ slots + 4 + 193 ≤ 2866) (kk : ∀ (q q1 q2 q3 : Nat) (H1 : Heap) (locs1 : List Loc), va_P D vwCl ((a ++ pl6 kI kB q q1 q2 q3) ++ b) H1 → va_D A ((a ++ pl6 kI kB q q1 q2 q3) ++ b) → va_S A s.heap H1 locs1 → W p l e rr8 s m #[Value.ref h0] below meth c H1 locs1 (cells + 1 + 3) (slots + 4 + 193) Q (F0 m 122 ls (.ref q :: rest))) : W p l e rr8 s m #[Value.ref h0] below meth c H locs cells slots Q (F0 m 115 ls rest) := by
  obtain ⟨F, hin, hA, hK, hN, hkI, hkB⟩ := C
  refine mk8 (D := D) (fs := fs6) (T := TX6) F inX6 tyX6 tyX6_ok cl_X6 is_X6 ii_X6 hK hP hD hS hA rfl df6 (c_X6 l D) rfl rfl (hN _ nl_X6).2 cd_X6 im_X6 rfl rfl (by decide +kernel) ⟨(Nat.le_of_ble_eq_true rfl), (Nat.le_of_ble_eq_true rfl)⟩ hsz hrest (show decode cX8_init 115 = .ok (.new 55, 3) by decide +kernel) (show decode cX8_init 118 = .ok (.dup, 1) by decide +kernel) (show decode cX8_init 119 = .ok (.invokespecial 57, 3) by decide +kernel) hcells (fun q sz t H1 locs1 ht hvm hB hj hS => ?_)
  obtain ⟨q1, q2, q3, k1, k2, k3, hP1, hK1, hD1⟩ := hB
  rw [ht] at hP1
  have hK1 := va_K.moved hvm.symm hK1
  obtain rfl := some_eq hkI (K_int hK1 (a := k1) (by simp))
  obtain rfl := some_eq hkI (K_int hK1 (a := k2) (by simp))
  obtain rfl := some_eq hkI (K_int hK1 (a := k3) (by simp))
  obtain ⟨hP2, hD2⟩ := hj _ hP1 hD1
  exact kk q q1 q2 q3 H1 locs1 hP2 hD2 hS
set_option maxHeartbeats 2000000 in
theorem n_X4_126 {p : Program} {l : Launch} {e : Env} {s : State} {m : MethodId} {below : List Frame} {meth : Method} {c : Code} {D : va_G} {h0 : Nat} {A : Nat → Prop} {kI kB : ClassId} {H : Heap} {locs : List Loc} {cells slots : Nat} {Q : State → Prop} {ls : Array Slot} {rest : List Value} {a b : va_W} (C : C8 p s m meth c D h0 A kI kB) (hP : va_P D vwCl (a ++ b) H) (hD : va_D A (a ++ b)) (hS : va_S A s.heap H locs) (hsz : ls.size = 2) (hrest : (rest.map fun v => v.category).sum ≤ 5) (hcells : cells + 1 + 2 ≤ 72 ∧ slots + 3 + 12 ≤ 2866) (kk : ∀ (q q1 q2 : Nat) (H1 : Heap) (locs1 : List Loc), va_P D vwCl ((a ++ pl4 kI kB q q1 q2) ++ b) H1 → va_D A ((a ++ pl4 kI kB q q1 q2) ++ b) → va_S A s.heap H1 locs1 → W p l e rr8 s m #[Value.ref h0] below meth c H1 locs1 (cells + 1 + 2) (slots + 3 + 12) Q (F0 m 133 ls (.ref q :: rest))) : W p l e rr8 s m #[Value.ref h0] below meth c H locs cells slots Q (F0 m 126 ls rest) := by
  obtain ⟨F, hin, hA, hK, hN, hkI, hkB⟩ := C
  refine mk8 (D := D) (fs := fs4) (T := TX4) F inX4 tyX4 tyX4_ok cl_X4 is_X4 ii_X4 hK hP hD hS hA rfl df4 (c_X4 l D) rfl rfl (hN _ nl_X4).2 cd_X4 im_X4 rfl rfl (by decide +kernel) ⟨(Nat.le_of_ble_eq_true rfl), (Nat.le_of_ble_eq_true rfl)⟩ hsz hrest (show decode cX8_init 126 = .ok (.new 62, 3) by decide +kernel) (show decode cX8_init 129 = .ok (.dup, 1) by decide +kernel) (show decode cX8_init 130 = .ok (.invokespecial 64, 3) by decide +kernel) hcells (fun q sz t H1 locs1 ht hvm hB hj hS => ?_)
  obtain ⟨q1, q2, k1, k2, hP1, hK1, hD1⟩ := hB
  rw [ht] at hP1
  have hK1 := va_K.moved hvm.symm hK1
  obtain rfl := some_eq hkI (K_int hK1 (a := k1) (by simp))
  obtain rfl := some_eq hkI (K_int hK1 (a := k2) (by simp))
  obtain ⟨hP2, hD2⟩ := hj _ hP1 hD1
  exact kk q q1 q2 H1 locs1 hP2 hD2 hS
