abbrev w9 (h0 : Nat) : va_W := [(h0, .inr (9, [.int 0, .int 0, .int 0, .int 0, .int 0, .int 0, .int 0, .int 0, .null, .null, .null, .null, .null, .null, .null, .null, .null, .null, .null, .null, .null, .null, .null, .null, .null, .null, .null, .null, .null, .null, .long 0, .null, .null, .null, .null, .null, .null, .null]))]
def adL (l : List Nat) (st : Nat → Nat) : Nat → Nat := fun k => if k < 1000 then l.getD k 0 else st (k - 1000)
theorem adI_of {S : SH} {ad : Nat → Nat} {cA : Nat → ClassId} {h : AH} {A : Nat → Prop} (hD : va_D A (wd S ad cA h)) : adI S ad ∧ ∀ q, wA S ad q → A q := by
  refine ⟨fun i j hi hj e => ?_, fun q hq => ?_⟩
  · exact hD.1 i j _ _ (wd_at (List.getElem?_eq_getElem hi)) (wd_at (List.getElem?_eq_getElem hj)) e
  · obtain ⟨k, hk, rfl⟩ := hq
    exact hD.2 k _ (wd_at (List.getElem?_eq_getElem hk))
def c9A (a b : ClassId) : Nat → ClassId := fun t => if t = 0 then a else b
set_option maxRecDepth 100000 in
theorem wd9 (h0 q1 q2 q3 q4 q5 q6 q7 q8 q9 q10 q11 q12 q13 q14 q15 q16 q17 q18 q19 q20 q21 q22 q23 q24 q25 q26 q27 q28 q29 : Nat) (kI kB : ClassId) (st : Nat → Nat) : wd SM (adL [h0, q1, q2, q3, q4, q5, q6, q7, q8, q9, q10, q11, q12, q13, q14, q15, q16, q17, q18, q19, q20, q21, q22, q23, q24, q25, q26, q27, q28, q29] st) (c9A kI kB) (fun _ _ => 0) = [(h0, .inr (9, [.int 0, .int 0, .int 0, .int 0, .int 0, .int 0, .int 0, .int 0, .ref q1, .ref q2, .ref q3, .ref q4, .ref q5, .ref q6, .ref q7, .ref q8, .ref q9, .ref q10, .ref q11, .ref q12, .ref q13, .ref q14, .ref q15, .ref q16, .ref q17, .ref q18, .ref q19, .ref q20, .ref q21, .ref q22, .long 0, .ref q23, .ref q24, .ref q25, .ref q26, .ref q27, .ref q28, .ref q29])), (q1, .inl (kI, a0i 64)), (q2, .inl (kI, a0i 64)), (q3, .inl (kI, a0i 64)), (q4, .inl (kI, a0i 64)), (q5, .inl (kI, a0i 64)), (q6, .inl (kI, a0i 64)), (q7, .inl (kB, a0i 64)), (q8, .inl (kB, a0i 64)), (q9, .inl (kB, a0i 64)), (q10, .inl (kI, a0i 4)), (q11, .inl (kI, a0i 32)), (q12, .inl (kI, a0i 32)), (q13, .inl (kI, a0i 32)), (q14, .inl (kI, a0i 40)), (q15, .inl (kI, a0i 40)), (q16, .inl (kI, a0i 6)), (q17, .inl (kI, a0i 6)), (q18, .inl (kI, a0i 6)), (q19, .inl (kI, a0i 6)), (q20, .inl (kI, a0i 6)), (q21, .inl (kI, a0i 6)), (q22, .inl (kI, a0i 6)), (q23, .inl (kI, a0i 64)), (q24, .inl (kI, a0i 64)), (q25, .inl (kB, a0i 64)), (q26, .inl (kB, a0i 64)), (q27, .inl (kB, a0i 64)), (q28, .inl (kI, a0i 64)), (q29, .inl (kI, a0i 64))] := by
  rw [wd_R]
  rfl
theorem oi_X9 : Cond.methodLink RX9 1 objectInit ∈ gtbl := by decide +kernel
set_option maxHeartbeats 4000000 in
set_option maxRecDepth 100000 in
theorem c_X9 (l : Launch) (D : va_G) (h0 sz : Nat) : Met l yX9_init (wI yX9_init cX9_init) ({ frames := 1, cells := 29, slots := 1246, locals := 30 }) (va_Pc [.ref h0] (fun U => U.heap.size = sz ∧ va_P D vwCl (w9 h0) U.heap ∧ va_K D vwCl [] U ∧ va_D (fun _ => True) (w9 h0))) (va_Qv (fun h : AH => P23 h (g0 (fun _ _ => 0) 6 6) ∧ h 0 30 = 0) (fun h t => ∃ (ad : Nat → Nat) (cA : Nat → ClassId), ad 0 = h0 ∧ Wd SM D ad cA h t t.heap ∧ ∀ q, wA SM ad q → va_A (w9 h0) sz q) (va_A (w9 h0) sz)) 29 1246 (va_A (w9 h0) sz) := by
  refine Met.ofW (cc := cX9_init) (maxL := 1) (ret := none) (by decide) rfl ?_
  intro p e s m args below meth c s₁ B hml hv
  obtain ⟨rfl, hsz, hP, hK, hD0⟩ := hv
  have hx := B.exec
  have hb := B.bytes
  have hr := B.returns
  have hts := atoms_spec (ws := wI yX9_init cX9_init) B.pre
  have htg : ∀ w ∈ gtbl, w.before #[Value.ref h0] s = true := fun w hw => hts w (List.mem_cons_of_mem _ hw)
  have hown : s.vm.findClass RX9 = some m.cls := findClass_of_methodNamed B.named
  have hin : meth.name = "<init>" := (name_of_methodNamed B.named B.method).1
  subst hsz
  have hD := hD0.self (sz := s.heap.size)
  generalize hAe : va_A (w9 h0) s.heap.size = A at hD ⊢
  have hA : ∀ q : Nat, s.heap.size ≤ q → A q := fun q h => by rw [← hAe]; exact Or.inr h
  have hl := lv_entry ([.ref h0]) (n := 1) (Nat.le_of_ble_eq_true rfl)
  rw [lg_entry_eq]
  generalize (lg_sl ([.ref h0]) ++ List.replicate (1 - (lg_sl ([.ref h0])).length) Slot.unset).toArray = ls at hl ⊢
  have hl : lv_has ls 1 [(0, .ref h0)] := hl
  refine lv_aload_n hx hb (show decode cX9_init 0 = .ok (.aload_n 0, 1) by decide +kernel) rfl (lv_at hl 0 rfl) ?_
  refine W.objInit hx hb hown (htg _ oi_X9) (htg _ oi_inst) (htg _ oi_code) rfl (by rw [hml]; exact hl.1) rfl (show decode cX9_init 1 = .ok (.invokespecial 1, 3) by decide +kernel) (Nat.le_of_ble_eq_true rfl) (Nat.le_of_ble_eq_true rfl) ?_
  refine W.eq (g2 := F0 m 4 ls []) rfl ?_
  refine x9_arr hx hb htg hown hin hA hl (Nat.le_refl 29) (Nat.le_refl 1246) hK hP hD ?_
  intro q1 q2 q3 q4 q5 q6 q7 q8 q9 q10 q11 q12 q13 q14 q15 q16 q17 q18 q19 q20 q21 q22 q23 q24 q25 q26 q27 q28 q29 k1 k2 k3 k4 k5 k6 k7 k8 k9 k10 k11 k12 k13 k14 k15 k16 k17 k18 k19 k20 k21 k22 k23 k24 k25 k26 k27 k28 k29 H locs hK hP hD hS
  obtain rfl := some_eq (K_int hK (a := k1) (by simp)) (K_int hK (a := k2) (by simp))
  obtain rfl := some_eq (K_int hK (a := k1) (by simp)) (K_int hK (a := k3) (by simp))
  obtain rfl := some_eq (K_int hK (a := k1) (by simp)) (K_int hK (a := k4) (by simp))
  obtain rfl := some_eq (K_int hK (a := k1) (by simp)) (K_int hK (a := k5) (by simp))
  obtain rfl := some_eq (K_int hK (a := k1) (by simp)) (K_int hK (a := k6) (by simp))
  obtain rfl := some_eq (K_int hK (a := k1) (by simp)) (K_int hK (a := k10) (by simp))
  obtain rfl := some_eq (K_int hK (a := k1) (by simp)) (K_int hK (a := k11) (by simp))
  obtain rfl := some_eq (K_int hK (a := k1) (by simp)) (K_int hK (a := k12) (by simp))
  obtain rfl := some_eq (K_int hK (a := k1) (by simp)) (K_int hK (a := k13) (by simp))
  obtain rfl := some_eq (K_int hK (a := k1) (by simp)) (K_int hK (a := k14) (by simp))
  obtain rfl := some_eq (K_int hK (a := k1) (by simp)) (K_int hK (a := k15) (by simp))
  obtain rfl := some_eq (K_int hK (a := k1) (by simp)) (K_int hK (a := k16) (by simp))
  obtain rfl := some_eq (K_int hK (a := k1) (by simp)) (K_int hK (a := k17) (by simp))
  obtain rfl := some_eq (K_int hK (a := k1) (by simp)) (K_int hK (a := k18) (by simp))
  obtain rfl := some_eq (K_int hK (a := k1) (by simp)) (K_int hK (a := k19) (by simp))
  obtain rfl := some_eq (K_int hK (a := k1) (by simp)) (K_int hK (a := k20) (by simp))
  obtain rfl := some_eq (K_int hK (a := k1) (by simp)) (K_int hK (a := k21) (by simp))
  obtain rfl := some_eq (K_int hK (a := k1) (by simp)) (K_int hK (a := k22) (by simp))
  obtain rfl := some_eq (K_int hK (a := k1) (by simp)) (K_int hK (a := k23) (by simp))
  obtain rfl := some_eq (K_int hK (a := k1) (by simp)) (K_int hK (a := k24) (by simp))
  obtain rfl := some_eq (K_int hK (a := k1) (by simp)) (K_int hK (a := k28) (by simp))
  obtain rfl := some_eq (K_int hK (a := k1) (by simp)) (K_int hK (a := k29) (by simp))
  obtain rfl := some_eq (K_bool hK (a := k7) (by simp)) (K_bool hK (a := k8) (by simp))
  obtain rfl := some_eq (K_bool hK (a := k7) (by simp)) (K_bool hK (a := k9) (by simp))
  obtain rfl := some_eq (K_bool hK (a := k7) (by simp)) (K_bool hK (a := k25) (by simp))
  obtain rfl := some_eq (K_bool hK (a := k7) (by simp)) (K_bool hK (a := k26) (by simp))
  obtain rfl := some_eq (K_bool hK (a := k7) (by simp)) (K_bool hK (a := k27) (by simp))
  have hK : va_K D vwCl (wT SM (c9A k1 k7)) s := hK.sub [0, 6] rfl
  rw [← wd9 h0 q1 q2 q3 q4 q5 q6 q7 q8 q9 q10 q11 q12 q13 q14 q15 q16 q17 q18 q19 q20 q21 q22 q23 q24 q25 q26 q27 q28 q29 k1 k7 (fun _ => 0)] at hP hD
  obtain ⟨hI, hwA⟩ := adI_of hD
  generalize had : adL [h0, q1, q2, q3, q4, q5, q6, q7, q8, q9, q10, q11, q12, q13, q14, q15, q16, q17, q18, q19, q20, q21, q22, q23, q24, q25, q26, q27, q28, q29] (fun _ => 0) = ad at hP hD hI hwA
  have h00 : ad 0 = h0 := by rw [← had]; rfl
  have hXm : ∀ (U : State) (G : Heap), wX SM ad U G := fun U G => ⟨fun i q hq => absurd hq (by simp [SM]), fun w hw => absurd hw (by simp [SM])⟩
  refine lv_aload_n hx hb (show decode cX9_init 235 = .ok (.aload_n 0, 1) by decide +kernel) rfl (lv_at hl 0 rfl) ?_
  refine lv_bipush (v := 6) hx hb (show decode cX9_init 236 = .ok (.bipush 6, 2) by decide +kernel) rfl ?_
  refine lv_bipush (v := 6) hx hb (show decode cX9_init 238 = .ok (.bipush 6, 2) by decide +kernel) rfl ?_
  refine ok_call (k := 0) (as := [ai 6, ai 6]) (rest := []) (n := 2) (D := D) (ad := ad) SM_ok ⟨hx, hb, hml, hown, htg⟩ (vOk_of ct_9_98) (p_begins (h := fun _ _ => 0) (w := 6) (e := 6)) ⟨Nat.le_of_ble_eq_true rfl, Nat.le_of_ble_eq_true rfl⟩ rfl hP hK hI (hXm s H) hS hwA rfl hl.1 (by rw [h00]; rfl) (Nat.zero_le _) (show decode cX9_init 240 = .ok (.invokevirtual 98, 3) by decide +kernel) ⟨Nat.le_refl _, Nat.le_refl _⟩ (fun r h' H1 locs1 hR hP1 _ _ hS1 => ?_)
  obtain ⟨rfl, hR1, hR2⟩ := hR
  refine W.eq (g2 := F0 m 243 ls []) rfl ?_
  exact W.vret hx hb hr (fun t ht hW => ⟨⟨h', rfl, ⟨hR1, hR2⟩, ad, _, h00, by rw [ht]; exact ⟨hP1, va_K.moved hW.alike hK, hI, hXm _ _⟩, hwA⟩, hS1.F ht⟩) hS1.2.2 (show decode cX9_init 243 = .ok (.return_, 1) by decide +kernel)
