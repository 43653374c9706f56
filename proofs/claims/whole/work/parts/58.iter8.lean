abbrev ww8 (h0 g aw af : Nat) (kW kF : ClassId) (fW fF : Nat → Option Nat) (rest : va_W) : va_W := ((h0, .inr (8, [.ref g, .ref aw, .ref af, .null, .null, .null, .null, .null, .null, .int 0])) :: (aw, oR kW fW) :: (af, oR kF fF) :: rest)
set_option maxHeartbeats 2000000 in
set_option maxRecDepth 100000 in
theorem x8_iter {p : Program} {l : Launch} {e : Env} {s : State} {m : MethodId} {below : List Frame} {meth : Method} {c : Code} {D : va_G} {h0 : Nat} {A : Nat → Prop} {kI kB : ClassId} {H : Heap} {locs : List Loc} {cells slots : Nat} {Q : State → Prop} {ls : Array Slot} {g aw af : Nat} {kW kF : ClassId} {fW fF : Nat → Option Nat} {rest : va_W} (C : C8 p s m meth c D h0 A kI kB) (hKW : va_K D vwCl [(kW, .object "FireLines$Winds")] s) (hKF : va_K D vwCl [(kF, .object "FireLines$Fire")] s) (v v2 : Int32) (n : Nat) (hv : ¬ (4 : Int32) ≤ v) (hv2 : v + Int32.ofInt 1 = v2) (hvn : v.toNatClampNeg = n) (hvi : vp_in v 4) (hP : va_P D vwCl (ww8 h0 g aw af kW kF fW fF (rest)) H) (hD : va_D A (ww8 h0 g aw af kW kF fW fF (rest))) (hS : va_S A s.heap H locs) (hl : lv_has ls 2 [(1, .int v), (0, .ref h0)]) (hcells : cells + 8 ≤ 72 ∧ slots + 224 ≤ 2866) (kk : ∀ (a a1 a2 a3 f f1 f2 f3 : Nat) (H1 : Heap) (locs1 : List Loc) (ls1 : Array Slot), va_P D vwCl (ww8 h0 g aw af kW kF (va_up fW n (some a)) (va_up fF n (some f)) (pl2 kI kB f f1 f2 f3 ++ (pl7 kI kB a a1 a2 a3 ++ rest))) H1 → va_D A (ww8 h0 g aw af kW kF (va_up fW n (some a)) (va_up fF n (some f)) (pl2 kI kB f f1 f2 f3 ++ (pl7 kI kB a a1 a2 a3 ++ rest))) → va_S A s.heap H1 locs1 → lv_has ls1 2 [(1, .int v2), (0, .ref h0)] → W p l e rr8 s m #[Value.ref h0] below meth c H1 locs1 (cells + 8) (slots + 224) Q (F0 m 33 ls1 [])) : W p l e rr8 s m #[Value.ref h0] below meth c H locs cells slots Q (F0 m 33 ls []) := by
  subst hvn
  obtain ⟨⟨hx, hb, hml, hown, htg⟩, hin, hA, hK, hN, hkI, hkB⟩ := id C
  refine lv_iload_n hx hb (show decode cX8_init 33 = .ok (.iload_n 1, 1) by decide +kernel) rfl (lv_at hl 0 rfl) ?_
  refine lv_iconst (v := 4) hx hb (show decode cX8_init 34 = .ok (.iconst 4, 1) by decide +kernel) (by decide) ?_
  refine lv_icmp_ge (tgt := 70) hx hb (show decode cX8_init 35 = .ok (.if_icmp .ge 35, 3) by decide +kernel) (by decide) (fun z => absurd z hv) (fun _ => ?_)
  refine lv_aload_n hx hb (show decode cX8_init 38 = .ok (.aload_n 0, 1) by decide +kernel) rfl (lv_at hl 1 rfl) ?_
  refine va_get (D := D) (ci := 8) (v := .ref aw) (C := RX8) (T := TX8) (N := 10) hx hb htg inX8 hown hK hP 0 rfl rfl 1 (by decide) (htg (.fieldLink RX8 18 RX8 "winds" "[LFireLines$Winds;") (by decide +kernel)) (fun _ h9 => h9) rfl (show decode cX8_init 39 = .ok (.getfield 18, 3) by decide +kernel) ?_
  refine lv_iload_n hx hb (show decode cX8_init 42 = .ok (.iload_n 1, 1) by decide +kernel) rfl (lv_at hl 0 rfl) ?_
  refine n_X7_43 (a := [(h0, .inr (8, [.ref g, .ref aw, .ref af, .null, .null, .null, .null, .null, .null, .int 0])), (aw, oR kW fW), (af, oR kF fF)]) (b := rest) C hP hD hS hl.1 (Nat.le_of_ble_eq_true rfl) ⟨by omega, by omega⟩ (fun a a1 a2 a3 H locs hP hD hS => ?_)
  have hP : va_P D vwCl (ww8 h0 g aw af kW kF fW fF (pl7 kI kB a a1 a2 a3 ++ rest)) H := hP
  have hD : va_D A (ww8 h0 g aw af kW kF fW fF (pl7 kI kB a a1 a2 a3 ++ rest)) := hD
  refine va_astq (r := (RX7, TX7, 4)) hx hb hKW hP hD hS 1 0 3 7 rfl rfl rfl rfl hvi (show decode cX8_init 50 = .ok (.aastore, 1) by decide +kernel) (fun H locs hP hD hS => ?_)
  have hP : va_P D vwCl (ww8 h0 g aw af kW kF (va_up fW v.toNatClampNeg (some a)) fF (pl7 kI kB a a1 a2 a3 ++ rest)) H := hP
  have hD : va_D A (ww8 h0 g aw af kW kF (va_up fW v.toNatClampNeg (some a)) fF (pl7 kI kB a a1 a2 a3 ++ rest)) := hD
  refine lv_aload_n hx hb (show decode cX8_init 51 = .ok (.aload_n 0, 1) by decide +kernel) rfl (lv_at hl 1 rfl) ?_
  refine va_get (D := D) (ci := 8) (v := .ref af) (C := RX8) (T := TX8) (N := 10) hx hb htg inX8 hown hK hP 0 rfl rfl 2 (by decide) (htg (.fieldLink RX8 24 RX8 "fires" "[LFireLines$Fire;") (by decide +kernel)) (fun _ h9 => h9) rfl (show decode cX8_init 52 = .ok (.getfield 24, 3) by decide +kernel) ?_
  refine lv_iload_n hx hb (show decode cX8_init 55 = .ok (.iload_n 1, 1) by decide +kernel) rfl (lv_at hl 0 rfl) ?_
  refine n_X2_56 (a := [(h0, .inr (8, [.ref g, .ref aw, .ref af, .null, .null, .null, .null, .null, .null, .int 0])), (aw, oR kW (va_up fW v.toNatClampNeg (some a))), (af, oR kF fF)]) (b := pl7 kI kB a a1 a2 a3 ++ rest) C hP hD hS hl.1 (Nat.le_of_ble_eq_true rfl) ⟨by omega, by omega⟩ (fun f f1 f2 f3 H locs hP hD hS => ?_)
  have hP : va_P D vwCl (ww8 h0 g aw af kW kF (va_up fW v.toNatClampNeg (some a)) fF (pl2 kI kB f f1 f2 f3 ++ (pl7 kI kB a a1 a2 a3 ++ rest))) H := hP
  have hD : va_D A (ww8 h0 g aw af kW kF (va_up fW v.toNatClampNeg (some a)) fF (pl2 kI kB f f1 f2 f3 ++ (pl7 kI kB a a1 a2 a3 ++ rest))) := hD
  refine va_astq (r := (RX2, TX2, 4)) hx hb hKF hP hD hS 2 0 3 2 rfl rfl rfl rfl hvi (show decode cX8_init 63 = .ok (.aastore, 1) by decide +kernel) (fun H locs hP hD hS => ?_)
  refine lv_iinc (v := v2) (lv' := [(1, .int v2), (0, .ref h0)]) hx hb (show decode cX8_init 64 = .ok (.iinc 1 1, 3) by decide +kernel) hl (k := 0) rfl hv2 (by decide) rfl (fun ls hl => ?_)
  refine lv_goto (tgt := 33) hx hb (show decode cX8_init 67 = .ok (.goto (-34), 3) by decide +kernel) (by decide) ?_
  refine W.widen (k := cells + 8) (n := slots + 224) (by omega) (by omega) ?_
  exact kk a a1 a2 a3 f f1 f2 f3 H locs ls hP hD hS hl
abbrev w8 (h0 : Nat) : va_W := [(h0, .inr (8, [.null, .null, .null, .null, .null, .null, .null, .null, .null, .int 0]))]
def st8 (st : Nat → Nat) (A : Nat → Prop) (U : State) (H : Heap) : Prop := ∀ (i : Nat) (q : String × List Int), SCs[i]? = some q → va_Z "FireLines" q.1 "[I" (.ref (st i)) A U H ∧ va_T .int (st i) q.2.length (fun j => .int (Int32.ofInt (q.2.getD j 0))) A U H
def nx8 : List Cond := SCn ++ nst8
def pre8 (D : va_G) (h0 sz : Nat) (st : Nat → Nat) (U : State) : Prop := U.heap.size = sz ∧ va_P D vwCl (w8 h0) U.heap ∧ va_K D vwCl [] U ∧ va_D (fun _ => True) (w8 h0) ∧ st8 st (va_A (w8 h0) sz) U U.heap ∧ (∀ w ∈ nx8, nestB w = true ∧ va_Nw w U) ∧ va_AO "FireLines$Winds" U ∧ va_AO "FireLines$Fire" U
theorem st8_same {st : Nat → Nat} {A : Nat → Prop} {u U : State} {H : Heap} (hv : u.vm.Alike U.vm) (h : st8 st A u H) : st8 st A U H := fun i q hq => ⟨va_Z.moved hv (h i q hq).1, va_T.moved hv (h i q hq).2⟩
theorem pre8_blind {D : va_G} {h0 sz : Nat} {st : Nat → Nat} {av : List Value} : FrameBlind (va_Pc av (pre8 D h0 sz st)) := by
  intro a U g mk q
  obtain ⟨q0, q1, qP, qK, qD, qZ, qN, qA, qB⟩ := q
  exact ⟨q0, q1, qP, va_K.moved (u := U) (U := U.calling g mk a) (Vm.Alike.refl U.vm) qK, qD, st8_same (u := U) (U := U.calling g mk a) (Vm.Alike.refl U.vm) qZ, fun w hw => ⟨(qN w hw).1, nw_same (s := U) (U := U.calling g mk a) (qN w hw).1 rfl (qN w hw).2⟩, va_AO.moved (u := U) (U := U.calling g mk a) (Vm.Alike.refl U.vm) qA, va_AO.moved (u := U) (U := U.calling g mk a) (Vm.Alike.refl U.vm) qB⟩
def c8A (a b c d : ClassId) : Nat → ClassId := fun t => match t with
  | 0 => a
  | 1 => b
  | 2 => c
  | _ => d
theorem oi_X8 : Cond.methodLink RX8 1 objectInit ∈ gtbl := by decide +kernel
theorem cl_w8 : Cond.classLink RX8 16 "FireLines$Winds" ∈ gtbl := by decide +kernel
theorem cl_f8 : Cond.classLink RX8 22 "FireLines$Fire" ∈ gtbl := by decide +kernel
set_option maxHeartbeats 2000000 in
set_option maxRecDepth 100000 in
theorem wd8 (h0 aw af z z1 z2 y y1 y2 y3 x x1 x2 x3 v v1 v2 v3 u u1 u2 t t1 t2 t3 f3 f3_1 f3_2 f3_3 a3 a3_1 a3_2 a3_3 f2 f2_1 f2_2 f2_3 a2 a2_1 a2_2 a2_3 f1 f1_1 f1_2 f1_3 a1 a1_1 a1_2 a1_3 f0 f0_1 f0_2 f0_3 a0 a0_1 a0_2 a0_3 g g1 g2 g3 g4 g5 g6 g7 g8 g9 g10 g11 g12 g13 g14 g15 : Nat) (kI kB kW kF : ClassId) (st : Nat → Nat) : [0, 57, 1, 2, 18, 14, 10, 6, 3, 58, 59, 60, 61, 62, 63, 64, 65, 66, 67, 68, 69, 70, 71, 72, 19, 20, 15, 16, 17, 11, 12, 13, 7, 8, 9, 4, 5, 53, 54, 55, 56, 45, 46, 47, 48, 37, 38, 39, 40, 29, 30, 31, 32, 49, 50, 51, 52, 41, 42, 43, 44, 33, 34, 35, 36, 25, 26, 27, 28, 21, 22, 23, 24].map (fun i => (((h0, .inr (8, [.ref g, .ref aw, .ref af, .ref t, .ref u, .ref v, .ref x, .ref y, .ref z, .int 0])) :: (aw, oR kW (fun j => some (adL [h0, g, aw, af, u, v, x, y, z, g1, g2, g3, g4, g5, g6, g7, g8, g9, g10, g11, g12, g13, g14, g15, u1, u2, v1, v2, v3, x1, x2, x3, y1, y2, y3, z1, z2, a0, a0_1, a0_2, a0_3, a1, a1_1, a1_2, a1_3, a2, a2_1, a2_2, a2_3, a3, a3_1, a3_2, a3_3, f0, f0_1, f0_2, f0_3, f1, f1_1, f1_2, f1_3, f2, f2_1, f2_2, f2_3, f3, f3_1, f3_2, f3_3, t, t1, t2, t3] st ([37, 41, 45, 49].getD j 0)))) :: (af, oR kF (fun j => some (adL [h0, g, aw, af, u, v, x, y, z, g1, g2, g3, g4, g5, g6, g7, g8, g9, g10, g11, g12, g13, g14, g15, u1, u2, v1, v2, v3, x1, x2, x3, y1, y2, y3, z1, z2, a0, a0_1, a0_2, a0_3, a1, a1_1, a1_2, a1_3, a2, a2_1, a2_2, a2_3, a3, a3_1, a3_2, a3_3, f0, f0_1, f0_2, f0_3, f1, f1_1, f1_2, f1_3, f2, f2_1, f2_2, f2_3, f3, f3_1, f3_2, f3_3, t, t1, t2, t3] st ([53, 57, 61, 65].getD j 0)))) :: (pl4 kI kB z z1 z2 ++ (pl6 kI kB y y1 y2 y3 ++ (pl5 kI kB x x1 x2 x3 ++ (pl0 kI kB v v1 v2 v3 ++ (pl1 kI kB u u1 u2 ++ (pl2 kI kB t t1 t2 t3 ++ (pl2 kI kB f3 f3_1 f3_2 f3_3 ++ (pl7 kI kB a3 a3_1 a3_2 a3_3 ++ (pl2 kI kB f2 f2_1 f2_2 f2_3 ++ (pl7 kI kB a2 a2_1 a2_2 a2_3 ++ (pl2 kI kB f1 f1_1 f1_2 f1_3 ++ (pl7 kI kB a1 a1_1 a1_2 a1_3 ++ (pl2 kI kB f0 f0_1 f0_2 f0_3 ++ (pl7 kI kB a0 a0_1 a0_2 a0_3 ++ (pl3 kI kB g g1 g2 g3 g4 g5 g6 g7 g8 g9 g10 g11 g12 g13 g14 g15 ++ ([]))))))))))))))))) : va_W)[i]?) = (wd SC (adL [h0, g, aw, af, u, v, x, y, z, g1, g2, g3, g4, g5, g6, g7, g8, g9, g10, g11, g12, g13, g14, g15, u1, u2, v1, v2, v3, x1, x2, x3, y1, y2, y3, z1, z2, a0, a0_1, a0_2, a0_3, a1, a1_1, a1_2, a1_3, a2, a2_1, a2_2, a2_3, a3, a3_1, a3_2, a3_3, f0, f0_1, f0_2, f0_3, f1, f1_1, f1_2, f1_3, f2, f2_1, f2_2, f2_3, f3, f3_1, f3_2, f3_3, t, t1, t2, t3] st) (c8A kI kB kW kF) (fun _ _ => 0)).map some := by
  rw [wd_R]
  rfl
