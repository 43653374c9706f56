/-! the law's start -/
theorem apart_new {D : va_G} {A : Nat → Prop} {ws : va_W} {q : Nat} {x : va_E} {H : Heap} (hP : va_P D vwCl (ws ++ [(q, x)]) H) (hD : va_D A (ws ++ [(q, x)])) {k : Nat} {y : Nat × va_E} (h : ws[k]? = some y) : y.1 < H.size ∧ ¬ va_A [(q, x)] H.size y.1 := by
  have hl := (List.getElem?_eq_some_iff.mp h).1
  have up : (ws ++ [(q, x)])[k]? = some y := by rw [List.getElem?_append_left hl]; exact h
  have last : (ws ++ [(q, x)])[ws.length]? = some (q, x) := by simp
  have hs := (hP k y up).lt
  refine ⟨hs, fun z => ?_⟩
  rcases z with ⟨k2, e, z⟩ | z
  · have hk2 : k2 = 0 := by have := (List.getElem?_eq_some_iff.mp z).1; simp at this; exact this
    subst hk2
    have z2 : y.1 = q := (Prod.mk.inj (Option.some.inj z)).1.symm
    have := hD.1 k _ y (q, x) up last z2
    omega
  · omega
theorem P_last {D : va_G} {ws : va_W} {y : Nat × va_E} {H : Heap} (hP : va_P D vwCl (ws ++ [y]) H) : va_P D vwCl [y] H := hP.by (fun k => ws.length + k) (fun k z h => by rw [List.getElem?_append_right (Nat.le_add_right _ _), Nat.add_sub_cancel_left]; exact h)
theorem P_front {D : va_G} {ws : va_W} {y : Nat × va_E} {H : Heap} (hP : va_P D vwCl (ws ++ [y]) H) : va_P D vwCl ws H := hP.by (fun k => k) (fun k z h => by rw [List.getElem?_append_left (List.getElem?_eq_some_iff.mp h).1]; exact h)
theorem D_one {y : Nat × va_E} : va_D (fun _ => True) [y] := ⟨fun i j x y h1 h2 _ => by
  have i1 := (List.getElem?_eq_some_iff.mp h1).1
  have i2 := (List.getElem?_eq_some_iff.mp h2).1
  simp at i1 i2
  omega, fun _ _ _ => trivial⟩
theorem A_new {A : Nat → Prop} {ws : va_W} {q : Nat} {x : va_E} {H0 H : Heap} {locs : List Loc} (hD : va_D A (ws ++ [(q, x)])) (hS : va_S A H0 H locs) (hA : ∀ q : Nat, H0.size ≤ q → A q) : ∀ z, va_A [(q, x)] H.size z → A z := by
  intro z hz
  rcases hz with ⟨k, e, hz⟩ | hz
  · have hk : k = 0 := by have := (List.getElem?_eq_some_iff.mp hz).1; simp at this; exact this
    subst hk
    have z2 : q = z := (Prod.mk.inj (Option.some.inj hz)).1
    rw [← z2]
    exact hD.2 ws.length (q, x) (by simp)
  · exact hA z (Nat.le_trans hS.1 hz)
theorem kn_all {s : State} {args : Array Value} (htg : ∀ w ∈ gtbl, w.before args s = true) : ∃ D : va_G, ∀ (k : Nat) (q : vw_C), vwCl[k]? = some q → u_Kn s q.1 q.2.1 q.2.2 (D.1 k) (D.2 k) := by
  have h : ∀ k : Nat, ∃ z : ClassId × (Nat → Nat), ∀ q : vw_C, vwCl[k]? = some q → u_Kn s q.1 q.2.1 q.2.2 z.1 z.2 := by
    intro k
    cases hk : vwCl[k]? with
    | none => exact ⟨(0, fun _ => 0), fun q h => by cases h⟩
    | some r =>
      have hi : Cond.instantiable r.1 r.2.2 ∈ gtbl := by
        match k, hk with
        | 0, hk => cases hk; exact is_X0
        | 1, hk => cases hk; exact is_X1
        | 2, hk => cases hk; exact is_X2
        | 3, hk => cases hk; exact is_X3
        | 4, hk => cases hk; exact is_X4
        | 5, hk => cases hk; exact is_X5
        | 6, hk => cases hk; exact is_X6
        | 7, hk => cases hk; exact is_X7
        | 8, hk => cases hk; exact tb_in 16 (by decide +kernel) rfl
        | 9, hk => cases hk; exact tb_in 606 (by decide +kernel) rfl
        | k + 10, hk => simp [vwCl] at hk
      obtain ⟨cC, iS, hK⟩ := u_known htg (cl_ok hk).1 (htg _ hi)
      exact ⟨(cC, iS), fun q h => by cases h; exact hK⟩
  exact ⟨(fun k => (h k).choose.1, fun k => (h k).choose.2), fun k q hq => (h k).choose_spec q hq⟩
def elC (nm : String) (v : List Int) : List Cond := .arrayOf (.static "FireLines" nm "[I") .int :: .eq (.length (.static "FireLines" nm "[I")) (.int (Int32.ofNat v.length)) :: (List.range v.length).map (fun j => .eq (.elem (.static "FireLines" nm "[I") (.int (Int32.ofNat j))) (.int (Int32.ofInt (v.getD j 0))))
theorem st_of {args : Array Value} {s : State} {nm : String} {v : List Int} (hv : v.length < 2 ^ 31) (hl : (Cond.laysStatic "FireLines" nm "[I").before args s = true) (hini : (Cond.initialized "FireLines").before args s = true) (hc : ∀ c ∈ elC nm v, c.before args s = true) : ∃ t : Nat, va_Z "FireLines" nm "[I" (.ref t) (LA s) s s.heap ∧ va_T .int t v.length (fun j => .int (Int32.ofInt (v.getD j 0))) (LA s) s s.heap := by
  have hA : ∀ a : Nat, a < s.heap.size → ¬ LA s a := fun a h => Nat.not_le.mpr h
  obtain ⟨t, h1, h2⟩ := va_Tof (N := v.length) (f := fun j => .int (Int32.ofInt (v.getD j 0))) hv (hc _ List.mem_cons_self) (va_eqt (hc _ (List.mem_cons_of_mem _ List.mem_cons_self))) (fun j hj => va_eqt (hc _ (List.mem_cons_of_mem _ (List.mem_cons_of_mem _ (List.mem_map.mpr ⟨j, List.mem_range.mpr hj, rfl⟩))))) hA
  exact ⟨t, va_Zof hl hini h1 hA, h2⟩
theorem el_in : ∀ q ∈ SCs, (∀ c ∈ elC q.1 q.2, c ∈ flatC (Jvm.Cond.and given_1 narrow_1)) ∧ Cond.laysStatic "FireLines" q.1 "[I" ∈ lw_tbl ∧ q.2.length < 2 ^ 31 := by decide +kernel
theorem nx_in : ∀ w ∈ nx8, nestB w = true ∧ w.onTables = true ∧ w ∈ lw_tbl := by decide +kernel
theorem ao_w : Cond.arrayOver (.object "FireLines$Winds") ∈ lw_tbl := by decide +kernel
theorem ao_f : Cond.arrayOver (.object "FireLines$Fire") ∈ lw_tbl := by decide +kernel
theorem df8 : ∀ j, j < 10 → defaultValue (tyX8 j) = vp_V [.null, .null, .null, .null, .null, .null, .null, .null, .null, .int 0] j := by decide
theorem df9 : ∀ j, j < 38 → defaultValue (tyX9 j) = vp_V [.int 0, .int 0, .int 0, .int 0, .int 0, .int 0, .int 0, .int 0, .null, .null, .null, .null, .null, .null, .null, .null, .null, .null, .null, .null, .null, .null, .null, .null, .null, .null, .null, .null, .null, .null, .long 0, .null, .null, .null, .null, .null, .null, .null] j := by decide
theorem in8 : Cond.initialized RX8 ∈ gtbl := tb_in 1 (by decide +kernel) rfl
theorem in9 : Cond.initialized RX9 ∈ gtbl := tb_in 11 (by decide +kernel) rfl
theorem ca8 : Cond.code yX8_init cX8_init 2 none ∈ gtbl := by decide +kernel
theorem ca9 : Cond.code yX9_init cX9_init 1 none ∈ gtbl := by decide +kernel
theorem im8 : Cond.instanceMethod yX8_init ∈ gtbl := by decide +kernel
theorem im9 : Cond.instanceMethod yX9_init ∈ gtbl := by decide +kernel
theorem ml8 : Cond.methodLink R_law 9 yX8_init ∈ gtbl := tb_in 17 (by decide +kernel) rfl
theorem ml9 : Cond.methodLink R_law 12 yX9_init ∈ gtbl := tb_in 607 (by decide +kernel) rfl
theorem lk8 : Cond.classLink R_law 7 RX8 ∈ gtbl := tb_in 15 (by decide +kernel) rfl
theorem lk9 : Cond.classLink R_law 10 RX9 ∈ gtbl := by decide +kernel
theorem good8 : GoodIn gtbl wI8 := g_good (by
  intro w hw
  rcases List.mem_cons.mp hw with rfl | hw
  · exact ca8
  · exact hw)
theorem good9 : GoodIn gtbl (wI yX9_init cX9_init) := g_good (by
  intro w hw
  rcases List.mem_cons.mp hw with rfl | hw
  · exact ca9
  · exact hw)
set_option maxHeartbeats 4000000 in
set_option maxRecDepth 100000 in
theorem whole_start {p : Program} {e : Env} {s : State} {m : MethodId} {below : List Frame} {meth : Method} {c : Code} (l : Launch) {b L : Nat} {xs : Nat → Int32} (hL : L ≤ 2560) (C0 : lw_At p s m meth c b L xs) : W p l e room_1 s m #[Value.ref b] below meth c s.heap [] 0 0 (lw_Z below #[Value.ref b] s) (entryFrame m ([Value.ref b] : List Value).toArray 4) := by
  obtain ⟨hx, hb, hr, hml, hown, hts, hX, hbl, hlocks, hgv⟩ := id C0
  have htg : ∀ w ∈ gtbl, w.before #[Value.ref b] s = true := fun w hw => hts w (List.mem_filter.mp hw).1
  have F : CallFix p m c code 4 s #[Value.ref b] gtbl R_law := ⟨hx, hb, hml, hown, htg⟩
  obtain ⟨D, hKn⟩ := kn_all htg
  have hfl := flat_of_before _ hgv
  obtain ⟨st, hZ⟩ : ∃ st : Nat → Nat, st8 st (LA s) s s.heap := by
    have h : ∀ i : Nat, ∃ t : Nat, ∀ q : String × List Int, SCs[i]? = some q → va_Z "FireLines" q.1 "[I" (.ref t) (LA s) s s.heap ∧ va_T .int t q.2.length (fun j => .int (Int32.ofInt (q.2.getD j 0))) (LA s) s s.heap := by
      intro i
      cases hi : SCs[i]? with
      | none => exact ⟨0, fun q h => by cases h⟩
      | some q =>
        obtain ⟨h1, h2, h3⟩ := el_in q (List.mem_of_getElem? hi)
        obtain ⟨t, h4⟩ := st_of h3 (hts _ h2) (htg _ in8) (fun c hc => hfl c (h1 c hc))
        exact ⟨t, fun q2 h => by cases h; exact h4⟩
    exact ⟨fun i => (h i).choose, fun i q hq => (h i).choose_spec q hq⟩
  have hNx : ∀ w ∈ nx8, nestB w = true ∧ va_Nw w s := fun w hw => ⟨(nx_in w hw).1, va_Nw.of (nx_in w hw).2.1 (hts w (nx_in w hw).2.2)⟩
  have hOW : va_AO "FireLines$Winds" s := va_AO.of (hts _ ao_w)
  have hOF : va_AO "FireLines$Fire" s := va_AO.of (hts _ ao_f)
  have hA : ∀ q : Nat, s.heap.size ≤ q → LA s q := fun _ h => h
  have hS : va_S (LA s) s.heap s.heap [] := va_S.rf
  have hK : va_K D vwCl [] s := ⟨hKn, fun k q h => by simp at h⟩
  have hP : va_P D vwCl [] s.heap := fun k q h => by simp at h
  have hD : va_D (LA s) [] := ⟨fun i j p q h => by simp at h, fun k q h => by simp at h⟩
  have hl := lv_entry ([.ref b]) (n := 4) (Nat.le_of_ble_eq_true rfl)
  rw [lg_entry_eq]
  generalize (lg_sl ([.ref b]) ++ List.replicate (4 - (lg_sl ([.ref b])).length) Slot.unset).toArray = ls at hl ⊢
  have hl : lv_has ls 4 [(0, .ref b)] := hl
  refine va_new (ci := 8) (fs := [.null, .null, .null, .null, .null, .null, .null, .null, .null, .int 0]) (C := RX8) (T := TX8) (N := 10) hx hb htg inX8 tyX8 tyX8_ok hown (htg _ lk8) (htg (.instantiable RX8 10) (tb_in 16 (by decide +kernel) rfl)) (htg _ in8) hK hP hD hS hA rfl df8 (Nat.le_of_ble_eq_true rfl) (Nat.le_of_ble_eq_true rfl) (show decode code 0 = .ok (.new 7, 3) by decide +kernel) (fun q1 H hP hD hS => ?_)
  refine lv_dup hx hb (show decode code 3 = .ok (.dup, 1) by decide +kernel) rfl ?_
  have hFc := A_new hD hS hA
  refine va_callv (va_runI (As := []) (rest := [.ref q1]) F (c_X8 l D q1 H.size st) (cwI 0 htg good8 rfl rfl rfl (htg _ in8) (htg _ ml8) (htg _ im8) rfl (by decide +kernel) ⟨Nat.le_of_ble_eq_true rfl, Nat.le_of_ble_eq_true rfl⟩) ⟨pre8_blind, fun U hU hW => ⟨rfl, by rw [hU], by rw [hU]; exact P_last hP, va_K.moved hW.alike hK, D_one, by
    rw [hU]
    exact st8_same hW.alike (fun i q hq => ⟨((hZ i q hq).1.kept (fun a b1 b2 => hS.2.1 a b1 b2)).narrow hFc, ((hZ i q hq).2.kept (fun a b1 b2 => hS.2.1 a b1 b2)).narrow hFc⟩), fun w hw => ⟨(hNx w hw).1, nw_warm (hNx w hw).1 hW (hNx w hw).2⟩, va_AO.moved hW.alike hOW, va_AO.moved hW.alike hOF⟩⟩ rfl rfl hl.1 rfl (lv_room (Nat.le_of_ble_eq_true rfl)) (show decode code 4 = .ok (.invokespecial 9, 3) by decide +kernel) ⟨Nat.le_of_ble_eq_true rfl, Nat.le_of_ble_eq_true rfl⟩) hS (fun q _ h => hFc q h) hFc (fun x t H1 locs ht hvm hrel hB hz1 hk1 hS => ?_)
  obtain ⟨ad1, cA1, rfl, hs0, ⟨hP1, hK1, hI1, -⟩, hw1⟩ := hB
  rw [ht] at hP1
  have hK1 := va_K.moved hvm.symm hK1
  have hA1 : ∀ q, wA SC ad1 q → LA s q := fun q h => hFc q (hw1 q h)
  have hD1 : va_D (LA s) (wd SC ad1 cA1 x) := (wd_D hI1).weaken (fun k q _ h => hA1 q.1 h)
  clear hP hD hFc hw1 hk1 hz1
  refine lv_astore_n (lv' := [(1, .ref (ad1 0)), (0, .ref b)]) hx hb (show decode code 7 = .ok (.astore_n 1, 1) by decide +kernel) rfl hl (by decide) rfl (fun ls hl => ?_)
  refine va_new (ci := 9) (C := RX9) (T := TX9) (N := 38) hx hb htg hin9 tyX9 tyX9_ok hown (htg _ lk9) (htg (.instantiable RX9 38) (tb_in 606 (by decide +kernel) rfl)) (htg _ in9) hK1 hP1 hD1 hS hA rfl df9 (Nat.le_of_ble_eq_true rfl) (Nat.le_of_ble_eq_true rfl) (show decode code 8 = .ok (.new 10, 3) by decide +kernel) (fun q2 H2 hP hD hS => ?_)
  refine lv_dup hx hb (show decode code 11 = .ok (.dup, 1) by decide +kernel) rfl ?_
  have hFc := A_new hD hS hA
  refine va_callv (va_runI (As := []) (rest := [.ref q2]) F (c_X9 l D q2 H2.size) (cwI 0 htg good9 rfl rfl rfl (htg _ in9) (htg _ ml9) (htg _ im9) rfl (by decide +kernel) ⟨Nat.le_of_ble_eq_true rfl, Nat.le_of_ble_eq_true rfl⟩) ⟨fun a U g mk z => by obtain ⟨q0, q1, qP, qK, qD⟩ := z; exact ⟨q0, q1, qP, va_K.moved (u := U) (U := U.calling g mk a) (Vm.Alike.refl U.vm) qK, qD⟩, fun U hU hW => ⟨rfl, by rw [hU], by rw [hU]; exact P_last hP, va_K.moved hW.alike hK, D_one⟩⟩ rfl rfl hl.1 rfl (lv_room (Nat.le_of_ble_eq_true rfl)) (show decode code 12 = .ok (.invokespecial 12, 3) by decide +kernel) ⟨Nat.le_of_ble_eq_true rfl, Nat.le_of_ble_eq_true rfl⟩) hS (fun q _ h => hFc q h) hFc (fun h t2 H3 locs3 ht2 hvm2 hh hB hz3 hk3 hS => ?_)
  obtain ⟨ad2, cA2, rfl, ⟨hP2, hK2, hI2, -⟩, hw2⟩ := hB
  rw [ht2] at hP2
  have hK2 := va_K.moved hvm2.symm hK2
  have hA2 : ∀ q, wA SM ad2 q → LA s q := fun q h => hFc q (hw2 q h)
  have hap : ∀ q, wA SC ad1 q → ¬ va_A (w9 (ad2 0)) H2.size q := by
    rintro q ⟨k, hk, rfl⟩
    exact (apart_new hP hD (wd_at (List.getElem?_eq_getElem hk))).2
  have hP1 : va_P D vwCl (wd SC ad1 cA1 x) H3 := wd_kept (P_front hP) hk3 hap
  have J : LJ p s m c b L xs D ad1 ad2 cA1 cA2 := ⟨F, hX, hbl, ⟨hK1, hK2⟩, ⟨hI1, hI2⟩, hA1, hA2, fun q h1 h2 => hap q h1 (hw2 q h2), ⟨st, hZ, hs0⟩, fun w hw => hNx w (List.mem_append_left _ hw)⟩
  refine lv_astore_n (lv' := [(2, .ref (ad2 0)), (1, .ref (ad1 0)), (0, .ref b)]) hx hb (show decode code 15 = .ok (.astore_n 2, 1) by decide +kernel) rfl hl (by decide) rfl (fun ls hl => ?_)
  refine lv_iconst (v := Int32.ofInt ((0 : Nat) : Int)) hx hb (show decode code 16 = .ok (.iconst 0, 1) by decide +kernel) rfl ?_
  refine lv_istore_n (lv' := [(3, .int (Int32.ofInt ((0 : Nat) : Int))), (2, .ref (ad2 0)), (1, .ref (ad1 0)), (0, .ref b)]) hx hb (show decode code 17 = .ok (.istore_n 3, 1) by decide +kernel) rfl hl (by decide) rfl (fun ls hl => ?_)
  refine W.widen (k := 600000) (n := 7302250) (by decide) (by decide) ?_
  exact law_loop hL C0 J ⟨Nat.le_refl _, Nat.le_refl _⟩ (L + 1) 0 x h H3 locs3 ls (by omega) (by omega) ⟨hP1, hP2, hS⟩ ⟨Rel_P hh.1 hrel, gi_c hh.1 (gi_g0 _ (by decide) (by decide)), hh.2⟩ (lv_sub hl [3, 2, 1, 0] rfl)
