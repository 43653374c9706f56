/-! a new part: new, dup, its constructor -/
theorem mk_join {D : va_G} {A : Nat → Prop} {a b w1 : va_W} {q : Nat} {x : va_E} {H H1 : Heap} (hP : va_P D vwCl ((a ++ b) ++ [(q, x)]) H) (hD : va_D A ((a ++ b) ++ [(q, x)])) (hk : ∀ z : Nat, z < H.size → ¬ va_A [(q, x)] H.size z → H1[z]? = H[z]?) (hF : ∀ z, va_A [(q, x)] H.size z → A z) (hP1 : va_P D vwCl w1 H1) (hD1 : va_D (va_A [(q, x)] H.size) w1) : va_P D vwCl ((a ++ w1) ++ b) H1 ∧ va_D A ((a ++ w1) ++ b) := by
  have up : ∀ (k : Nat) (y : Nat × va_E), (a ++ b)[k]? = some y → ((a ++ b) ++ [(q, x)])[k]? = some y := fun k y h => by
    rw [List.getElem?_append_left (List.getElem?_eq_some_iff.mp h).1]; exact h
  have last : ((a ++ b) ++ [(q, x)])[(a ++ b).length]? = some (q, x) := by simp
  have apart : ∀ (k : Nat) (y : Nat × va_E), (a ++ b)[k]? = some y → y.1 < H.size ∧ ¬ va_A [(q, x)] H.size y.1 := by
    intro k y h
    have hl := (hP k y (up k y h)).lt
    refine ⟨hl, fun z => ?_⟩
    rcases z with ⟨k2, e, z⟩ | z
    · have hk2 : k2 = 0 := by have := (List.getElem?_eq_some_iff.mp z).1; simp at this; exact this
      subst hk2
      have z2 : y.1 = q := (Prod.mk.inj (Option.some.inj z)).1.symm
      have := hD.1 k _ y (q, x) (up k y h) last z2
      have h2 := (List.getElem?_eq_some_iff.mp h).1
      omega
    · omega
  have hPw : va_P D vwCl (a ++ b) H1 := fun k y h => (hP k y (up k y h)).kept (hk y.1 (apart k y h).1 (apart k y h).2)
  have hDw : va_D A (a ++ b) := ⟨fun i j x y hx hy e => hD.1 i j x y (up i x hx) (up j y hy) e, fun k y h => hD.2 k y (up k y h)⟩
  exact ⟨(va_P.app hPw hP1).swap, (va_D.app hDw (hD1.weaken (fun k y _ h => hF y.1 h)) (fun i j x y hx hy e => (apart i x hx).2 (by rw [e]; exact hD1.2 j y hy))).swap⟩
theorem mk8 {p : Program} {l : Launch} {e : Env} {R : Room} {s : State} {m : MethodId} {args : Array Value} {below : List Frame} {meth : Method} {c : Code} {cc : ByteArray} {nL : Nat} {own host : String} {H : Heap} {locs : List Loc} {cells slots pc : Nat} {Q : State → Prop} {ls : Array Slot} {rest : List Value} {D : va_G} {A : Nat → Prop} {a b : va_W} {ci N idx1 idx2 mc ms : Nat} {C : String} {T : u_T} {fs : List Value} {y : MethodName} {bytes : ByteArray} {rm : Room} {B : Nat → Nat → State → Prop}
    (F : CallFix p m c cc nL s args gtbl own) (hinC : ∀ w ∈ u_ws C T N, w ∈ gtbl) (ty : Nat → FieldType) (hty : ∀ k, k < N → parseFieldDescriptor (T k).2.2.1 = some (ty k)) (hcl : Cond.classLink own idx1 C ∈ gtbl) (hinst : Cond.instantiable C N ∈ gtbl) (hini : Cond.initialized C ∈ gtbl)
    (hK : va_K D vwCl [] s) (hP : va_P D vwCl (a ++ b) H) (hD : va_D A (a ++ b)) (hS : va_S A s.heap H locs) (hA : ∀ q : Nat, s.heap.size ≤ q → A q) (hc : vwCl[ci]? = some (C, T, N)) (hfs : ∀ j, j < N → defaultValue (ty j) = vp_V fs j)
    (hM : ∀ h0 sz : Nat, Met l y (wI y bytes) rm (va_Pc [.ref h0] (fun U => U.heap.size = sz ∧ va_P D vwCl [(h0, .inr (ci, fs))] U.heap ∧ va_K D vwCl [] U ∧ va_D (fun _ => True) [(h0, .inr (ci, fs))])) (va_Qv (fun _ : Unit => True) (fun _ t => B h0 sz t) (va_A [(h0, .inr (ci, fs))] sz)) mc ms (va_A [(h0, .inr (ci, fs))] sz))
    (hrc : rm.cells = mc) (hrs : rm.slots = ms) (hnest : va_Nw (.methodLinkNest own idx2 y host) s) (hcode : Cond.code y bytes 1 none ∈ gtbl) (him : Cond.instanceMethod y ∈ gtbl) (hyc : y.cls = C) (hyn : y.name = "<init>") (hyd : y.cls ≠ "java/lang/invoke/MethodHandle" ∧ y.cls ≠ "java/lang/invoke/VarHandle" ∧ (parseMethodDescriptor y.desc).map (fun d => d.parameters.length) = some 0) (hR : rm.frames + 1 ≤ R.frames ∧ 8 + (1 + 11) + rm.locals ≤ R.locals)
    (hsz : ls.size = nL) (hrest : (rest.map fun v => v.category).sum ≤ 5) (hd1 : decode cc pc = .ok (.new idx1, 3)) (hd2 : decode cc (pc + 3) = .ok (.dup, 1)) (hd3 : decode cc (pc + 4) = .ok (.invokespecial idx2, 3)) (hcells : cells + 1 + mc ≤ R.cells ∧ slots + N + ms ≤ R.slots)
    (kk : ∀ (q sz : Nat) (t : State) (H1 : Heap) (locs1 : List Loc), t.heap = H1 → s.vm.Alike t.vm → B q sz t → (∀ w1, va_P D vwCl w1 H1 → va_D (va_A [(q, .inr (ci, fs))] sz) w1 → va_P D vwCl ((a ++ w1) ++ b) H1 ∧ va_D A ((a ++ w1) ++ b)) → va_S A s.heap H1 locs1 → W p l e R s m args below meth c H1 locs1 (cells + 1 + mc) (slots + N + ms) Q (F0 m (pc + 7) ls (.ref q :: rest))) :
    W p l e R s m args below meth c H locs cells slots Q (F0 m pc ls rest) := by
  obtain ⟨hx, hb, hml, hown, htg⟩ := id F
  refine va_new (ci := ci) (fs := fs) (C := C) (T := T) (N := N) hx hb htg hinC ty hty hown (htg _ hcl) (htg _ hinst) (htg _ hini) hK hP hD hS hA hc hfs (by omega) (by omega) hd1 (fun q H hP hD hS => ?_)
  refine lv_dup hx hb hd2 rfl ?_
  have hPc : va_P D vwCl [(q, .inr (ci, fs))] H := hP.by (fun k => (a ++ b).length + k) (fun k y h => by rw [List.getElem?_append_right (Nat.le_add_right _ _), Nat.add_sub_cancel_left]; exact h)
  have hDc : va_D (fun _ => True) [(q, (.inr (ci, fs) : va_E))] := ⟨fun i j x y h1 h2 _ => by
    have i1 := (List.getElem?_eq_some_iff.mp h1).1
    have i2 := (List.getElem?_eq_some_iff.mp h2).1
    simp at i1 i2
    omega, fun _ _ _ => trivial⟩
  have hFc : ∀ z, va_A [(q, .inr (ci, fs))] H.size z → A z := by
    intro z hz
    rcases hz with ⟨k, e, hz⟩ | hz
    · have hk : k = 0 := by have := (List.getElem?_eq_some_iff.mp hz).1; simp at this; exact this
      subst hk
      have z2 : q = z := (Prod.mk.inj (Option.some.inj hz)).1
      rw [← z2]
      exact hD.2 (a ++ b).length (q, .inr (ci, fs)) (by simp)
    · exact hA z (Nat.le_trans hS.1 hz)
  have hG : GoodIn gtbl (wI y bytes) := g_good (by
    intro w hw
    rcases List.mem_cons.mp hw with rfl | hw
    · exact hcode
    · exact hw)
  refine W.eq (g2 := F0 m (pc + 4) ls (.ref q :: .ref q :: rest)) rfl ?_
  refine va_callv (va_runIN (As := []) (rest := .ref q :: rest) F (hM q H.size) ⟨va_cnB 0 htg hG rfl hrc hrs hnest (htg _ (by rw [hyc]; exact hini)) hyd hR, hyn, htg _ him⟩ ⟨fun a U g mk z => by obtain ⟨q0, q1, qP, qK, qD⟩ := z; exact ⟨q0, q1, qP, va_K.moved (u := U) (U := U.calling g mk a) (Vm.Alike.refl U.vm) qK, qD⟩, fun U hU hW => ⟨rfl, by rw [hU], by rw [hU]; exact hPc, va_K.moved hW.alike hK, hDc⟩⟩ rfl rfl hsz rfl (lv_room (by have z : (Value.ref q).category = 1 := rfl; simp only [List.map_cons, List.sum_cons, z]; omega)) hd3 hcells) hS (fun q _ h => hFc q h) hFc (fun u t H1 locs ht hvm hw hB hz1 hk1 hS => ?_)
  exact W.eq (g2 := F0 m (pc + 7) ls (.ref q :: rest)) rfl (kk q H.size t H1 locs ht hvm hB (fun w1 hP1 hD1 => mk_join hP hD hk1 hFc hP1 hD1) hS)
/-- a row of references is known by its places -/
theorem P_ref {D : va_G} {ws : va_W} {H : Heap} {i a n : Nat} {cA : ClassId} {f : Nat → Option Nat} (g : Nat → Option Nat) (hP : va_P D vwCl ws H) (hi : ws[i]? = some (a, .inl (cA, n, .inr (.inr (.inr (.inr f)))))) (hfg : ∀ j, j < n → f j = g j) : va_P D vwCl (ws.set i (a, .inl (cA, n, .inr (.inr (.inr (.inr g)))))) H := by
  have hl := (List.getElem?_eq_some_iff.mp hi).1
  intro k y hk
  by_cases e : k = i
  · subst e
    rw [List.getElem?_set_self hl] at hk
    cases hk
    have := hP k _ hi
    show H[a]? = some (vp_cell cA (n, .inr (.inr (.inr (.inr g)))))
    rw [vp_cell_q]
    have h2 : H[a]? = some (vp_cell cA (n, .inr (.inr (.inr (.inr f))))) := this
    rw [h2, vp_cell_q]
    unfold arrV
    congr 3
    funext j
    show va_rf (f j.val) = va_rf (g j.val)
    rw [hfg j.val j.isLt]
  · rw [List.getElem?_set_ne (Ne.symm e)] at hk
    exact hP k y hk
