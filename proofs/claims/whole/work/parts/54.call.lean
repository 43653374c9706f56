/-! a call of a method of the abstract machine, from any method of the kit's own machine -/
def vOk (own : String) (i : Nat) (z : MI) (n : Nat) : Prop := Cond.code (yn z) (yc z) (yL z) (yr z) ∈ gtbl ∧ Cond.initialized (clsName z.1) ∈ gtbl ∧ (clsName z.1 ≠ "java/lang/invoke/MethodHandle" ∧ clsName z.1 ≠ "java/lang/invoke/VarHandle" ∧ (parseMethodDescriptor z.2.2.1).map (fun d => d.parameters.length) = some n) ∧ Cond.methodLink own i (yn z) ∈ gtbl ∧ Cond.instanceMethod (yn z) ∈ gtbl ∧ Cond.selects (clsName z.1) (yn z) (yn z) ∈ gtbl
theorem vOk_of {c i n : Nat} {z : MI} (h : ct c i = some (0, z, n)) : vOk (clsName c) i z n := by
  obtain ⟨k1, k2, k3, k4⟩ := ct_ok h
  refine ⟨k1, k2, k3, ?_⟩
  rcases k4 with ⟨-, q⟩ | ⟨q, -⟩ | ⟨q, -⟩
  · exact q
  · cases q
  · cases q
theorem ok_call {p : Program} {l : Launch} {e : Env} {R : Room} {s : State} {m : MethodId} {args : Array Value} {below : List Frame} {meth : Method} {c : Code} {cc : ByteArray} {nL : Nat} {own : String} {H H0 : Heap} {locs : List Loc} {cells slots pc i n k : Nat} {Q : State → Prop} {S : SH} {z : MI} {as : List AV} {h : AH} {Rr : Option AV → AH → Prop} {D : va_G} {ad : Nat → Nat} {cA : Nat → ClassId} {A0 : Nat → Prop} {lc : Array Slot} {st0 rest : List Value}
    (hS : shOk S) (F : CallFix p m c cc nL s args gtbl own) (hv : vOk own i z n) (hOk : Ok S z (ar k :: as) h Rr) (hrm : z.2.2.2.2.2.2.1 + 1 ≤ R.frames ∧ 8 + (yL z + 11) + z.2.2.2.2.2.2.2 ≤ R.locals) (ho : objK S k = some z.1)
    (hP : va_P D vwCl (wd S ad cA h) H) (hK : va_K D vwCl (wT S cA) s) (hI : adI S ad) (hX : wX S ad s H) (hV : va_S A0 H0 H locs) (hA : ∀ q, wA S ad q → A0 q)
    (hn : as.length = n) (hsz : lc.size = nL) (hst : st0 = (as.map (conc ad)).reverse ++ .ref (ad k) :: rest) (hrest : (rest.map fun v => v.category).sum ≤ 6) (hd : decode cc pc = .ok (.invokevirtual i, 3)) (hc : cells ≤ R.cells ∧ slots ≤ R.slots)
    (kk : ∀ (r : Option AV) (h' : AH) (H1 : Heap) (locs1 : List Loc), Rr r h' → va_P D vwCl (wd S ad cA h') H1 → H.size ≤ H1.size → (∀ q : Nat, q < H.size → ¬ wA S ad q → H1[q]? = H[q]?) → va_S A0 H0 H1 locs1 → W p l e R s m args below meth c H1 locs1 cells slots Q (F0 m (pc + 3) lc ((r.map (conc ad)).toList ++ rest))) :
    W p l e R s m args below meth c H locs cells slots Q (F0 m pc lc st0) := by
  obtain ⟨k1, k2, k3, k5⟩ := hv
  obtain ⟨hx, hb, hml, hown, hts⟩ := id F
  obtain ⟨sl, hsl⟩ := objK_at ho
  obtain ⟨r, g1, g2, -, -⟩ := hS.2.2 k z.1 sl hsl
  have hG : GoodIn gtbl (wsV own i (clsName z.1) (yn z) (wsOf z)) := g_good (by
    intro w hw
    unfold wsV wsOf at hw
    rcases List.mem_append.mp hw with q | q
    · simp only [List.mem_cons, List.not_mem_nil, or_false] at q
      rcases q with rfl | rfl | rfl | rfl
      · exact k5.1
      · exact k5.2.1
      · exact k5.2.2
      · exact k2
    · rcases List.mem_cons.mp q with rfl | q
      · exact k1
      · exact q)
  have hr := va_runV (p := p) (l := l) (e := e) (R := R) (s := s) (m := m) (args := args) (below := below) (meth := meth) (c := c) (H := H) (locs := locs) (cells := cells) (slots := slots) (b := ad k) (As := as.map (conc ad)) (rest := rest) (g := F0 m pc lc st0) F (hOk l D ad cA) (cwV n hts hG rfl rfl rfl ⟨rfl, k3⟩ hrm)
    ⟨Wd_blind, by rw [← g2]; exact va_recv hK hP g1 (obj_at hsl), fun U hU hW => ⟨rfl, by show Wd S D ad cA h U U.heap; rw [hU]; exact ⟨hP, va_K.moved hW.alike hK, hI, wX_warm hW hX⟩⟩⟩ rfl (by rw [List.length_map]; exact hn) hsz (by show st0 = _; rw [hst])
    (lv_room (by omega)) hd ⟨by rw [Nat.add_zero]; exact hc.1, by rw [Nat.add_zero]; exact hc.2⟩
  intro T hT X
  obtain ⟨v, st₀, t, T', L, h0, X', hL, e1, e2, ⟨⟨r, h', hv, hp, hw⟩, hz, hk⟩, stp⟩ := hr T hT X
  cases hv
  rw [h0] at hz hk
  obtain ⟨t2, a1, b1⟩ := kk r h' T'.heap (locs ++ L) hp (by rw [e1]; exact hw.1) (by rw [e1]; exact hz) (fun q h1 h2 => by rw [e1]; exact hk q h1 h2)
    ⟨Nat.le_trans hV.1 (by rw [e1]; exact hz), fun q h1 h2 => by rw [e1, hk q (Nat.lt_of_lt_of_le h1 hV.1) (fun z => h2 (hA q z))]; exact hV.2.1 q h1 h2, fun q hq => by
      rcases List.mem_append.mp hq with h | h
      · exact hV.2.2 q h
      · exact hA _ (hL q h)⟩ T' rfl X'
  exact ⟨t2, stp t2 a1, b1⟩
/-- arrays of one type have one class -/
theorem K_int {D : va_G} {tys : List (ClassId × FieldType)} {s : State} (hK : va_K D vwCl tys s) {a : ClassId} (h : (a, FieldType.int) ∈ tys) : s.vm.findClass "[I" = some a := by
  obtain ⟨i, h⟩ := List.mem_iff_getElem?.mp h
  exact va_nm_int (hK.2 i _ h).2
theorem K_bool {D : va_G} {tys : List (ClassId × FieldType)} {s : State} (hK : va_K D vwCl tys s) {a : ClassId} (h : (a, FieldType.boolean) ∈ tys) : s.vm.findClass "[Z" = some a := by
  obtain ⟨i, h⟩ := List.mem_iff_getElem?.mp h
  exact va_nm_boolean (hK.2 i _ h).2
theorem some_eq {α : Type} {o : Option α} {a b : α} (h : o = some a) (k : o = some b) : a = b := by rw [h] at k; exact Option.some.inj k
/-! the world's list, spelled out -/
def elR (ad : Nat → Nat) (c : Nat → Int) : Nat → List SK → List Value
  | _, [] => []
  | j, sk :: t => conc ad (slotA sk (c j)) :: elR ad c (j + 1) t
def elemR (ad : Nat → Nat) (cA : Nat → ClassId) (ck : CK) (c : Nat → Int) : va_E := match ck with
  | .inl (n, t) => .inl (cA t, n, .inl (fun j => Int32.ofInt (c j)))
  | .inr (.inl (ci, sl)) => .inr (ci, elR ad c 0 sl)
  | .inr (.inr (rs, t)) => .inl (cA t, rs.length, .inr (.inr (.inr (.inr (fun j => some (ad (rs.getD j 0)))))))
def wdR (ad : Nat → Nat) (cA : Nat → ClassId) (h : AH) : Nat → List CK → va_W
  | _, [] => []
  | k, ck :: t => (ad k, elemR ad cA ck (h k)) :: wdR ad cA h (k + 1) t
theorem elR_eq (ad : Nat → Nat) (c : Nat → Int) : ∀ (sl : List SK) (k : Nat), sl.mapIdx (fun j sk => conc ad (slotA sk (c (k + j)))) = elR ad c k sl
  | [], _ => by simp [elR]
  | sk :: t, k => by
    rw [List.mapIdx_cons, elR, ← elR_eq ad c t (k + 1)]
    simp only [Nat.add_zero]
    congr 2
    funext j sk
    rw [show k + (j + 1) = k + 1 + j by omega]
theorem elemR_eq (ad : Nat → Nat) (cA : Nat → ClassId) (ck : CK) (c : Nat → Int) : elemOf ad cA ck c = elemR ad cA ck c := by
  rcases ck with ⟨n, t⟩ | ⟨ci, sl⟩ | ⟨rs, t⟩
  · rfl
  · have := elR_eq ad c sl 0
    simp only [Nat.zero_add] at this
    simp only [elemOf, elemR, this]
  · rfl
theorem wdR_eq (ad : Nat → Nat) (cA : Nat → ClassId) (h : AH) : ∀ (cl : List CK) (k : Nat), cl.mapIdx (fun j ck => (ad (k + j), elemOf ad cA ck (h (k + j)))) = wdR ad cA h k cl
  | [], _ => by simp [wdR]
  | ck :: t, k => by
    rw [List.mapIdx_cons, wdR, ← wdR_eq ad cA h t (k + 1)]
    simp only [Nat.add_zero, elemR_eq]
    congr 2
    funext j sk
    rw [show k + (j + 1) = k + 1 + j by omega]
theorem wd_R (S : SH) (ad : Nat → Nat) (cA : Nat → ClassId) (h : AH) : wd S ad cA h = wdR ad cA h 0 S.1 := by
  rw [← wdR_eq]
  simp only [Nat.zero_add]
  rfl
