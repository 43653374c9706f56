/-! the abstract machine: whole numbers, cells by their places in a fixed shape -/
abbrev AV : Type := Int ⊕ (Nat ⊕ (Int64 ⊕ Unit))
abbrev AH : Type := Nat → Nat → Int
abbrev SK : Type := Nat × Nat
abbrev CK : Type := (Nat × Nat) ⊕ ((Nat × List SK) ⊕ (List Nat × Nat))
abbrev SH : Type := List CK × List FieldType × List (String × List Int) × List Cond
abbrev ai (x : Int) : AV := .inl x
abbrev ar (k : Nat) : AV := .inr (.inl k)
abbrev al (x : Int64) : AV := .inr (.inr (.inl x))
abbrev au : AV := .inr (.inr (.inr ()))
def conc (ad : Nat → Nat) : AV → Value
  | .inl x => .int (Int32.ofInt x)
  | .inr (.inl k) => .ref (ad k)
  | .inr (.inr (.inl x)) => .long x
  | .inr (.inr (.inr _)) => .null
def slotA (sk : SK) (x : Int) : AV := match sk.1 with
  | 0 => ai x
  | 1 => ai x
  | 2 => al (Int64.ofInt x)
  | _ => ar sk.2
def elemOf (ad : Nat → Nat) (cA : Nat → ClassId) (ck : CK) (c : Nat → Int) : va_E := match ck with
  | .inl (n, t) => .inl (cA t, n, .inl (fun j => Int32.ofInt (c j)))
  | .inr (.inl (ci, sl)) => .inr (ci, sl.mapIdx (fun j sk => conc ad (slotA sk (c j))))
  | .inr (.inr (rs, t)) => .inl (cA t, rs.length, .inr (.inr (.inr (.inr (fun j => some (ad (rs.getD j 0)))))))
def wd (S : SH) (ad : Nat → Nat) (cA : Nat → ClassId) (h : AH) : va_W := S.1.mapIdx (fun k ck => (ad k, elemOf ad cA ck (h k)))
def updA (f : Nat → Int) (i : Nat) (x : Int) : Nat → Int := fun j => if j = i then x else f j
def updC (h : AH) (k : Nat) (f : Nat → Int) : AH := fun q => if q = k then f else h q
def lget : List AV → Nat → AV
  | [], _ => au
  | x :: _, 0 => x
  | _ :: t, n + 1 => lget t n
def lset : List AV → Nat → AV → List AV
  | [], _, _ => []
  | _ :: t, 0, v => v :: t
  | x :: t, n + 1, v => x :: lset t n v
theorem wd_at {S : SH} {ad : Nat → Nat} {cA : Nat → ClassId} {h : AH} {k : Nat} {ck : CK} (hk : S.1[k]? = some ck) : (wd S ad cA h)[k]? = some (ad k, elemOf ad cA ck (h k)) := by
  unfold wd
  rw [List.getElem?_mapIdx, hk]
  rfl
theorem wd_set {S : SH} {ad : Nat → Nat} {cA : Nat → ClassId} {h : AH} {k : Nat} {ck : CK} (hk : S.1[k]? = some ck) (f : Nat → Int) : (wd S ad cA h).set k (ad k, elemOf ad cA ck f) = wd S ad cA (updC h k f) := by
  have hl : k < S.1.length := (List.getElem?_eq_some_iff.mp hk).1
  apply List.ext_getElem?
  intro i
  by_cases hi : i = k
  · subst hi
    rw [List.getElem?_set_self (by unfold wd; rw [List.length_mapIdx]; exact hl), wd_at hk]
    simp [updC]
  · rw [List.getElem?_set_ne (Ne.symm hi)]
    unfold wd
    rw [List.getElem?_mapIdx, List.getElem?_mapIdx]
    simp [updC, hi]
def wA (S : SH) (ad : Nat → Nat) : Nat → Prop := fun q => ∃ k, k < S.1.length ∧ q = ad k
def wT (S : SH) (cA : Nat → ClassId) : List (ClassId × FieldType) := S.2.1.mapIdx (fun i t => (cA i, t))
def nestB : Cond → Bool
  | .fieldLinkNest .. => true
  | .methodLinkNest .. => true
  | _ => false
def wX (S : SH) (ad : Nat → Nat) (U : State) (H : Heap) : Prop :=
  (∀ (i : Nat) (q : String × List Int), S.2.2.1[i]? = some q → va_Z "FireLines" q.1 "[I" (.ref (ad (1000 + i))) (wA S ad) U H ∧ va_T .int (ad (1000 + i)) q.2.length (fun j => .int (Int32.ofInt (q.2.getD j 0))) (wA S ad) U H) ∧ ∀ w ∈ S.2.2.2, nestB w = true ∧ va_Nw w U
def adI (S : SH) (ad : Nat → Nat) : Prop := ∀ i j, i < S.1.length → j < S.1.length → ad i = ad j → i = j
theorem wd_D {S : SH} {ad : Nat → Nat} {cA : Nat → ClassId} {h : AH} (hi : adI S ad) : va_D (wA S ad) (wd S ad cA h) := by
  have key : ∀ (k : Nat) (q : Nat × va_E), (wd S ad cA h)[k]? = some q → k < S.1.length ∧ q.1 = ad k := by
    intro k q hk
    have hl : k < (wd S ad cA h).length := (List.getElem?_eq_some_iff.mp hk).1
    have hl2 : k < S.1.length := by unfold wd at hl; rw [List.length_mapIdx] at hl; exact hl
    rw [wd_at (List.getElem?_eq_getElem hl2)] at hk
    cases hk
    exact ⟨hl2, rfl⟩
  refine ⟨fun i j p q h1 h2 e => ?_, fun k q hk => ?_⟩
  · obtain ⟨a1, a2⟩ := key i p h1
    obtain ⟨b1, b2⟩ := key j q h2
    exact hi i j a1 b1 (by rw [← a2, ← b2]; exact e)
  · obtain ⟨a1, a2⟩ := key k q hk
    exact ⟨k, a1, a2⟩
theorem nw_warm {w : Cond} (hw : nestB w = true) {s U : State} (hW : s.WarmedH U.vm) (h : va_Nw w s) : va_Nw w U := by
  cases w <;> first | exact va_Nw.warmF hW h | exact va_Nw.warmM hW h | simp [nestB] at hw
theorem nw_same {w : Cond} (hw : nestB w = true) {s U : State} (hv : s.vm = U.vm) (h : va_Nw w s) : va_Nw w U := by
  cases w <;> first | exact va_Nw.same rfl hv h | simp [nestB] at hw
theorem wX_warm {S : SH} {ad : Nat → Nat} {s U : State} {H : Heap} (hW : s.WarmedH U.vm) (h : wX S ad s H) : wX S ad U H :=
  ⟨fun i q hq => ⟨va_Z.moved hW.alike (h.1 i q hq).1, va_T.moved hW.alike (h.1 i q hq).2⟩, fun w hw => ⟨(h.2 w hw).1, nw_warm (h.2 w hw).1 hW (h.2 w hw).2⟩⟩
theorem wX_same {S : SH} {ad : Nat → Nat} {s U : State} {H : Heap} (hv : s.vm = U.vm) (h : wX S ad s H) : wX S ad U H :=
  ⟨fun i q hq => ⟨va_Z.moved (by rw [hv]; exact Vm.Alike.refl _) (h.1 i q hq).1, va_T.moved (by rw [hv]; exact Vm.Alike.refl _) (h.1 i q hq).2⟩, fun w hw => ⟨(h.2 w hw).1, nw_same (h.2 w hw).1 hv (h.2 w hw).2⟩⟩
theorem wX_kept {S : SH} {ad : Nat → Nat} {U : State} {H H1 : Heap} (h : wX S ad U H) (hq : ∀ a : Nat, a < H.size → ¬ wA S ad a → H1[a]? = H[a]?) : wX S ad U H1 :=
  ⟨fun i q hi => ⟨(h.1 i q hi).1.kept hq, (h.1 i q hi).2.kept hq⟩, h.2⟩
def Wd (S : SH) (D : va_G) (ad : Nat → Nat) (cA : Nat → ClassId) (h : AH) (U : State) (H : Heap) : Prop := va_P D vwCl (wd S ad cA h) H ∧ va_K D vwCl (wT S cA) U ∧ adI S ad ∧ wX S ad U H
def QcR (S : SH) (D : va_G) (ad : Nat → Nat) (cA : Nat → ClassId) (R : Option AV → AH → Prop) : Array Value → State → Outcome → State → Prop := fun _ st o t =>
  (∃ (r : Option AV) (h' : AH), o = .returned (r.map (conc ad)) ∧ R r h' ∧ Wd S D ad cA h' t t.heap) ∧ va_F (wA S ad) st t
/-- the contract of a method over the abstract machine -/
def Ok (S : SH) (y : MI) (av : List AV) (h : AH) (R : Option AV → AH → Prop) : Prop :=
  ∀ (l : Launch) (D : va_G) (ad : Nat → Nat) (cA : Nat → ClassId), Met l (yn y) (wsOf y) (yR y) (va_Pc (av.map (conc ad)) (fun U => Wd S D ad cA h U U.heap)) (QcR S D ad cA R) 0 0 (wA S ad)
theorem Wd_blind {S : SH} {D : va_G} {ad : Nat → Nat} {cA : Nat → ClassId} {h : AH} {av : List Value} : FrameBlind (va_Pc av (fun U => Wd S D ad cA h U U.heap)) := by
  intro a U g mk q
  obtain ⟨q0, qP, qK, qI, qX⟩ := q
  exact ⟨q0, qP, va_K.moved (u := U) (U := U.calling g mk a) (Vm.Alike.refl U.vm) qK, qI, wX_same (s := U) (U := U.calling g mk a) rfl qX⟩
def Cx (S : SH) (y : MI) (p : Program) (s : State) (m : MethodId) (args : Array Value) (meth : Method) (c : Code) (D : va_G) (ad : Nat → Nat) (cA : Nat → ClassId) : Prop :=
  p.tables.exec = Jvm.exec ∧ c.code = yc y ∧ c.maxLocals = yL y ∧ meth.sig.returnType = yr y ∧ s.vm.findClass (clsName y.1) = some m.cls ∧ (∀ w ∈ gtbl, w.before args s = true) ∧ meth.locks = false ∧ va_K D vwCl (wT S cA) s ∧ adI S ad ∧ wX S ad s s.heap
def lvl (ad : Nat → Nat) (ls : List AV) : List (Nat × Value) := (List.range ls.length).filterMap (fun i => match lget ls i with
  | .inl x => some (i, .int (Int32.ofInt x))
  | .inr (.inl k) => some (i, .ref (ad k))
  | .inr (.inr _) => none)
def WPx (S : SH) (y : MI) (Q : Option AV → AH → Prop) (pc : Nat) (ls st : List AV) (h : AH) : Prop :=
  ∀ (p : Program) (l : Launch) (e : Env) (s : State) (m : MethodId) (args : Array Value) (below : List Frame) (meth : Method) (c : Code) (D : va_G) (ad : Nat → Nat) (cA : Nat → ClassId) (H : Heap) (locs : List Loc) (lc : Array Slot),
    Cx S y p s m args meth c D ad cA → va_P D vwCl (wd S ad cA h) H → va_S (wA S ad) s.heap H locs → lv_has lc (yL y) (lvl ad ls) →
    W p l e (yR y) s m args below meth c H locs 0 0 (MQ below (QcR S D ad cA Q) args s 0 0 (wA S ad)) (F0 m pc lc (st.map (conc ad)))
theorem lvl_mem {ad : Nat → Nat} {ls : List AV} {q : Nat × Value} : q ∈ lvl ad ls ↔ (∃ x, lget ls q.1 = ai x ∧ q.2 = .int (Int32.ofInt x)) ∨ ∃ k, lget ls q.1 = ar k ∧ q.2 = .ref (ad k) := by
  have out : ∀ (l : List AV) (i : Nat), l.length ≤ i → lget l i = au := by
    intro l
    induction l with
    | nil => intro i _; rfl
    | cons x t ih =>
      intro i hi
      cases i with
      | zero => simp at hi
      | succ i => exact ih i (by simpa using hi)
  obtain ⟨i, v⟩ := q
  unfold lvl
  rw [List.mem_filterMap]
  constructor
  · rintro ⟨j, hj, e⟩
    cases hg : lget ls j with
    | inl x =>
      rw [hg] at e
      cases e
      exact Or.inl ⟨x, hg, rfl⟩
    | inr z =>
      cases z with
      | inl k =>
        rw [hg] at e
        cases e
        exact Or.inr ⟨k, hg, rfl⟩
      | inr z =>
        rw [hg] at e
        cases e
  · have hin : lget ls i ≠ au → i ∈ List.range ls.length := by
      intro hne
      rw [List.mem_range]
      exact Nat.lt_of_not_le fun hle => hne (out ls i hle)
    rintro (⟨x, h1, h2⟩ | ⟨k, h1, h2⟩)
    · dsimp only at h1 h2
      refine ⟨i, hin (by rw [h1]; simp), ?_⟩
      rw [h1, h2]
    · dsimp only at h1 h2
      refine ⟨i, hin (by rw [h1]; simp), ?_⟩
      rw [h1, h2]
theorem lget_lset (ls : List AV) (i j : Nat) (v : AV) : lget (lset ls i v) j = if j = i then (if i < ls.length then v else au) else lget ls j := by
  induction ls generalizing i j with
  | nil => simp [lset, lget]
  | cons x t ih =>
    cases i with
    | zero =>
      cases j with
      | zero => simp [lset, lget]
      | succ j => simp [lset, lget]
    | succ i =>
      cases j with
      | zero => simp [lset, lget]
      | succ j =>
        simp only [lset, lget, ih]
        simp
theorem lvl_at {ad : Nat → Nat} {ls : List AV} {n : Nat} {lc : Array Slot} (h : lv_has lc n (lvl ad ls)) {i : Nat} {x : Int} (hg : lget ls i = ai x) : lc[i]? = some (.val (.int (Int32.ofInt x))) := h.2.2 (i, .int (Int32.ofInt x)) (lvl_mem.mpr (Or.inl ⟨x, hg, rfl⟩))
theorem lvl_atR {ad : Nat → Nat} {ls : List AV} {n : Nat} {lc : Array Slot} (h : lv_has lc n (lvl ad ls)) {i : Nat} {k : Nat} (hg : lget ls i = ar k) : lc[i]? = some (.val (.ref (ad k))) := h.2.2 (i, .ref (ad k)) (lvl_mem.mpr (Or.inr ⟨k, hg, rfl⟩))
/-- behind a store -/
theorem lvl_st {ad : Nat → Nat} {ls : List AV} {n : Nat} {lc : Array Slot} {i : Nat} {v : AV} {w : Value} (hw : conc ad v = w) (h : lv_has lc n ((i, w) :: (lvl ad ls).filter (fun q => !(q.1 == i) && !(q.1 + 1 == i && q.2.category == 2)))) : lv_has lc n (lvl ad (lset ls i v)) := by
  refine ⟨h.1, h.2.1, fun q hq => h.2.2 q ?_⟩
  obtain ⟨j, u⟩ := q
  have cat1 : (j, u) ∈ lvl ad ls → u.category = 1 := by
    intro hm
    rcases lvl_mem.mp hm with ⟨x, -, h2⟩ | ⟨k, -, h2⟩
    · dsimp only at h2; rw [h2]; rfl
    · dsimp only at h2; rw [h2]; rfl
  by_cases hj : j = i
  · subst hj
    have : u = w := by
      rcases lvl_mem.mp hq with ⟨x, h1, h2⟩ | ⟨k, h1, h2⟩
      · dsimp only at h1 h2
        rw [lget_lset, if_pos rfl] at h1
        by_cases hl : j < ls.length
        · rw [if_pos hl] at h1; rw [h2, ← hw, h1]; rfl
        · rw [if_neg hl] at h1; cases h1
      · dsimp only at h1 h2
        rw [lget_lset, if_pos rfl] at h1
        by_cases hl : j < ls.length
        · rw [if_pos hl] at h1; rw [h2, ← hw, h1]; rfl
        · rw [if_neg hl] at h1; cases h1
    rw [this]
    exact List.mem_cons_self
  · have hm : (j, u) ∈ lvl ad ls := by
      rcases lvl_mem.mp hq with ⟨x, h1, h2⟩ | ⟨k, h1, h2⟩
      · dsimp only at h1 h2
        rw [lget_lset, if_neg hj] at h1
        exact lvl_mem.mpr (Or.inl ⟨x, h1, h2⟩)
      · dsimp only at h1 h2
        rw [lget_lset, if_neg hj] at h1
        exact lvl_mem.mpr (Or.inr ⟨k, h1, h2⟩)
    refine List.mem_cons_of_mem _ (List.mem_filter.mpr ⟨hm, ?_⟩)
    simp [hj, cat1 hm]
