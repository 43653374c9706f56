/-! calls, ends, the copy of a row -/
theorem popN_spec : ∀ (n : Nat) (acc st as st2 : List AV), popN n acc st = some (as, st2) → ∃ b, as = b ++ acc ∧ b.length = n ∧ st = b.reverse ++ st2
  | 0, acc, st, as, st2, h => by
    simp only [popN, Option.some.injEq, Prod.mk.injEq] at h
    exact ⟨[], by simp [h.1], rfl, by simp [h.2]⟩
  | n + 1, acc, [], as, st2, h => by simp [popN] at h
  | n + 1, acc, x :: st, as, st2, h => by
    simp only [popN] at h
    obtain ⟨b, h1, h2, h3⟩ := popN_spec n (x :: acc) st as st2 h
    exact ⟨b ++ [x], by simp [h1], by simp [h2], by simp [h3]⟩
section Calls
variable {S : SH} {y : MI} {Q : Option AV → AH → Prop} {pc : Nat} {ls st : List AV} {h : AH}
theorem cat_le (ad : Nat → Nat) (v : AV) : (conc ad v).category ≤ 2 := by
  rcases lv_cat (conc ad v) with e | e <;> omega
theorem cat_sum (ad : Nat → Nat) : ∀ (l : List AV), ((l.map (conc ad)).map fun v => v.category).sum ≤ 2 * l.length
  | [] => by simp
  | v :: l => by
    have h1 := cat_sum ad l
    have h2 := cat_le ad v
    simp only [List.map_cons, List.sum_cons, List.length_cons]
    omega
theorem callC {p : Program} {l : Launch} {e : Env} {R : Room} {s : State} {m : MethodId} {args a : Array Value} {below : List Frame} {meth : Method} {c : Code} {H : Heap} {locs : List Loc} {D : va_G} {ad : Nat → Nat} {cA : Nat → ClassId} {lc : Array Slot} {st0 rest : List Value} {Rr : Option AV → AH → Prop} {Qq : State → Prop}
    (hr : va_Run p l e R s m args below meth c H locs 0 0 0 0 (F0 m pc lc st0) rest (QcR S D ad cA Rr a) (wA S ad)) (hV : va_S (wA S ad) s.heap H locs)
    (kk : ∀ (r : Option AV) (h' : AH) (H1 : Heap) (locs1 : List Loc), Rr r h' → va_P D vwCl (wd S ad cA h') H1 → va_S (wA S ad) s.heap H1 locs1 → W p l e R s m args below meth c H1 locs1 0 0 Qq (F0 m (pc + 3) lc ((r.map (conc ad)).toList ++ rest))) :
    W p l e R s m args below meth c H locs 0 0 Qq (F0 m pc lc st0) := by
  intro T hT X
  obtain ⟨v, st₀, t, T', L, h0, X', hL, e1, e2, ⟨⟨r, h', hv, hp, hw⟩, hz, hk⟩, stp⟩ := hr T hT X
  cases hv
  rw [h0] at hz hk
  obtain ⟨t2, a1, b1⟩ := kk r h' T'.heap (locs ++ L) hp (by rw [e1]; exact hw.1)
    ⟨Nat.le_trans hV.1 (by rw [e1]; exact hz), fun q h1 h2 => by rw [e1, hk q (Nat.lt_of_lt_of_le h1 hV.1) h2]; exact hV.2.1 q h1 h2, fun q hq => by
      rcases List.mem_append.mp hq with h | h
      · exact hV.2.2 q h
      · exact hL q h⟩ T' rfl X'
  exact ⟨t2, stp t2 a1, b1⟩
theorem ret_map (ad : Nat → Nat) (r : Option AV) (rest : List AV) : (r.toList ++ rest).map (conc ad) = (r.map (conc ad)).toList ++ rest.map (conc ad) := by
  cases r <;> simp
theorem wd_at_U {s U : State} {D : va_G} {ad : Nat → Nat} {cA : Nat → ClassId} {H : Heap} {locs : List Loc} (hP : va_P D vwCl (wd S ad cA h) H) (hK : va_K D vwCl (wT S cA) s) (hI : adI S ad) (hX : wX S ad s s.heap) (hV : va_S (wA S ad) s.heap H locs) (hU : U.heap = H) (hW : s.WarmedH U.vm) : Wd S D ad cA h U U.heap := by
  rw [hU]
  exact ⟨hP, va_K.moved hW.alike hK, hI, wX_warm hW (wX_kept hX (fun a h1 h2 => hV.2.1 a h1 h2))⟩
theorem objK_at {k ci : Nat} (hs : objK S k = some ci) : ∃ sl, S.1[k]? = some (.inr (.inl (ci, sl))) := by
  unfold objK at hs
  split at hs
  next c sl e => cases hs; exact ⟨sl, e⟩
  next => cases hs
theorem r_invV (hS : shOk S) {i n k : Nat} {z : MI} {as rest : List AV} {R : Option AV → AH → Prop} (hd : decode (yc y) pc = .ok (.invokevirtual i, 3)) (hc : ct y.1 i = some (0, z, n)) (hp : popN n [] st = some (as, ar k :: rest)) (hrl : rest.length ≤ 4) (ho : objK S k = some z.1) (hrm : rmOk y z) (hOk : Ok S z (ar k :: as) h R)
    (hX : ∀ r h', R r h' → WPx S y Q (pc + 3) ls (r.toList ++ rest) h') : WPx S y Q pc ls st h := by
  intro p l e s m args below meth c D ad cA H locs lc C hP hV hl
  obtain ⟨hx, hb, hml, hr, hown, hts, hlk, hK, hI, hXs⟩ := id C
  obtain ⟨b, e1, e2, e3⟩ := popN_spec n [] st as (ar k :: rest) hp
  rw [List.append_nil] at e1
  subst e1
  obtain ⟨sl, hsl⟩ := objK_at ho
  obtain ⟨r, g1, g2, -, -⟩ := hS.2.2 k z.1 sl hsl
  obtain ⟨k1, k2, k3, k4⟩ := ct_ok hc
  have k5 : Cond.methodLink (clsName y.1) i (yn z) ∈ gtbl ∧ Cond.instanceMethod (yn z) ∈ gtbl ∧ Cond.selects (clsName z.1) (yn z) (yn z) ∈ gtbl := by
    rcases k4 with ⟨-, q⟩ | ⟨q, -⟩ | ⟨q, -⟩
    · exact q
    · cases q
    · cases q
  have hG : GoodIn gtbl (wsV (clsName y.1) i (clsName z.1) (yn z) (wsOf z)) := g_good (by
    intro w hw
    unfold wsV wsOf at hw
    rcases List.mem_append.mp hw with q | q
    · simp only [List.mem_cons, List.not_mem_nil, or_false] at q
      rcases q with rfl | rfl | rfl | rfl
      · exact k5.1
      · exact k5.2.1
      · exact k5.2.2
      · exact k2
    · rcases List.mem_cons.mp q with rfl | q
      · exact k1
      · exact q)
  have hrun := va_runV (p := p) (l := l) (e := e) (R := yR y) (s := s) (m := m) (args := args) (below := below) (meth := meth) (c := c) (H := H) (locs := locs) (cells := 0) (slots := 0) (b := ad k) (As := as.map (conc ad)) (rest := rest.map (conc ad)) (g := F0 m pc lc (st.map (conc ad))) ⟨hx, hb, hml, hown, hts⟩ (hOk l D ad cA) (cwV n hts hG rfl rfl rfl ⟨rfl, k3⟩ hrm)
    ⟨Wd_blind, by rw [← g2]; exact va_recv hK hP g1 (obj_at hsl), fun U hU hW => ⟨rfl, wd_at_U hP hK hI hXs hV hU hW⟩⟩ rfl (by rw [List.length_map]; exact e2) hl.1 (by show st.map (conc ad) = _; rw [e3, List.map_append, List.map_reverse]; rfl)
    (lv_room (by have := cat_sum ad rest; omega)) hd ⟨Nat.le_refl 0, Nat.le_refl 0⟩
  exact callC hrun hV (fun r h' H1 locs1 a1 a2 a3 => by rw [← ret_map]; exact hX r h' a1 p l e s m args below meth c D ad cA H1 locs1 lc C a2 a3 hl)
theorem r_invS {i n : Nat} {z : MI} {as rest : List AV} {R : Option AV → AH → Prop} (hd : decode (yc y) pc = .ok (.invokestatic i, 3)) (hc : ct y.1 i = some (1, z, n)) (hp : popN n [] st = some (as, rest)) (hrl : rest.length ≤ 4) (hrm : rmOk y z) (hOk : Ok S z as h R)
    (hX : ∀ r h', R r h' → WPx S y Q (pc + 3) ls (r.toList ++ rest) h') : WPx S y Q pc ls st h := by
  intro p l e s m args below meth c D ad cA H locs lc C hP hV hl
  obtain ⟨hx, hb, hml, hr, hown, hts, hlk, hK, hI, hXs⟩ := id C
  obtain ⟨b, e1, e2, e3⟩ := popN_spec n [] st as rest hp
  rw [List.append_nil] at e1
  subst e1
  obtain ⟨k1, k2, k3, k4⟩ := ct_ok hc
  have k5 : Cond.methodLink (clsName y.1) i (yn z) ∈ gtbl ∧ Cond.static (yn z) ∈ gtbl := by
    rcases k4 with ⟨q, -⟩ | ⟨-, q⟩ | ⟨q, -⟩
    · cases q
    · exact q
    · cases q
  have hG : GoodIn gtbl (va_wsS (clsName y.1) i (yn z) (wsOf z)) := g_good (by
    intro w hw
    unfold va_wsS wsOf at hw
    rcases List.mem_append.mp hw with q | q
    · simp only [List.mem_cons, List.not_mem_nil, or_false] at q
      rcases q with rfl | rfl | rfl
      · exact k5.1
      · exact k5.2
      · exact k2
    · rcases List.mem_cons.mp q with rfl | q
      · exact k1
      · exact q)
  have hrun := va_runS (p := p) (l := l) (e := e) (R := yR y) (s := s) (m := m) (args := args) (below := below) (meth := meth) (c := c) (H := H) (locs := locs) (cells := 0) (slots := 0) (As := as.map (conc ad)) (rest := rest.map (conc ad)) (g := F0 m pc lc (st.map (conc ad))) ⟨hx, hb, hml, hown, hts⟩ (hOk l D ad cA) (va_cwS n hts hG rfl rfl rfl k3 hrm)
    ⟨Wd_blind, fun U hU hW => ⟨rfl, wd_at_U hP hK hI hXs hV hU hW⟩⟩ rfl (by rw [List.length_map]; exact e2) hl.1 (by show st.map (conc ad) = _; rw [e3, List.map_append, List.map_reverse])
    (lv_room (by have := cat_sum ad rest; omega)) hd ⟨Nat.le_refl 0, Nat.le_refl 0⟩
  exact callC hrun hV (fun r h' H1 locs1 a1 a2 a3 => by rw [← ret_map]; exact hX r h' a1 p l e s m args below meth c D ad cA H1 locs1 lc C a2 a3 hl)
theorem r_invN {i n : Nat} {z : MI} {as rest : List AV} {R : Option AV → AH → Prop} (hd : decode (yc y) pc = .ok (.invokestatic i, 3)) (hc : ct y.1 i = some (2, z, n)) (hN : Cond.methodLinkNest (clsName y.1) i (yn z) "FireLines" ∈ S.2.2.2) (hp : popN n [] st = some (as, rest)) (hrl : rest.length ≤ 4) (hrm : rmOk y z) (hOk : Ok S z as h R)
    (hX : ∀ r h', R r h' → WPx S y Q (pc + 3) ls (r.toList ++ rest) h') : WPx S y Q pc ls st h := by
  intro p l e s m args below meth c D ad cA H locs lc C hP hV hl
  obtain ⟨hx, hb, hml, hr, hown, hts, hlk, hK, hI, hXs⟩ := id C
  obtain ⟨b, e1, e2, e3⟩ := popN_spec n [] st as rest hp
  rw [List.append_nil] at e1
  subst e1
  obtain ⟨k1, k2, k3, k4⟩ := ct_ok hc
  have k5 : Cond.static (yn z) ∈ gtbl := by
    rcases k4 with ⟨q, -⟩ | ⟨q, -⟩ | ⟨-, q⟩
    · cases q
    · cases q
    · exact q
  have hG : GoodIn gtbl (wsOf z) := g_good (by
    intro w hw
    unfold wsOf at hw
    rcases List.mem_cons.mp hw with rfl | q
    · exact k1
    · exact q)
  have hrun := va_runSN (p := p) (l := l) (e := e) (R := yR y) (s := s) (m := m) (args := args) (below := below) (meth := meth) (c := c) (H := H) (locs := locs) (cells := 0) (slots := 0) (As := as.map (conc ad)) (rest := rest.map (conc ad)) (g := F0 m pc lc (st.map (conc ad))) ⟨hx, hb, hml, hown, hts⟩ (hOk l D ad cA) ⟨va_cnB n hts hG rfl rfl rfl (hXs.2 _ hN).2 (hts _ k2) k3 hrm, hts _ k5, trivial⟩
    ⟨Wd_blind, fun U hU hW => ⟨rfl, wd_at_U hP hK hI hXs hV hU hW⟩⟩ rfl (by rw [List.length_map]; exact e2) hl.1 (by show st.map (conc ad) = _; rw [e3, List.map_append, List.map_reverse])
    (lv_room (by have := cat_sum ad rest; omega)) hd ⟨Nat.le_refl 0, Nat.le_refl 0⟩
  exact callC hrun hV (fun r h' H1 locs1 a1 a2 a3 => by rw [← ret_map]; exact hX r h' a1 p l e s m args below meth c D ad cA H1 locs1 lc C a2 a3 hl)
theorem r_iret {v : Int} (hd : decode (yc y) pc = .ok (.ireturn, 1)) (hy : yr y = some .int) (hQ : Q (some (ai v)) h) : WPx S y Q pc ls [ai v] h := by
  intro p l e s m args below meth c D ad cA H locs lc C hP hV hl
  obtain ⟨hx, hb, hml, hr, hown, hts, hlk, hK, hI, hXs⟩ := id C
  exact W.iret hx hb (by rw [hr]; exact hy) (fun t ht hW => ⟨⟨some (ai v), h, rfl, hQ, wd_at_U hP hK hI hXs hV ht hW⟩, hV.F ht⟩) hV.2.2 hd hlk
theorem r_zret {v : Int} (hd : decode (yc y) pc = .ok (.ireturn, 1)) (hy : yr y = some .boolean) (hv : v = 0 ∨ v = 1) (hQ : Q (some (ai v)) h) : WPx S y Q pc ls [ai v] h := by
  intro p l e s m args below meth c D ad cA H locs lc C hP hV hl
  obtain ⟨hx, hb, hml, hr, hown, hts, hlk, hK, hI, hXs⟩ := id C
  refine W.zret hx hb (by rw [hr]; exact hy) ?_ (fun t ht hW => ⟨⟨some (ai v), h, rfl, hQ, wd_at_U hP hK hI hXs hV ht hW⟩, hV.F ht⟩) hV.2.2 hd hlk
  rcases hv with rfl | rfl
  · exact nar_b0
  · exact nar_b1
theorem r_vret (hd : decode (yc y) pc = .ok (.return_, 1)) (hy : yr y = none) (hQ : Q none h) : WPx S y Q pc ls [] h := by
  intro p l e s m args below meth c D ad cA H locs lc C hP hV hl
  obtain ⟨hx, hb, hml, hr, hown, hts, hlk, hK, hI, hXs⟩ := id C
  exact W.vret hx hb (by rw [hr]; exact hy) (fun t ht hW => ⟨⟨none, h, rfl, hQ, wd_at_U hP hK hI hXs hV ht hW⟩, hV.F ht⟩) hV.2.2 hd hlk
theorem r_aret {k : Nat} {nm : String} (hd : decode (yc y) pc = .ok (.areturn, 1)) (hy : yr y = some (.object nm)) (hQ : Q (some (ar k)) h) : WPx S y Q pc ls [ar k] h := by
  intro p l e s m args below meth c D ad cA H locs lc C hP hV hl
  obtain ⟨hx, hb, hml, hr, hown, hts, hlk, hK, hI, hXs⟩ := id C
  exact W.aret hx hb (by rw [hr]; exact hy) (Or.inl ⟨nm, rfl⟩) (Or.inr ⟨ad k, rfl⟩) (fun t ht hW => ⟨⟨some (ar k), h, rfl, hQ, wd_at_U hP hK hI hXs hV ht hW⟩, hV.F ht⟩) hV.2.2 hd hlk
theorem i32_cln {a : Int} {n : Nat} (h0 : 0 ≤ a) (h1 : a ≤ n) (hn : n < 2147483648) : ¬ Int32.ofInt a < 0 ∧ (Int32.ofInt a).toNatClampNeg = a.toNat := by
  have hr : inR a := by constructor <;> omega
  have e := i32_toInt hr
  constructor
  · rw [Int32.lt_iff_toInt_lt, e]
    show ¬ a < 0
    omega
  · show (Int32.ofInt a).toInt.toNat = a.toNat
    rw [e]
theorem cpy_of (f g : Nat → Int) (sp dp n : Nat) : va_cpy (fun j => Int32.ofInt (f j)) (fun j => Int32.ofInt (g j)) sp dp n = fun j => Int32.ofInt (cpyA f g sp dp n j) := by
  funext j
  unfold va_cpy cpyA
  split <;> rfl
theorem r_copy (hS : shOk S) {i k0 k1 n0 n1 : Nat} {sp dp n : Int} (hd : decode (yc y) pc = .ok (.invokestatic i, 3)) (hc : acOk y i) (a0 : arrK S k0 0 = some n0) (a1 : arrK S k1 0 = some n1) (s0 : 0 ≤ sp) (d0 : 0 ≤ dp) (m0 : 0 ≤ n) (s1 : sp + n ≤ n0) (d1 : dp + n ≤ n1) (hrl : st.length ≤ 4)
    (hX : WPx S y Q (pc + 3) ls st (updC h k1 (cpyA (h k0) (h k1) sp.toNat dp.toNat n.toNat))) : WPx S y Q pc ls (ai n :: ai dp :: ar k1 :: ai sp :: ar k0 :: st) h := by
  intro p l e s m args below meth c D ad cA H locs lc C hP hV hl
  obtain ⟨hx, hb, hml, hr, hown, hts, hlk, hK, hI, hXs⟩ := id C
  obtain ⟨w1, w2, w3, w4, w5, w6⟩ := hc
  have b0 := arrK_at a0
  have b1 := arrK_at a1
  obtain ⟨hn0, ht⟩ := hS.1 k0 n0 0 b0
  obtain ⟨hn1, -⟩ := hS.1 k1 n1 0 b1
  have ht0 : S.2.1[0]? = some .int := by rcases ht with ⟨-, q⟩ | ⟨q, -⟩; exact q; cases q
  obtain ⟨z1, z2⟩ := i32_cln (n := n0) s0 (by omega) hn0
  obtain ⟨z3, z4⟩ := i32_cln (n := n1) d0 (by omega) hn1
  obtain ⟨z5, z6⟩ := i32_cln (n := n0) m0 (by omega) hn0
  refine va_copyi hx hb (hml.trans hl.1.symm) hown (hts _ w1) (hts _ w2) (hts _ w3) (hts _ w4) hK hP (wd_D hI) hV k0 k1 0 0 (arr_at b0) (arr_at b1) (wT_at ht0) (wT_at ht0) rfl z1 z3 z5 (by rw [z2, z6]; omega) (by rw [z4, z6]; omega) (fun _ _ => rfl) w5 (by have := cat_sum ad st; have w6' : 8 + (nativeFrameWords "java/lang/System" "arraycopy" 5 + 11) ≤ (yR y).locals := w6; omega) hd (fun H1 locs1 q1 q2 q3 => ?_)
  rw [z2, z4, z6, cpy_of] at q1
  have q1' : va_P D vwCl (wd S ad cA (updC h k1 (cpyA (h k0) (h k1) sp.toNat dp.toNat n.toNat))) H1 := by
    rw [← wd_set b1]; exact q1
  exact hX p l e s m args below meth c D ad cA H1 locs1 lc C q1' q3 hl
theorem r_min {i : Nat} {a b : Int} (hd : decode (yc y) pc = .ok (.invokestatic i, 3)) (hm : mt y.1 i = some 0) (hr : 1 ≤ y.2.2.2.2.2.2.1 ∧ 21 ≤ y.2.2.2.2.2.2.2) (hl4 : st.length ≤ 4) (ha : inR a) (hb2 : inR b) (hX : WPx S y Q (pc + 3) ls (ai (if b < a then b else a) :: st) h) : WPx S y Q pc ls (ai b :: ai a :: st) h := by
  intro p l e s m args below meth c D ad cA H locs lc C hP hV hl
  have kk := hX p l e s m args below meth c D ad cA H locs lc C hP hV hl
  obtain ⟨hx, hb, hml, hrr, hown, hts, hlk, hK, hI, hXs⟩ := id C
  obtain ⟨w1, w2, w3, w4, -, -⟩ := mt_ok hm
  refine va_mmin hx hb (hml.trans hl.1.symm) hown (hts _ w1) (hts _ w2) (hts _ w3) (hts _ (w4 rfl)) hr.1 (by have := cat_sum ad st; have q : 21 ≤ (yR y).locals := hr.2; omega) (Nat.le_refl 0) (Nat.le_refl 0) hd ?_
  have e1 : (if Int32.ofInt b < Int32.ofInt a then Int32.ofInt b else Int32.ofInt a) = Int32.ofInt (if b < a then b else a) := by
    by_cases q : b < a
    · rw [if_pos q, if_pos ((i32_lt hb2 ha).mpr q)]
    · rw [if_neg q, if_neg (fun z => q ((i32_lt hb2 ha).mp z))]
  rw [e1]
  exact kk
theorem r_max {i : Nat} {a b : Int} (hd : decode (yc y) pc = .ok (.invokestatic i, 3)) (hm : mt y.1 i = some 1) (hr : 1 ≤ y.2.2.2.2.2.2.1 ∧ 21 ≤ y.2.2.2.2.2.2.2) (hl4 : st.length ≤ 4) (ha : inR a) (hb2 : inR b) (hX : WPx S y Q (pc + 3) ls (ai (if a < b then b else a) :: st) h) : WPx S y Q pc ls (ai b :: ai a :: st) h := by
  intro p l e s m args below meth c D ad cA H locs lc C hP hV hl
  have kk := hX p l e s m args below meth c D ad cA H locs lc C hP hV hl
  obtain ⟨hx, hb, hml, hrr, hown, hts, hlk, hK, hI, hXs⟩ := id C
  obtain ⟨w1, w2, w3, -, w4, -⟩ := mt_ok hm
  refine va_mmax hx hb (hml.trans hl.1.symm) hown (hts _ w1) (hts _ w2) (hts _ w3) (hts _ (w4 rfl)) hr.1 (by have := cat_sum ad st; have q : 21 ≤ (yR y).locals := hr.2; omega) (Nat.le_refl 0) (Nat.le_refl 0) hd ?_
  have e1 : (if Int32.ofInt a < Int32.ofInt b then Int32.ofInt b else Int32.ofInt a) = Int32.ofInt (if a < b then b else a) := by
    by_cases q : a < b
    · rw [if_pos q, if_pos ((i32_lt ha hb2).mpr q)]
    · rw [if_neg q, if_neg (fun z => q ((i32_lt ha hb2).mp z))]
  rw [e1]
  exact kk
theorem r_abs {i : Nat} {a : Int} (hd : decode (yc y) pc = .ok (.invokestatic i, 3)) (hm : mt y.1 i = some 2) (hr : 1 ≤ y.2.2.2.2.2.2.1 ∧ 21 ≤ y.2.2.2.2.2.2.2) (hl4 : st.length ≤ 4) (ha : inR a) (hX : WPx S y Q (pc + 3) ls (ai (if 0 ≤ a then a else -a) :: st) h) : WPx S y Q pc ls (ai a :: st) h := by
  intro p l e s m args below meth c D ad cA H locs lc C hP hV hl
  have kk := hX p l e s m args below meth c D ad cA H locs lc C hP hV hl
  obtain ⟨hx, hb, hml, hrr, hown, hts, hlk, hK, hI, hXs⟩ := id C
  obtain ⟨w1, w2, w3, -, -, w4⟩ := mt_ok hm
  refine va_mabs hx hb (hml.trans hl.1.symm) hown (hts _ w1) (hts _ w2) (hts _ w3) (hts _ (w4 (Nat.le_refl 2))) hr.1 (by have := cat_sum ad st; have q : 21 ≤ (yR y).locals := hr.2; omega) (Nat.le_refl 0) (Nat.le_refl 0) hd ?_
  have e1 : (if 0 ≤ Int32.ofInt a then Int32.ofInt a else 0 - Int32.ofInt a) = Int32.ofInt (if 0 ≤ a then a else -a) := by
    have h0 : inR 0 := by constructor <;> decide
    rw [show (0 : Int32) = Int32.ofInt 0 from rfl]
    by_cases q : 0 ≤ a
    · rw [if_pos q, if_pos ((i32_le h0 ha).mpr q)]
    · rw [if_neg q, if_neg (fun z => q ((i32_le h0 ha).mp z)), i32_sub]
      congr 1
      omega
  rw [e1]
  exact kk
end Calls
