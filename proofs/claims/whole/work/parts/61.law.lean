/-! one call of the script on both sides -/
def PairOk (zc zm : MI) (as : List AV) (x h : AH) : Prop := ∃ (v : Int) (n : AH), Ok SC zc (ar 0 :: as) x (fun r x2 => r = some (ai v) ∧ RelC x2 n) ∧ Ok SM zm (ar 0 :: as) h (fun r h2 => r = some (ai v) ∧ P23 h2 n ∧ h2 0 30 = h 0 30) ∧ gi n
def LA (s : State) : Nat → Prop := fun q => s.heap.size ≤ q
def LJ (p : Program) (s : State) (m : MethodId) (c : Code) (b L : Nat) (xs : Nat → Int32) (D : va_G) (ad1 ad2 : Nat → Nat) (cA1 cA2 : Nat → ClassId) : Prop :=
  CallFix p m c code 4 s #[Value.ref b] gtbl R_law ∧ va_X b L xs s s.heap ∧ b < s.heap.size ∧ (va_K D vwCl (wT SC cA1) s ∧ va_K D vwCl (wT SM cA2) s) ∧ (adI SC ad1 ∧ adI SM ad2) ∧ (∀ q, wA SC ad1 q → LA s q) ∧ (∀ q, wA SM ad2 q → LA s q) ∧ (∀ q, wA SC ad1 q → ¬ wA SM ad2 q) ∧
  (∃ st : Nat → Nat, st8 st (LA s) s s.heap ∧ ∀ i, ad1 (1000 + i) = st i) ∧ (∀ w ∈ SCn, nestB w = true ∧ va_Nw w s)
def LV (s : State) (D : va_G) (ad1 ad2 : Nat → Nat) (cA1 cA2 : Nat → ClassId) (x h : AH) (H : Heap) (locs : List Loc) : Prop := va_P D vwCl (wd SC ad1 cA1 x) H ∧ va_P D vwCl (wd SM ad2 cA2 h) H ∧ va_S (LA s) s.heap H locs
theorem wX_SM {ad : Nat → Nat} {U : State} {G : Heap} : wX SM ad U G := ⟨fun i q hq => absurd hq (by simp [SM]), fun w hw => absurd hw (by simp [SM])⟩
theorem LJ_X {p : Program} {s : State} {m : MethodId} {c : Code} {b L : Nat} {xs : Nat → Int32} {D : va_G} {ad1 ad2 : Nat → Nat} {cA1 cA2 : Nat → ClassId} {H : Heap} {locs : List Loc} (J : LJ p s m c b L xs D ad1 ad2 cA1 cA2) (hS : va_S (LA s) s.heap H locs) : wX SC ad1 s H := by
  obtain ⟨-, -, -, -, -, hwA, -, -, ⟨st, hZ, hs0⟩, hN⟩ := J
  refine ⟨fun i q hq => ?_, hN⟩
  rw [hs0 i]
  obtain ⟨z1, z2⟩ := hZ i q hq
  exact ⟨(z1.kept (fun a b1 b2 => hS.2.1 a b1 b2)).narrow hwA, (z2.kept (fun a b1 b2 => hS.2.1 a b1 b2)).narrow hwA⟩
theorem wd_kept {S : SH} {D : va_G} {ad : Nat → Nat} {cA : Nat → ClassId} {h : AH} {H H1 : Heap} {B : Nat → Prop} (hP : va_P D vwCl (wd S ad cA h) H) (hk : ∀ q : Nat, q < H.size → ¬ B q → H1[q]? = H[q]?) (hB : ∀ q, wA S ad q → ¬ B q) : va_P D vwCl (wd S ad cA h) H1 := by
  refine hP.kept (fun k q hq => hk q.1 (hP k q hq).lt (hB q.1 ?_))
  have hl : k < (wd S ad cA h).length := (List.getElem?_eq_some_iff.mp hq).1
  have hl2 : k < S.1.length := by unfold wd at hl; rw [List.length_mapIdx] at hl; exact hl
  rw [wd_at (List.getElem?_eq_getElem hl2)] at hq
  cases hq
  exact ⟨k, hl2, rfl⟩
def argD (pc t : Nat) : Prop := decode code pc = .ok (.aload_n 0, 1) ∧ decode code (pc + 1) = .ok (.iload_n 3, 1) ∧ decode code (pc + 2) = .ok (.iconst ((t : Int) + 1), 1) ∧ decode code (pc + 3) = .ok (.iadd, 1) ∧ decode code (pc + 4) = .ok (.iaload, 1)
def argsD (pc n : Nat) : Prop := ∀ t, t < n → argD (pc + 5 * t) t
def pushed (xs : Nat → Int32) (i : Nat) (st : List Value) : Nat → List Value
  | 0 => st
  | n + 1 => .int (xs (i + n + 1)) :: pushed xs i st n
def argsL (xs : Nat → Int32) (i : Nat) : Nat → List AV
  | 0 => []
  | n + 1 => argsL xs i n ++ [ai (xs (i + n + 1)).toInt]
theorem pushed_eq (xs : Nat → Int32) (i : Nat) (st : List Value) (ad : Nat → Nat) : ∀ n, pushed xs i st n = ((argsL xs i n).map (conc ad)).reverse ++ st
  | 0 => rfl
  | n + 1 => by
    rw [pushed, argsL, pushed_eq xs i st ad n, List.map_append, List.reverse_append]
    simp [conc]
theorem argsL_len (xs : Nat → Int32) (i : Nat) : ∀ n, (argsL xs i n).length = n
  | 0 => rfl
  | n + 1 => by rw [argsL, List.length_append, argsL_len xs i n]; rfl
section Law
variable {p : Program} {l : Launch} {e : Env} {R : Room} {s : State} {m : MethodId} {below : List Frame} {meth : Method} {c : Code} {b L : Nat} {xs : Nat → Int32} {D : va_G} {ad1 ad2 : Nat → Nat} {cA1 cA2 : Nat → ClassId} {H : Heap} {locs : List Loc} {cells slots : Nat} {Q : State → Prop} {ls : Array Slot} {i : Nat} {x h : AH}
theorem law_push (hx : p.tables.exec = Jvm.exec) (hb : c.code = code) (hX : va_X b L xs s s.heap) (hbl : b < s.heap.size) (hS : va_S (LA s) s.heap H locs) {a1 a2 : Nat} (hl : lv_has ls 4 [(0, .ref b), (1, .ref a1), (2, .ref a2), (3, .int (Int32.ofInt i))]) (hi : i + 5 ≤ L) (hL : L ≤ 2560) {st : List Value} {pc : Nat} : ∀ n, n ≤ 4 → argsD pc n → W p l e R s m #[Value.ref b] below meth c H locs cells slots Q (F0 m (pc + 5 * n) ls (pushed xs i st n)) → W p l e R s m #[Value.ref b] below meth c H locs cells slots Q (F0 m pc ls st) := by
  intro n
  induction n with
  | zero => intro _ _ k; exact k
  | succ n ih =>
    intro hn hA k
    refine ih (by omega) (fun t ht => hA t (by omega)) ?_
    obtain ⟨d0, d1, d2, d3, d4⟩ := hA n (by omega)
    refine lv_aload_n hx hb d0 rfl (lv_at hl 0 rfl) ?_
    refine lv_iload_n hx hb d1 rfl (lv_at hl 3 rfl) ?_
    refine lv_iconst (v := Int32.ofInt ((n : Int) + 1)) hx hb d2 rfl ?_
    refine lv_iadd hx hb d3 ?_
    rw [i32_add]
    obtain ⟨z1, z2⟩ := i32_cl (a := (i : Int) + ((n : Int) + 1)) (n := L) (by omega) (by omega) (by omega)
    refine va_sld hx hb hX hbl (Nat.not_le.mpr hbl) hS z1 d4 ?_
    rw [z2, show ((i : Int) + ((n : Int) + 1)).toNat = i + n + 1 by omega]
    exact k
def caseD (pc n ic im : Nat) (off : Int) : Prop := decode code pc = .ok (.aload_n 1, 1) ∧ argsD (pc + 1) n ∧ decode code (pc + 1 + 5 * n) = .ok (.invokevirtual ic, 3) ∧ decode code (pc + 1 + 5 * n + 3) = .ok (.aload_n 2, 1) ∧ argsD (pc + 1 + 5 * n + 3 + 1) n ∧ decode code (pc + 1 + 5 * n + 3 + 1 + 5 * n) = .ok (.invokevirtual im, 3) ∧ decode code (pc + 1 + 5 * n + 3 + 1 + 5 * n + 3) = .ok (.if_icmp .eq off, 3) ∧ ((pc + 1 + 5 * n + 3 + 1 + 5 * n + 3 : Nat) : Int) + off = ((896 : Nat) : Int)
theorem law_case (J : LJ p s m c b L xs D ad1 ad2 cA1 cA2) (V : LV s D ad1 ad2 cA1 cA2 x h H locs) (hLI : LI x h) (hl : lv_has ls 4 [(0, .ref b), (1, .ref (ad1 0)), (2, .ref (ad2 0)), (3, .int (Int32.ofInt i))]) (hi : i + 5 ≤ L) (hL : L ≤ 2560) (hR : cells ≤ R.cells ∧ slots ≤ R.slots) {pc n ic im : Nat} {off : Int} {zc zm : MI} (hn : n ≤ 4) (hd : caseD pc n ic im off) (hvc : vOk R_law ic zc n) (hvm : vOk R_law im zm n) (hrc : zc.2.2.2.2.2.2.1 + 1 ≤ R.frames ∧ 8 + (yL zc + 11) + zc.2.2.2.2.2.2.2 ≤ R.locals) (hrm : zm.2.2.2.2.2.2.1 + 1 ≤ R.frames ∧ 8 + (yL zm + 11) + zm.2.2.2.2.2.2.2 ≤ R.locals) (hc8 : zc.1 = 8) (hm9 : zm.1 = 9) (hp : PairOk zc zm (argsL xs i n) x h)
    (kk : ∀ (x2 h2 : AH) (H1 : Heap) (locs1 : List Loc), LV s D ad1 ad2 cA1 cA2 x2 h2 H1 locs1 → LI x2 h2 → W p l e R s m #[Value.ref b] below meth c H1 locs1 cells slots Q (F0 m 896 ls [])) :
    W p l e R s m #[Value.ref b] below meth c H locs cells slots Q (F0 m pc ls []) := by
  obtain ⟨v, n2, hok1, hok2, hgn⟩ := hp
  obtain ⟨hd0, hd1, hd2, hd3, hd4, hd5, hd6, hd7⟩ := hd
  obtain ⟨F, hX, hbl, ⟨hK1, hK2⟩, ⟨hI1, hI2⟩, hA1, hA2, hdj, -, -⟩ := id J
  obtain ⟨hx, hb, hml, hown, htg⟩ := id F
  obtain ⟨hP1, hP2, hS⟩ := V
  refine lv_aload_n hx hb hd0 rfl (lv_at hl 1 rfl) ?_
  refine law_push hx hb hX hbl hS hl hi hL n hn hd1 ?_
  refine ok_call (k := 0) (as := argsL xs i n) (rest := []) (n := n) (D := D) (ad := ad1) SC_ok F hvc hok1 hrc (by rw [hc8]; rfl) hP1 hK1 hI1 (LJ_X J hS) hS hA1 (argsL_len xs i n) hl.1 (pushed_eq xs i _ ad1 n) (Nat.zero_le _) hd2 hR (fun r x2 H1 locs1 hr1 hP1 hz1 hk1 hS => ?_)
  obtain ⟨rfl, hrel⟩ := hr1
  have hP2 := wd_kept hP2 hk1 (fun q h1 h2 => hdj q h2 h1)
  refine lv_aload_n hx hb hd3 rfl (lv_at hl 2 rfl) ?_
  refine law_push hx hb hX hbl hS hl hi hL n hn hd4 ?_
  refine ok_call (k := 0) (as := argsL xs i n) (rest := [.int (Int32.ofInt v)]) (n := n) (D := D) (ad := ad2) SM_ok F hvm hok2 hrm (by rw [hm9]; rfl) hP2 hK2 hI2 wX_SM hS hA2 (argsL_len xs i n) hl.1 (pushed_eq xs i _ ad2 n) (Nat.le_of_ble_eq_true rfl) hd5 hR (fun r h2 H2 locs2 hr2 hP2 hz2 hk2 hS => ?_)
  obtain ⟨rfl, hP23, h30⟩ := hr2
  have hP1 := wd_kept hP1 hk2 (fun q h1 h2 => hdj q h1 h2)
  refine lv_icmp_eq (x := Int32.ofInt v) (y := Int32.ofInt v) (tgt := 896) hx hb hd6 hd7 (fun _ => ?_) (fun z => absurd rfl z)
  exact kk x2 h2 H2 locs2 ⟨hP1, hP2, hS⟩ (LI_n hrel hgn hP23 h30 hLI.2.2)
end Law
