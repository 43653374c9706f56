/-! the law's loop -/
set_option maxHeartbeats 4000000 in
theorem law_loop {p : Program} {l : Launch} {e : Env} {s : State} {m : MethodId} {below : List Frame} {meth : Method} {c : Code} {b L : Nat} {xs : Nat → Int32} {D : va_G} {ad1 ad2 : Nat → Nat} {cA1 cA2 : Nat → ClassId} {cells slots : Nat} (hL : L ≤ 2560) (C0 : lw_At p s m meth c b L xs) (J : LJ p s m c b L xs D ad1 ad2 cA1 cA2) (hR : cells ≤ 600000 ∧ slots ≤ 7302250) :
    ∀ (n i : Nat) (x h : AH) (H : Heap) (locs : List Loc) (ls : Array Slot), L < i + 5 * n → i ≤ 2600 → LV s D ad1 ad2 cA1 cA2 x h H locs → LI x h → lv_has ls 4 [(0, .ref b), (1, .ref (ad1 0)), (2, .ref (ad2 0)), (3, .int (Int32.ofInt i))] → W p l e room_1 s m #[Value.ref b] below meth c H locs cells slots (lw_Z below #[Value.ref b] s) (F0 m 18 ls []) := by
  obtain ⟨hx, hb, hr, hml, hown, hts, hX, hbl, hlocks, hgv⟩ := C0
  intro n
  induction n with
  | zero =>
    intro i x h H locs ls hn hi V hLI hl
    obtain ⟨hP1, hP2, hS⟩ := V
    refine lv_iload_n hx hb (show decode code 18 = .ok (.iload_n 3, 1) by decide +kernel) rfl (lv_at hl 3 rfl) ?_
    refine lv_aload_n hx hb (show decode code 19 = .ok (.aload_n 0, 1) by decide +kernel) rfl (lv_at hl 0 rfl) ?_
    refine va_slen hx hb hX hbl (Nat.not_le.mpr hbl) hS (show decode code 20 = .ok (.arraylength, 1) by decide +kernel) ?_
    refine lv_iconst (v := Int32.ofInt 5) hx hb (show decode code 21 = .ok (.iconst 5, 1) by decide +kernel) rfl ?_
    refine lv_isub hx hb (show decode code 22 = .ok (.isub, 1) by decide +kernel) ?_
    rw [show Int32.ofNat L = Int32.ofInt (L : Int) from (Int32.ofInt_eq_ofNat).symm, i32_sub]
    refine lv_icmp_gt (tgt := 902) hx hb (show decode code 23 = .ok (.if_icmp .gt 879, 3) by decide +kernel) (by decide) (fun _ => ?_) (fun z => absurd ((i32_lt (by constructor <;> omega) (by constructor <;> omega)).mpr (by omega)) z)
    refine lv_iconst (v := 1) hx hb (show decode code 902 = .ok (.iconst 1, 1) by decide +kernel) (by decide) ?_
    refine va_forget (fun q hq => hS.2.2 q hq) ?_
    refine W.widen (k := 600000) (n := 7302250) hR.1 hR.2 ?_
    exact lw_ret hx hb hr hlocks (by decide +kernel)
  | succ n ih =>
    intro i x h H locs ls hn hi V hLI hl
    obtain ⟨hP1, hP2, hS⟩ := id V
    refine lv_iload_n hx hb (show decode code 18 = .ok (.iload_n 3, 1) by decide +kernel) rfl (lv_at hl 3 rfl) ?_
    refine lv_aload_n hx hb (show decode code 19 = .ok (.aload_n 0, 1) by decide +kernel) rfl (lv_at hl 0 rfl) ?_
    refine va_slen hx hb hX hbl (Nat.not_le.mpr hbl) hS (show decode code 20 = .ok (.arraylength, 1) by decide +kernel) ?_
    refine lv_iconst (v := Int32.ofInt 5) hx hb (show decode code 21 = .ok (.iconst 5, 1) by decide +kernel) rfl ?_
    refine lv_isub hx hb (show decode code 22 = .ok (.isub, 1) by decide +kernel) ?_
    rw [show Int32.ofNat L = Int32.ofInt (L : Int) from (Int32.ofInt_eq_ofNat).symm, i32_sub]
    refine lv_icmp_gt (tgt := 902) hx hb (show decode code 23 = .ok (.if_icmp .gt 879, 3) by decide +kernel) (by decide) (fun _ => ?_) (fun z => ?_)
    · refine lv_iconst (v := 1) hx hb (show decode code 902 = .ok (.iconst 1, 1) by decide +kernel) (by decide) ?_
      refine va_forget (fun q hq => hS.2.2 q hq) ?_
      refine W.widen (k := 600000) (n := 7302250) hR.1 hR.2 ?_
      exact lw_ret hx hb hr hlocks (by decide +kernel)
    · rw [i32_lt (by constructor <;> omega) (by constructor <;> omega)] at z
      have hi5 : i + 5 ≤ L := by omega
      refine lv_aload_n hx hb (show decode code 26 = .ok (.aload_n 0, 1) by decide +kernel) rfl (lv_at hl 0 rfl) ?_
      refine lv_iload_n hx hb (show decode code 27 = .ok (.iload_n 3, 1) by decide +kernel) rfl (lv_at hl 3 rfl) ?_
      obtain ⟨z1, z2⟩ := i32_cl (a := (i : Int)) (n := L) (by omega) (by omega) (by omega)
      refine va_sld hx hb hX hbl (Nat.not_le.mpr hbl) hS z1 (show decode code 28 = .ok (.iaload, 1) by decide +kernel) ?_
      refine lv_bipush (v := 31) hx hb (show decode code 29 = .ok (.bipush 31, 2) by decide +kernel) rfl ?_
      refine lv_iand hx hb (show decode code 31 = .ok (.iand, 1) by decide +kernel) ?_
      refine law_switch J V hLI hl hi5 hL hR _ (fun x2 h2 H1 locs1 V2 hLI2 => ?_)
      refine lv_iinc (v := Int32.ofInt ((i + 5 : Nat) : Int)) (lv' := [(3, .int (Int32.ofInt ((i + 5 : Nat) : Int))), (0, .ref b), (1, .ref (ad1 0)), (2, .ref (ad2 0))]) hx hb (show decode code 896 = .ok (.iinc 3 5, 3) by decide +kernel) hl (k := 3) rfl (by rw [i32_add]; rfl) (by decide) rfl (fun ls hl => ?_)
      refine lv_goto (tgt := 18) hx hb (show decode code 899 = .ok (.goto (-881), 3) by decide +kernel) (by decide) ?_
      exact ih (i + 5) x2 h2 H1 locs1 ls (by omega) (by omega) V2 hLI2 (lv_sub hl [1, 2, 3, 0] rfl)
