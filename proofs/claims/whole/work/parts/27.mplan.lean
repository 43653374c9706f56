/-! the reference's plan -/
theorem p_bits {h : AH} {s : Nat} (hs : s < 64) : Ok SM mX9_bits [ai s] h (fun r h2 => r = some (ai (pop6 s)) ∧ h2 = h) := by
  have b0 : (Int32.ofInt (Int32.ofInt s >>> (Int32.ofInt 0 &&& 31)).toInt &&& Int32.ofInt 1).toInt = bitN s 0 := bit_e (k := 0) hs (by omega)
  have b1 : (Int32.ofInt (Int32.ofInt s >>> (Int32.ofInt 1 &&& 31)).toInt &&& Int32.ofInt 1).toInt = bitN s 1 := bit_e (k := 1) hs (by omega)
  have b2 : (Int32.ofInt (Int32.ofInt s >>> (Int32.ofInt 2 &&& 31)).toInt &&& Int32.ofInt 1).toInt = bitN s 2 := bit_e (k := 2) hs (by omega)
  have b3 : (Int32.ofInt (Int32.ofInt s >>> (Int32.ofInt 3 &&& 31)).toInt &&& Int32.ofInt 1).toInt = bitN s 3 := bit_e (k := 3) hs (by omega)
  have b4 : (Int32.ofInt (Int32.ofInt s >>> (Int32.ofInt 4 &&& 31)).toInt &&& Int32.ofInt 1).toInt = bitN s 4 := bit_e (k := 4) hs (by omega)
  have b5 : (Int32.ofInt (Int32.ofInt s >>> (Int32.ofInt 5 &&& 31)).toInt &&& Int32.ofInt 1).toInt = bitN s 5 := bit_e (k := 5) hs (by omega)
  refine Ok_of SM_ok (by decide +kernel) rfl (Nat.le_of_ble_eq_true rfl) ?_
  show SG SM mX9_bits _ 0 [ai s, au, au] [] _
  simp only [sX9_bits_0, sX9_bits_1, sX9_bits_2, sX9_bits_3, sX9_bits_5, sX9_bits_7, sX9_bits_10, sX9_bits_11, sX9_bits_12, sX9_bits_13, sX9_bits_14, sX9_bits_15, sX9_bits_16, sX9_bits_17, sX9_bits_18, sX9_bits_21, sX9_bits_24, sX9_bits_25, onI_i, onR_r, onS_s, slotA_i, slotA_b, slotA_l, slotA_r, ptk_i, ptk_b, ptk_l, aldP_s, aldP_n, uc_s, uc_n, uc_uc, ua_s, ua_n, Nat.reduceEqDiff, not_false_eq_true, true_or, or_true, true_and, and_true, implies_true, Option.some.injEq, Sum.inl.injEq, Int.toNat_natCast, true_implies, not_true_eq_false, false_implies, Int.reduceEq, Int.reduceLT, Int.reduceLE, Int.reduceNeg, Int.reduceAdd, Int.reduceSub, Int.reduceMul, Int.reduceToNat, lg_0, lg_1, lg_2, lz_0, lz_1, lz_2, sms_0_0, sms_0_1, sms_0_2, sms_0_3, sms_0_4, sms_0_5, sms_0_6, sms_0_7, sms_0_8, sms_0_9, sms_0_10, sms_0_11, sms_0_12, sms_0_13, sms_0_14, sms_0_15, sms_0_16, sms_0_17, sms_0_18, sms_0_19, sms_0_20, sms_0_21, sms_0_22, sms_0_23, sms_0_24, sms_0_25, sms_0_26, sms_0_27, sms_0_28, sms_0_29, sms_0_30, sms_0_31, sms_0_32, sms_0_33, sms_0_34, sms_0_35, sms_0_36, sms_0_37, sma_1, sma_2, sma_3, sma_4, sma_5, sma_6, sma_7, sma_8, sma_9, sma_10, sma_11, sma_12, sma_13, sma_14, sma_15, sma_16, sma_17, sma_18, sma_19, sma_20, sma_21, sma_22, sma_23, sma_24, sma_25, sma_26, sma_27, sma_28, sma_29]
  rw [sX9_bits_4]
  simp only [sX9_bits_0, sX9_bits_1, sX9_bits_2, sX9_bits_3, sX9_bits_5, sX9_bits_7, sX9_bits_10, sX9_bits_11, sX9_bits_12, sX9_bits_13, sX9_bits_14, sX9_bits_15, sX9_bits_16, sX9_bits_17, sX9_bits_18, sX9_bits_21, sX9_bits_24, sX9_bits_25, onI_i, onR_r, onS_s, slotA_i, slotA_b, slotA_l, slotA_r, ptk_i, ptk_b, ptk_l, aldP_s, aldP_n, uc_s, uc_n, uc_uc, ua_s, ua_n, Nat.reduceEqDiff, not_false_eq_true, true_or, or_true, true_and, and_true, implies_true, Option.some.injEq, Sum.inl.injEq, Int.toNat_natCast, true_implies, not_true_eq_false, false_implies, Int.reduceEq, Int.reduceLT, Int.reduceLE, Int.reduceNeg, Int.reduceAdd, Int.reduceSub, Int.reduceMul, Int.reduceToNat, lg_0, lg_1, lg_2, lz_0, lz_1, lz_2, sms_0_0, sms_0_1, sms_0_2, sms_0_3, sms_0_4, sms_0_5, sms_0_6, sms_0_7, sms_0_8, sms_0_9, sms_0_10, sms_0_11, sms_0_12, sms_0_13, sms_0_14, sms_0_15, sms_0_16, sms_0_17, sms_0_18, sms_0_19, sms_0_20, sms_0_21, sms_0_22, sms_0_23, sms_0_24, sms_0_25, sms_0_26, sms_0_27, sms_0_28, sms_0_29, sms_0_30, sms_0_31, sms_0_32, sms_0_33, sms_0_34, sms_0_35, sms_0_36, sms_0_37, sma_1, sma_2, sma_3, sma_4, sma_5, sma_6, sma_7, sma_8, sma_9, sma_10, sma_11, sma_12, sma_13, sma_14, sma_15, sma_16, sma_17, sma_18, sma_19, sma_20, sma_21, sma_22, sma_23, sma_24, sma_25, sma_26, sma_27, sma_28, sma_29, b0]
  refine ⟨by omega, by omega, ?_⟩
  rw [sX9_bits_4]
  simp only [sX9_bits_0, sX9_bits_1, sX9_bits_2, sX9_bits_3, sX9_bits_5, sX9_bits_7, sX9_bits_10, sX9_bits_11, sX9_bits_12, sX9_bits_13, sX9_bits_14, sX9_bits_15, sX9_bits_16, sX9_bits_17, sX9_bits_18, sX9_bits_21, sX9_bits_24, sX9_bits_25, onI_i, onR_r, onS_s, slotA_i, slotA_b, slotA_l, slotA_r, ptk_i, ptk_b, ptk_l, aldP_s, aldP_n, uc_s, uc_n, uc_uc, ua_s, ua_n, Nat.reduceEqDiff, not_false_eq_true, true_or, or_true, true_and, and_true, implies_true, Option.some.injEq, Sum.inl.injEq, Int.toNat_natCast, true_implies, not_true_eq_false, false_implies, Int.reduceEq, Int.reduceLT, Int.reduceLE, Int.reduceNeg, Int.reduceAdd, Int.reduceSub, Int.reduceMul, Int.reduceToNat, lg_0, lg_1, lg_2, lz_0, lz_1, lz_2, sms_0_0, sms_0_1, sms_0_2, sms_0_3, sms_0_4, sms_0_5, sms_0_6, sms_0_7, sms_0_8, sms_0_9, sms_0_10, sms_0_11, sms_0_12, sms_0_13, sms_0_14, sms_0_15, sms_0_16, sms_0_17, sms_0_18, sms_0_19, sms_0_20, sms_0_21, sms_0_22, sms_0_23, sms_0_24, sms_0_25, sms_0_26, sms_0_27, sms_0_28, sms_0_29, sms_0_30, sms_0_31, sms_0_32, sms_0_33, sms_0_34, sms_0_35, sms_0_36, sms_0_37, sma_1, sma_2, sma_3, sma_4, sma_5, sma_6, sma_7, sma_8, sma_9, sma_10, sma_11, sma_12, sma_13, sma_14, sma_15, sma_16, sma_17, sma_18, sma_19, sma_20, sma_21, sma_22, sma_23, sma_24, sma_25, sma_26, sma_27, sma_28, sma_29, b1]
  refine ⟨by omega, by omega, ?_⟩
  rw [sX9_bits_4]
  simp only [sX9_bits_0, sX9_bits_1, sX9_bits_2, sX9_bits_3, sX9_bits_5, sX9_bits_7, sX9_bits_10, sX9_bits_11, sX9_bits_12, sX9_bits_13, sX9_bits_14, sX9_bits_15, sX9_bits_16, sX9_bits_17, sX9_bits_18, sX9_bits_21, sX9_bits_24, sX9_bits_25, onI_i, onR_r, onS_s, slotA_i, slotA_b, slotA_l, slotA_r, ptk_i, ptk_b, ptk_l, aldP_s, aldP_n, uc_s, uc_n, uc_uc, ua_s, ua_n, Nat.reduceEqDiff, not_false_eq_true, true_or, or_true, true_and, and_true, implies_true, Option.some.injEq, Sum.inl.injEq, Int.toNat_natCast, true_implies, not_true_eq_false, false_implies, Int.reduceEq, Int.reduceLT, Int.reduceLE, Int.reduceNeg, Int.reduceAdd, Int.reduceSub, Int.reduceMul, Int.reduceToNat, lg_0, lg_1, lg_2, lz_0, lz_1, lz_2, sms_0_0, sms_0_1, sms_0_2, sms_0_3, sms_0_4, sms_0_5, sms_0_6, sms_0_7, sms_0_8, sms_0_9, sms_0_10, sms_0_11, sms_0_12, sms_0_13, sms_0_14, sms_0_15, sms_0_16, sms_0_17, sms_0_18, sms_0_19, sms_0_20, sms_0_21, sms_0_22, sms_0_23, sms_0_24, sms_0_25, sms_0_26, sms_0_27, sms_0_28, sms_0_29, sms_0_30, sms_0_31, sms_0_32, sms_0_33, sms_0_34, sms_0_35, sms_0_36, sms_0_37, sma_1, sma_2, sma_3, sma_4, sma_5, sma_6, sma_7, sma_8, sma_9, sma_10, sma_11, sma_12, sma_13, sma_14, sma_15, sma_16, sma_17, sma_18, sma_19, sma_20, sma_21, sma_22, sma_23, sma_24, sma_25, sma_26, sma_27, sma_28, sma_29, b2]
  refine ⟨by omega, by omega, ?_⟩
  rw [sX9_bits_4]
  simp only [sX9_bits_0, sX9_bits_1, sX9_bits_2, sX9_bits_3, sX9_bits_5, sX9_bits_7, sX9_bits_10, sX9_bits_11, sX9_bits_12, sX9_bits_13, sX9_bits_14, sX9_bits_15, sX9_bits_16, sX9_bits_17, sX9_bits_18, sX9_bits_21, sX9_bits_24, sX9_bits_25, onI_i, onR_r, onS_s, slotA_i, slotA_b, slotA_l, slotA_r, ptk_i, ptk_b, ptk_l, aldP_s, aldP_n, uc_s, uc_n, uc_uc, ua_s, ua_n, Nat.reduceEqDiff, not_false_eq_true, true_or, or_true, true_and, and_true, implies_true, Option.some.injEq, Sum.inl.injEq, Int.toNat_natCast, true_implies, not_true_eq_false, false_implies, Int.reduceEq, Int.reduceLT, Int.reduceLE, Int.reduceNeg, Int.reduceAdd, Int.reduceSub, Int.reduceMul, Int.reduceToNat, lg_0, lg_1, lg_2, lz_0, lz_1, lz_2, sms_0_0, sms_0_1, sms_0_2, sms_0_3, sms_0_4, sms_0_5, sms_0_6, sms_0_7, sms_0_8, sms_0_9, sms_0_10, sms_0_11, sms_0_12, sms_0_13, sms_0_14, sms_0_15, sms_0_16, sms_0_17, sms_0_18, sms_0_19, sms_0_20, sms_0_21, sms_0_22, sms_0_23, sms_0_24, sms_0_25, sms_0_26, sms_0_27, sms_0_28, sms_0_29, sms_0_30, sms_0_31, sms_0_32, sms_0_33, sms_0_34, sms_0_35, sms_0_36, sms_0_37, sma_1, sma_2, sma_3, sma_4, sma_5, sma_6, sma_7, sma_8, sma_9, sma_10, sma_11, sma_12, sma_13, sma_14, sma_15, sma_16, sma_17, sma_18, sma_19, sma_20, sma_21, sma_22, sma_23, sma_24, sma_25, sma_26, sma_27, sma_28, sma_29, b3]
  refine ⟨by omega, by omega, ?_⟩
  rw [sX9_bits_4]
  simp only [sX9_bits_0, sX9_bits_1, sX9_bits_2, sX9_bits_3, sX9_bits_5, sX9_bits_7, sX9_bits_10, sX9_bits_11, sX9_bits_12, sX9_bits_13, sX9_bits_14, sX9_bits_15, sX9_bits_16, sX9_bits_17, sX9_bits_18, sX9_bits_21, sX9_bits_24, sX9_bits_25, onI_i, onR_r, onS_s, slotA_i, slotA_b, slotA_l, slotA_r, ptk_i, ptk_b, ptk_l, aldP_s, aldP_n, uc_s, uc_n, uc_uc, ua_s, ua_n, Nat.reduceEqDiff, not_false_eq_true, true_or, or_true, true_and, and_true, implies_true, Option.some.injEq, Sum.inl.injEq, Int.toNat_natCast, true_implies, not_true_eq_false, false_implies, Int.reduceEq, Int.reduceLT, Int.reduceLE, Int.reduceNeg, Int.reduceAdd, Int.reduceSub, Int.reduceMul, Int.reduceToNat, lg_0, lg_1, lg_2, lz_0, lz_1, lz_2, sms_0_0, sms_0_1, sms_0_2, sms_0_3, sms_0_4, sms_0_5, sms_0_6, sms_0_7, sms_0_8, sms_0_9, sms_0_10, sms_0_11, sms_0_12, sms_0_13, sms_0_14, sms_0_15, sms_0_16, sms_0_17, sms_0_18, sms_0_19, sms_0_20, sms_0_21, sms_0_22, sms_0_23, sms_0_24, sms_0_25, sms_0_26, sms_0_27, sms_0_28, sms_0_29, sms_0_30, sms_0_31, sms_0_32, sms_0_33, sms_0_34, sms_0_35, sms_0_36, sms_0_37, sma_1, sma_2, sma_3, sma_4, sma_5, sma_6, sma_7, sma_8, sma_9, sma_10, sma_11, sma_12, sma_13, sma_14, sma_15, sma_16, sma_17, sma_18, sma_19, sma_20, sma_21, sma_22, sma_23, sma_24, sma_25, sma_26, sma_27, sma_28, sma_29, b4]
  refine ⟨by omega, by omega, ?_⟩
  rw [sX9_bits_4]
  simp only [sX9_bits_0, sX9_bits_1, sX9_bits_2, sX9_bits_3, sX9_bits_5, sX9_bits_7, sX9_bits_10, sX9_bits_11, sX9_bits_12, sX9_bits_13, sX9_bits_14, sX9_bits_15, sX9_bits_16, sX9_bits_17, sX9_bits_18, sX9_bits_21, sX9_bits_24, sX9_bits_25, onI_i, onR_r, onS_s, slotA_i, slotA_b, slotA_l, slotA_r, ptk_i, ptk_b, ptk_l, aldP_s, aldP_n, uc_s, uc_n, uc_uc, ua_s, ua_n, Nat.reduceEqDiff, not_false_eq_true, true_or, or_true, true_and, and_true, implies_true, Option.some.injEq, Sum.inl.injEq, Int.toNat_natCast, true_implies, not_true_eq_false, false_implies, Int.reduceEq, Int.reduceLT, Int.reduceLE, Int.reduceNeg, Int.reduceAdd, Int.reduceSub, Int.reduceMul, Int.reduceToNat, lg_0, lg_1, lg_2, lz_0, lz_1, lz_2, sms_0_0, sms_0_1, sms_0_2, sms_0_3, sms_0_4, sms_0_5, sms_0_6, sms_0_7, sms_0_8, sms_0_9, sms_0_10, sms_0_11, sms_0_12, sms_0_13, sms_0_14, sms_0_15, sms_0_16, sms_0_17, sms_0_18, sms_0_19, sms_0_20, sms_0_21, sms_0_22, sms_0_23, sms_0_24, sms_0_25, sms_0_26, sms_0_27, sms_0_28, sms_0_29, sms_0_30, sms_0_31, sms_0_32, sms_0_33, sms_0_34, sms_0_35, sms_0_36, sms_0_37, sma_1, sma_2, sma_3, sma_4, sma_5, sma_6, sma_7, sma_8, sma_9, sma_10, sma_11, sma_12, sma_13, sma_14, sma_15, sma_16, sma_17, sma_18, sma_19, sma_20, sma_21, sma_22, sma_23, sma_24, sma_25, sma_26, sma_27, sma_28, sma_29, b5]
  refine ⟨by omega, by omega, ?_⟩
  rw [sX9_bits_4]
  simp only [sX9_bits_0, sX9_bits_1, sX9_bits_2, sX9_bits_3, sX9_bits_5, sX9_bits_7, sX9_bits_10, sX9_bits_11, sX9_bits_12, sX9_bits_13, sX9_bits_14, sX9_bits_15, sX9_bits_16, sX9_bits_17, sX9_bits_18, sX9_bits_21, sX9_bits_24, sX9_bits_25, onI_i, onR_r, onS_s, slotA_i, slotA_b, slotA_l, slotA_r, ptk_i, ptk_b, ptk_l, aldP_s, aldP_n, uc_s, uc_n, uc_uc, ua_s, ua_n, Nat.reduceEqDiff, not_false_eq_true, true_or, or_true, true_and, and_true, implies_true, Option.some.injEq, Sum.inl.injEq, Int.toNat_natCast, true_implies, not_true_eq_false, false_implies, Int.reduceEq, Int.reduceLT, Int.reduceLE, Int.reduceNeg, Int.reduceAdd, Int.reduceSub, Int.reduceMul, Int.reduceToNat, lg_0, lg_1, lg_2, lz_0, lz_1, lz_2, sms_0_0, sms_0_1, sms_0_2, sms_0_3, sms_0_4, sms_0_5, sms_0_6, sms_0_7, sms_0_8, sms_0_9, sms_0_10, sms_0_11, sms_0_12, sms_0_13, sms_0_14, sms_0_15, sms_0_16, sms_0_17, sms_0_18, sms_0_19, sms_0_20, sms_0_21, sms_0_22, sms_0_23, sms_0_24, sms_0_25, sms_0_26, sms_0_27, sms_0_28, sms_0_29, sms_0_30, sms_0_31, sms_0_32, sms_0_33, sms_0_34, sms_0_35, sms_0_36, sms_0_37, sma_1, sma_2, sma_3, sma_4, sma_5, sma_6, sma_7, sma_8, sma_9, sma_10, sma_11, sma_12, sma_13, sma_14, sma_15, sma_16, sma_17, sma_18, sma_19, sma_20, sma_21, sma_22, sma_23, sma_24, sma_25, sma_26, sma_27, sma_28, sma_29]
  unfold pop6
  exact ⟨by omega, by omega, by omega⟩
def hb (h : AH) (v : Int) : AH := updC h 0 (updA (h 0) 30 v)
theorem hb_8 (h : AH) (v : Int) : P8 (hb h v) h := ⟨fun j hj => by show updA (h 0) 30 v j = h 0 j; rw [ua_n (by omega)], fun k hk _ => by unfold hb; rw [uc_n (by omega)]⟩
theorem hb_put {x h : AH} {u v : Int} (e : P23 x (hb h u)) : P23 (updC x 0 (updA (x 0) 30 v)) (hb h v) := by
  intro k hk
  by_cases b : k = 0
  · subst b
    rw [uc_s, e 0 (by omega)]
    show updA (updA (h 0) 30 u) 30 v = updA (h 0) 30 v
    funext j
    by_cases ej : j = 30 <;> simp [updA, ej]
  · rw [uc_n b, e k hk]
    unfold hb
    rw [uc_n b, uc_n b]
theorem hb_0 {h : AH} (h30 : h 0 30 = 0) : hb h 0 = h := by
  unfold hb
  have : updA (h 0) 30 0 = h 0 := by
    funext j
    by_cases ej : j = 30
    · subst ej; rw [ua_s, h30]
    · rw [ua_n ej]
  rw [this]
  funext q
  by_cases b : q = 0 <;> simp [updC, b]
theorem p_burntByP {x h : AH} (e : P23 x h) (hg : gi h) {w : Nat} (hw : w < 4) {m : Int} (hm : inR m) : Ok SM mX9_burntBy [ar 0, ai w, ai m] x (fun r h2 => r = some (ai (bntG h (ctM h) w m)) ∧ P23 h2 h) := by
  have := p_burntBy (gi_c e hg) hw hm
  have e1 : bntG x (ctM x) w m = bntG h (ctM h) w m := by
    unfold bntG
    have ec : ctM x = ctM h := by
      funext t
      unfold ctM brd
      rw [e 0 (by omega), e 6 (by omega)]
    rw [fr_c e, nG_c e, ec]
  rw [e1] at this
  intro l D ad cA
  have t := this l D ad cA
  have eq : (fun (r : Option AV) h2 => r = some (ai (bntG h (ctM h) w m)) ∧ P23 h2 x) = (fun r h2 => r = some (ai (bntG h (ctM h) w m)) ∧ P23 h2 h) := by
    funext r h2
    apply propext
    exact ⟨fun q => ⟨q.1, fun k hk => (q.2 k hk).trans (e k hk)⟩, fun q => ⟨q.1, fun k hk => (q.2 k hk).trans (e k hk).symm⟩⟩
  rw [eq] at t
  exact t
theorem bnt_set {h : AH} (hg : gi h) {s : Nat} (w : Nat) (m : Int) : bntG (hb h (mkB h s (h 0 7).toNat).toInt) (ctM (hb h (mkB h s (h 0 7).toNat).toInt)) w m = bntG h (cutS h s) w m := by
  have hn := gi_n hg
  have g7 := hg.2.2.2.2.2.2.2.2.2.2.2.2.1
  have g8 := hg.2.2.2.2.2.2.2.2.2.2.2.2.2
  unfold bntG
  rw [fr_c8 (hb_8 h _), nG_c8 (hb_8 h _)]
  congr 1
  congr 1
  refine fr_ct hg (fun t ht => ?_) w
  unfold ctM brd cutS
  have e1 : hb h (mkB h s (h 0 7).toNat).toInt 0 30 = (mkB h s (h 0 7).toNat).toInt := rfl
  have e2 : hb h (mkB h s (h 0 7).toNat).toInt 6 = h 6 := rfl
  rw [e1, e2, Int64.ofInt_toInt]
  have b1 := brd_bit (mkB h s (h 0 7).toNat) (t := t) (by omega)
  have b2 := mk_bit h s (t := t) (by omega) (h 0 7).toNat (fun i hi => by have := (g8 i (by omega)).1; omega)
  rw [b2] at b1
  cases hq : inSet h s t (h 0 7).toNat with
  | true => rw [hq] at b1; rw [if_pos (b1.mpr rfl)]; rfl
  | false => rw [hq] at b1; rw [if_neg (fun z => by have := b1.mp z; cases this)]; rfl
theorem wmx_r (g : AH) (ct : Nat → Int) : ∀ k, 0 ≤ wmx g ct k ∧ wmx g ct k ≤ nG g
  | 0 => by simp [wmx]
  | k + 1 => by
    have := wmx_r g ct k
    have c := cntB_r (fr g ct k).1 5000 (nG g)
    unfold wmx bntG
    split <;> omega
theorem p_worst {h : AH} (hg : gi h) (h30 : h 0 30 = 0) {x0 : AH} (e0 : P23 x0 h) {s : Nat} (hs : s < 64) : Ok SM mX9_worst [ar 0, ai s] x0 (fun r h2 => r = some (ai (wrs h s)) ∧ P23 h2 h) := by
  have hn := gi_n hg
  have g1 := hg.2.2.1
  have g7 := hg.2.2.2.2.2.2.2.2.2.2.2.2.1
  have g8 := hg.2.2.2.2.2.2.2.2.2.2.2.2.2
  obtain ⟨n, hnn⟩ : ∃ z : Nat, h 0 7 = z := ⟨(h 0 7).toNat, by omega⟩
  obtain ⟨ws, hws⟩ : ∃ z : Nat, h 0 2 = z := ⟨(h 0 2).toNat, by omega⟩
  have en : (h 0 7).toNat = n := by omega
  have ew : (h 0 2).toNat = ws := by omega
  have l2 : ∀ (j k : Nat) (x : AH) (i v : Int) (v4 : AV), k + j = ws → i = k → v = wmx h (cutS h s) k → P23 x (hb h (mkB h s n).toInt) → SG SM mX9_worst (fun r h2 => r = some (ai (wrs h s)) ∧ P23 h2 h) 51 [ar 0, ai s, ai v, ai i, v4] [] x := by
    intro j
    induction j with
    | zero =>
      intro k x i v v4 hk hi hv hp
      have e : k = ws := by omega
      subst e; subst hi; subst hv
      have ex : x 0 2 = h 0 2 := by rw [hp 0 (by omega)]; exact (hb_8 h _).1 2 (by omega)
      rw [sX9_worst_51]
      simp only [sX9_worst_0, sX9_worst_1, sX9_worst_2, sX9_worst_5, sX9_worst_6, sX9_worst_7, sX9_worst_8, sX9_worst_9, sX9_worst_12, sX9_worst_15, sX9_worst_16, sX9_worst_17, sX9_worst_18, sX9_worst_19, sX9_worst_20, sX9_worst_21, sX9_worst_24, sX9_worst_25, sX9_worst_26, sX9_worst_29, sX9_worst_30, sX9_worst_31, sX9_worst_34, sX9_worst_35, sX9_worst_36, sX9_worst_37, sX9_worst_38, sX9_worst_41, sX9_worst_44, sX9_worst_47, sX9_worst_48, sX9_worst_49, sX9_worst_50, sX9_worst_52, sX9_worst_53, sX9_worst_56, sX9_worst_59, sX9_worst_60, sX9_worst_61, sX9_worst_67, sX9_worst_69, sX9_worst_71, sX9_worst_72, sX9_worst_75, sX9_worst_77, sX9_worst_80, sX9_worst_81, sX9_worst_82, sX9_worst_85, sX9_worst_88, sX9_worst_89, sX9_worst_90, sX9_worst_93, sX9_worst_94, onI_i, onR_r, onS_s, slotA_i, slotA_b, slotA_l, slotA_r, ptk_i, ptk_b, ptk_l, aldP_s, aldP_n, uc_s, uc_n, uc_uc, ua_s, ua_n, Nat.reduceEqDiff, not_false_eq_true, true_or, or_true, true_and, and_true, implies_true, Option.some.injEq, Sum.inl.injEq, Int.toNat_natCast, true_implies, not_true_eq_false, false_implies, Int.reduceEq, Int.reduceLT, Int.reduceLE, Int.reduceNeg, Int.reduceAdd, Int.reduceSub, Int.reduceMul, Int.reduceToNat, lg_0, lg_1, lg_2, lg_3, lg_4, lz_0, lz_1, lz_2, lz_3, lz_4, sms_0_0, sms_0_1, sms_0_2, sms_0_3, sms_0_4, sms_0_5, sms_0_6, sms_0_7, sms_0_8, sms_0_9, sms_0_10, sms_0_11, sms_0_12, sms_0_13, sms_0_14, sms_0_15, sms_0_16, sms_0_17, sms_0_18, sms_0_19, sms_0_20, sms_0_21, sms_0_22, sms_0_23, sms_0_24, sms_0_25, sms_0_26, sms_0_27, sms_0_28, sms_0_29, sms_0_30, sms_0_31, sms_0_32, sms_0_33, sms_0_34, sms_0_35, sms_0_36, sms_0_37, sma_1, sma_2, sma_3, sma_4, sma_5, sma_6, sma_7, sma_8, sma_9, sma_10, sma_11, sma_12, sma_13, sma_14, sma_15, sma_16, sma_17, sma_18, sma_19, sma_20, sma_21, sma_22, sma_23, sma_24, sma_25, sma_26, sma_27, sma_28, sma_29, ex]
      refine ⟨by omega, by omega, fun _ => ⟨?_, ?_⟩, fun q => absurd q (by omega)⟩
      · unfold wrs; rw [ew]
      · have := hb_put (v := (0 : Int64).toInt) hp
        rw [show (0 : Int64).toInt = 0 from by decide, hb_0 h30] at this
        exact this
    | succ j ih =>
      intro k x i v v4 hk hi hv hp
      subst hi
      have ex : x 0 2 = h 0 2 := by rw [hp 0 (by omega)]; exact (hb_8 h _).1 2 (by omega)
      have wr := wmx_r h (cutS h s) k
      rw [sX9_worst_51]
      simp only [sX9_worst_0, sX9_worst_1, sX9_worst_2, sX9_worst_5, sX9_worst_6, sX9_worst_7, sX9_worst_8, sX9_worst_9, sX9_worst_12, sX9_worst_15, sX9_worst_16, sX9_worst_17, sX9_worst_18, sX9_worst_19, sX9_worst_20, sX9_worst_21, sX9_worst_24, sX9_worst_25, sX9_worst_26, sX9_worst_29, sX9_worst_30, sX9_worst_31, sX9_worst_34, sX9_worst_35, sX9_worst_36, sX9_worst_37, sX9_worst_38, sX9_worst_41, sX9_worst_44, sX9_worst_47, sX9_worst_48, sX9_worst_49, sX9_worst_50, sX9_worst_52, sX9_worst_53, sX9_worst_56, sX9_worst_59, sX9_worst_60, sX9_worst_61, sX9_worst_67, sX9_worst_69, sX9_worst_71, sX9_worst_72, sX9_worst_75, sX9_worst_77, sX9_worst_80, sX9_worst_81, sX9_worst_82, sX9_worst_85, sX9_worst_88, sX9_worst_89, sX9_worst_90, sX9_worst_93, sX9_worst_94, onI_i, onR_r, onS_s, slotA_i, slotA_b, slotA_l, slotA_r, ptk_i, ptk_b, ptk_l, aldP_s, aldP_n, uc_s, uc_n, uc_uc, ua_s, ua_n, Nat.reduceEqDiff, not_false_eq_true, true_or, or_true, true_and, and_true, implies_true, Option.some.injEq, Sum.inl.injEq, Int.toNat_natCast, true_implies, not_true_eq_false, false_implies, Int.reduceEq, Int.reduceLT, Int.reduceLE, Int.reduceNeg, Int.reduceAdd, Int.reduceSub, Int.reduceMul, Int.reduceToNat, lg_0, lg_1, lg_2, lg_3, lg_4, lz_0, lz_1, lz_2, lz_3, lz_4, sms_0_0, sms_0_1, sms_0_2, sms_0_3, sms_0_4, sms_0_5, sms_0_6, sms_0_7, sms_0_8, sms_0_9, sms_0_10, sms_0_11, sms_0_12, sms_0_13, sms_0_14, sms_0_15, sms_0_16, sms_0_17, sms_0_18, sms_0_19, sms_0_20, sms_0_21, sms_0_22, sms_0_23, sms_0_24, sms_0_25, sms_0_26, sms_0_27, sms_0_28, sms_0_29, sms_0_30, sms_0_31, sms_0_32, sms_0_33, sms_0_34, sms_0_35, sms_0_36, sms_0_37, sma_1, sma_2, sma_3, sma_4, sma_5, sma_6, sma_7, sma_8, sma_9, sma_10, sma_11, sma_12, sma_13, sma_14, sma_15, sma_16, sma_17, sma_18, sma_19, sma_20, sma_21, sma_22, sma_23, sma_24, sma_25, sma_26, sma_27, sma_28, sma_29, ex]
      refine ⟨by omega, by omega, fun q => absurd q (by omega), fun _ => ?_⟩
      refine kX9_worst_64 (Nat.le_of_ble_eq_true rfl) rfl (p_burntByP hp (gi_c8 (hb_8 h _) hg) (show k < 4 by omega) (show inR 5000 by omega)) (fun r h' q => ?_)
      obtain ⟨rfl, q⟩ := q
      show SG SM mX9_worst _ 67 _ [_] h'
      have eb := bnt_set hg (s := s) k 5000
      rw [en] at eb
      rw [eb]
      have br := cntB_r (fr h (cutS h s) k).1 5000 (nG h)
      have br2 : 0 ≤ bntG h (cutS h s) k 5000 ∧ bntG h (cutS h s) k 5000 ≤ nG h := br
      simp only [sX9_worst_0, sX9_worst_1, sX9_worst_2, sX9_worst_5, sX9_worst_6, sX9_worst_7, sX9_worst_8, sX9_worst_9, sX9_worst_12, sX9_worst_15, sX9_worst_16, sX9_worst_17, sX9_worst_18, sX9_worst_19, sX9_worst_20, sX9_worst_21, sX9_worst_24, sX9_worst_25, sX9_worst_26, sX9_worst_29, sX9_worst_30, sX9_worst_31, sX9_worst_34, sX9_worst_35, sX9_worst_36, sX9_worst_37, sX9_worst_38, sX9_worst_41, sX9_worst_44, sX9_worst_47, sX9_worst_48, sX9_worst_49, sX9_worst_50, sX9_worst_52, sX9_worst_53, sX9_worst_56, sX9_worst_59, sX9_worst_60, sX9_worst_61, sX9_worst_67, sX9_worst_69, sX9_worst_71, sX9_worst_72, sX9_worst_75, sX9_worst_77, sX9_worst_80, sX9_worst_81, sX9_worst_82, sX9_worst_85, sX9_worst_88, sX9_worst_89, sX9_worst_90, sX9_worst_93, sX9_worst_94, onI_i, onR_r, onS_s, slotA_i, slotA_b, slotA_l, slotA_r, ptk_i, ptk_b, ptk_l, aldP_s, aldP_n, uc_s, uc_n, uc_uc, ua_s, ua_n, Nat.reduceEqDiff, not_false_eq_true, true_or, or_true, true_and, and_true, implies_true, Option.some.injEq, Sum.inl.injEq, Int.toNat_natCast, true_implies, not_true_eq_false, false_implies, Int.reduceEq, Int.reduceLT, Int.reduceLE, Int.reduceNeg, Int.reduceAdd, Int.reduceSub, Int.reduceMul, Int.reduceToNat, lg_0, lg_1, lg_2, lg_3, lg_4, lz_0, lz_1, lz_2, lz_3, lz_4, sms_0_0, sms_0_1, sms_0_2, sms_0_3, sms_0_4, sms_0_5, sms_0_6, sms_0_7, sms_0_8, sms_0_9, sms_0_10, sms_0_11, sms_0_12, sms_0_13, sms_0_14, sms_0_15, sms_0_16, sms_0_17, sms_0_18, sms_0_19, sms_0_20, sms_0_21, sms_0_22, sms_0_23, sms_0_24, sms_0_25, sms_0_26, sms_0_27, sms_0_28, sms_0_29, sms_0_30, sms_0_31, sms_0_32, sms_0_33, sms_0_34, sms_0_35, sms_0_36, sms_0_37, sma_1, sma_2, sma_3, sma_4, sma_5, sma_6, sma_7, sma_8, sma_9, sma_10, sma_11, sma_12, sma_13, sma_14, sma_15, sma_16, sma_17, sma_18, sma_19, sma_20, sma_21, sma_22, sma_23, sma_24, sma_25, sma_26, sma_27, sma_28, sma_29]
      refine ⟨by omega, by omega, fun q2 => ?_, fun q2 => ?_⟩
      · exact ih (k + 1) _ _ _ _ (by omega) rfl (by unfold wmx; rw [if_neg (by omega)]; exact hv) q
      · exact ih (k + 1) _ _ _ _ (by omega) rfl (by unfold wmx; rw [if_pos (by omega)]) q
  have l1 : ∀ (j k : Nat) (x : AH) (i : Int), k + j = n → i = k → P23 x (hb h (mkB h s k).toInt) → SG SM mX9_worst (fun r h2 => r = some (ai (wrs h s)) ∧ P23 h2 h) 7 [ar 0, ai s, ai i, au, au] [] x := by
    intro j
    induction j with
    | zero =>
      intro k x i hk hi hp
      have e : k = n := by omega
      subst e; subst hi
      have ex : x 0 7 = h 0 7 := by rw [hp 0 (by omega)]; exact (hb_8 h _).1 7 (by omega)
      rw [sX9_worst_7]
      simp only [sX9_worst_0, sX9_worst_1, sX9_worst_2, sX9_worst_5, sX9_worst_6, sX9_worst_8, sX9_worst_9, sX9_worst_12, sX9_worst_15, sX9_worst_16, sX9_worst_17, sX9_worst_18, sX9_worst_19, sX9_worst_20, sX9_worst_21, sX9_worst_24, sX9_worst_25, sX9_worst_26, sX9_worst_29, sX9_worst_30, sX9_worst_31, sX9_worst_34, sX9_worst_35, sX9_worst_36, sX9_worst_37, sX9_worst_38, sX9_worst_41, sX9_worst_44, sX9_worst_47, sX9_worst_48, sX9_worst_49, sX9_worst_50, sX9_worst_52, sX9_worst_53, sX9_worst_56, sX9_worst_59, sX9_worst_60, sX9_worst_61, sX9_worst_67, sX9_worst_69, sX9_worst_71, sX9_worst_72, sX9_worst_75, sX9_worst_77, sX9_worst_80, sX9_worst_81, sX9_worst_82, sX9_worst_85, sX9_worst_88, sX9_worst_89, sX9_worst_90, sX9_worst_93, sX9_worst_94, onI_i, onR_r, onS_s, slotA_i, slotA_b, slotA_l, slotA_r, ptk_i, ptk_b, ptk_l, aldP_s, aldP_n, uc_s, uc_n, uc_uc, ua_s, ua_n, Nat.reduceEqDiff, not_false_eq_true, true_or, or_true, true_and, and_true, implies_true, Option.some.injEq, Sum.inl.injEq, Int.toNat_natCast, true_implies, not_true_eq_false, false_implies, Int.reduceEq, Int.reduceLT, Int.reduceLE, Int.reduceNeg, Int.reduceAdd, Int.reduceSub, Int.reduceMul, Int.reduceToNat, lg_0, lg_1, lg_2, lg_3, lg_4, lz_0, lz_1, lz_2, lz_3, lz_4, sms_0_0, sms_0_1, sms_0_2, sms_0_3, sms_0_4, sms_0_5, sms_0_6, sms_0_7, sms_0_8, sms_0_9, sms_0_10, sms_0_11, sms_0_12, sms_0_13, sms_0_14, sms_0_15, sms_0_16, sms_0_17, sms_0_18, sms_0_19, sms_0_20, sms_0_21, sms_0_22, sms_0_23, sms_0_24, sms_0_25, sms_0_26, sms_0_27, sms_0_28, sms_0_29, sms_0_30, sms_0_31, sms_0_32, sms_0_33, sms_0_34, sms_0_35, sms_0_36, sms_0_37, sma_1, sma_2, sma_3, sma_4, sma_5, sma_6, sma_7, sma_8, sma_9, sma_10, sma_11, sma_12, sma_13, sma_14, sma_15, sma_16, sma_17, sma_18, sma_19, sma_20, sma_21, sma_22, sma_23, sma_24, sma_25, sma_26, sma_27, sma_28, sma_29, ex]
      exact ⟨by omega, by omega, fun _ => l2 ws 0 x 0 0 _ (by omega) rfl rfl hp, fun q => absurd q (by omega)⟩
    | succ j ih =>
      intro k x i hk hi hp
      subst hi
      have ex : x 0 7 = h 0 7 := by rw [hp 0 (by omega)]; exact (hb_8 h _).1 7 (by omega)
      have e30 : x 0 30 = (mkB h s k).toInt := by rw [hp 0 (by omega)]; rfl
      have e22 : x 22 = h 22 := by rw [hp 22 (by omega)]; rfl
      have be := bit_e (k := k) hs (by omega)
      have gk := (g8 k (by omega)).1
      have of64 : Int64.ofInt (mkB h s k).toInt = mkB h s k := Int64.ofInt_toInt _
      rw [sX9_worst_7]
      simp only [sX9_worst_0, sX9_worst_1, sX9_worst_2, sX9_worst_5, sX9_worst_6, sX9_worst_8, sX9_worst_9, sX9_worst_12, sX9_worst_15, sX9_worst_16, sX9_worst_17, sX9_worst_18, sX9_worst_19, sX9_worst_20, sX9_worst_21, sX9_worst_24, sX9_worst_25, sX9_worst_26, sX9_worst_29, sX9_worst_30, sX9_worst_31, sX9_worst_34, sX9_worst_35, sX9_worst_36, sX9_worst_37, sX9_worst_38, sX9_worst_41, sX9_worst_44, sX9_worst_47, sX9_worst_48, sX9_worst_49, sX9_worst_50, sX9_worst_52, sX9_worst_53, sX9_worst_56, sX9_worst_59, sX9_worst_60, sX9_worst_61, sX9_worst_67, sX9_worst_69, sX9_worst_71, sX9_worst_72, sX9_worst_75, sX9_worst_77, sX9_worst_80, sX9_worst_81, sX9_worst_82, sX9_worst_85, sX9_worst_88, sX9_worst_89, sX9_worst_90, sX9_worst_93, sX9_worst_94, onI_i, onR_r, onS_s, slotA_i, slotA_b, slotA_l, slotA_r, ptk_i, ptk_b, ptk_l, aldP_s, aldP_n, uc_s, uc_n, uc_uc, ua_s, ua_n, Nat.reduceEqDiff, not_false_eq_true, true_or, or_true, true_and, and_true, implies_true, Option.some.injEq, Sum.inl.injEq, Int.toNat_natCast, true_implies, not_true_eq_false, false_implies, Int.reduceEq, Int.reduceLT, Int.reduceLE, Int.reduceNeg, Int.reduceAdd, Int.reduceSub, Int.reduceMul, Int.reduceToNat, lg_0, lg_1, lg_2, lg_3, lg_4, lz_0, lz_1, lz_2, lz_3, lz_4, sms_0_0, sms_0_1, sms_0_2, sms_0_3, sms_0_4, sms_0_5, sms_0_6, sms_0_7, sms_0_8, sms_0_9, sms_0_10, sms_0_11, sms_0_12, sms_0_13, sms_0_14, sms_0_15, sms_0_16, sms_0_17, sms_0_18, sms_0_19, sms_0_20, sms_0_21, sms_0_22, sms_0_23, sms_0_24, sms_0_25, sms_0_26, sms_0_27, sms_0_28, sms_0_29, sms_0_30, sms_0_31, sms_0_32, sms_0_33, sms_0_34, sms_0_35, sms_0_36, sms_0_37, sma_1, sma_2, sma_3, sma_4, sma_5, sma_6, sma_7, sma_8, sma_9, sma_10, sma_11, sma_12, sma_13, sma_14, sma_15, sma_16, sma_17, sma_18, sma_19, sma_20, sma_21, sma_22, sma_23, sma_24, sma_25, sma_26, sma_27, sma_28, sma_29, ex, e30, e22, be, of64]
      have r01 := bitN_r s k
      refine ⟨by omega, by omega, fun q => absurd q (by omega), fun _ => ⟨by omega, by omega, fun q => ?_, fun q => ⟨by omega, ?_⟩⟩⟩
      · refine ih (k + 1) x _ (by omega) rfl ?_
        have tb : s.testBit k = false := by
          cases hb : s.testBit k with
          | false => rfl
          | true => unfold bitN at q; rw [hb] at q; exact absurd rfl q
        show P23 x (hb h (if s.testBit k then _ else mkB h s k).toInt)
        rw [tb]
        exact hp
      · have tb : s.testBit k = true := by
          cases hb : s.testBit k with
          | true => rfl
          | false => unfold bitN at q; rw [hb] at q; simp at q
        have := hb_put (v := (mkB h s k ||| (1 <<< ((Int32.ofInt (h 22 k)).toInt64 &&& 63))).toInt) hp
        refine ih (k + 1) _ _ (by omega) rfl ?_
        show P23 _ (hb h (if s.testBit k then (mkB h s k ||| (1 <<< ((Int32.ofInt (h 22 k)).toInt64 &&& 63))) else mkB h s k).toInt)
        rw [tb]
        exact this
  refine Ok_of SM_ok (by decide +kernel) rfl (Nat.le_of_ble_eq_true rfl) ?_
  show SG SM mX9_worst _ 0 [ar 0, ai s, au, au, au] [] _
  simp only [sX9_worst_0, sX9_worst_1, sX9_worst_2, sX9_worst_5, sX9_worst_6, sX9_worst_8, sX9_worst_9, sX9_worst_12, sX9_worst_15, sX9_worst_16, sX9_worst_17, sX9_worst_18, sX9_worst_19, sX9_worst_20, sX9_worst_21, sX9_worst_24, sX9_worst_25, sX9_worst_26, sX9_worst_29, sX9_worst_30, sX9_worst_31, sX9_worst_34, sX9_worst_35, sX9_worst_36, sX9_worst_37, sX9_worst_38, sX9_worst_41, sX9_worst_44, sX9_worst_47, sX9_worst_48, sX9_worst_49, sX9_worst_50, sX9_worst_51, sX9_worst_52, sX9_worst_53, sX9_worst_56, sX9_worst_59, sX9_worst_60, sX9_worst_61, sX9_worst_67, sX9_worst_69, sX9_worst_71, sX9_worst_72, sX9_worst_75, sX9_worst_77, sX9_worst_80, sX9_worst_81, sX9_worst_82, sX9_worst_85, sX9_worst_88, sX9_worst_89, sX9_worst_90, sX9_worst_93, sX9_worst_94, onI_i, onR_r, onS_s, slotA_i, slotA_b, slotA_l, slotA_r, ptk_i, ptk_b, ptk_l, aldP_s, aldP_n, uc_s, uc_n, uc_uc, ua_s, ua_n, Nat.reduceEqDiff, not_false_eq_true, true_or, or_true, true_and, and_true, implies_true, Option.some.injEq, Sum.inl.injEq, Int.toNat_natCast, true_implies, not_true_eq_false, false_implies, Int.reduceEq, Int.reduceLT, Int.reduceLE, Int.reduceNeg, Int.reduceAdd, Int.reduceSub, Int.reduceMul, Int.reduceToNat, lg_0, lg_1, lg_2, lg_3, lg_4, lz_0, lz_1, lz_2, lz_3, lz_4, sms_0_0, sms_0_1, sms_0_2, sms_0_3, sms_0_4, sms_0_5, sms_0_6, sms_0_7, sms_0_8, sms_0_9, sms_0_10, sms_0_11, sms_0_12, sms_0_13, sms_0_14, sms_0_15, sms_0_16, sms_0_17, sms_0_18, sms_0_19, sms_0_20, sms_0_21, sms_0_22, sms_0_23, sms_0_24, sms_0_25, sms_0_26, sms_0_27, sms_0_28, sms_0_29, sms_0_30, sms_0_31, sms_0_32, sms_0_33, sms_0_34, sms_0_35, sms_0_36, sms_0_37, sma_1, sma_2, sma_3, sma_4, sma_5, sma_6, sma_7, sma_8, sma_9, sma_10, sma_11, sma_12, sma_13, sma_14, sma_15, sma_16, sma_17, sma_18, sma_19, sma_20, sma_21, sma_22, sma_23, sma_24, sma_25, sma_26, sma_27, sma_28, sma_29]
  refine l1 n 0 _ 0 (by omega) rfl ?_
  have := hb_put (x := x0) (h := h) (u := 0) (v := (0 : Int64).toInt) (by rw [hb_0 h30]; exact e0)
  exact this
theorem pow_le {n : Nat} (h : n ≤ 6) : 2 ^ n ≤ 64 ∧ 1 ≤ 2 ^ n := ⟨Nat.pow_le_pow_right (n := 2) (by omega) h, Nat.one_le_two_pow⟩
theorem plB_r (g : AH) (k : Int) : ∀ i : Nat, (plB g k i).1 ≤ i ∧ 0 ≤ (plB g k i).2 ∧ (plB g k i).2 ≤ nG g
  | 0 => ⟨Nat.le_refl 0, wmx_r ..⟩
  | i + 1 => by
    have := plB_r g k i
    have w := wmx_r g (cutS g (i + 1)) (g 0 2).toNat
    unfold plB
    split
    · exact ⟨Nat.le_refl _, w⟩
    · exact ⟨by omega, this.2⟩
theorem p_plan {h : AH} (hg : gi h) (h30 : h 0 30 = 0) {k : Int} (hk : inR k) : Ok SM mX9_plan [ar 0, ai k] h (fun r h2 => r = some (ai (a_plan h k)) ∧ P23 h2 h ∧ h2 0 30 = h 0 30) := by
  have hn := gi_n hg
  have g7 := hg.2.2.2.2.2.2.2.2.2.2.2.2.1
  obtain ⟨n, hnn⟩ : ∃ z : Nat, h 0 7 = z := ⟨(h 0 7).toNat, by omega⟩
  have en : (h 0 7).toNat = n := by omega
  unfold a_plan
  refine Ok_of SM_ok (by decide +kernel) rfl (Nat.le_of_ble_eq_true rfl) ?_
  show SG SM mX9_plan _ 0 [ar 0, ai k, au, au, au, au] [] _
  simp only [sX9_plan_0, sX9_plan_1, sX9_plan_2, sX9_plan_7, sX9_plan_10, sX9_plan_11, sX9_plan_12, sX9_plan_13, sX9_plan_14, sX9_plan_15, sX9_plan_19, sX9_plan_20, sX9_plan_21, sX9_plan_23, sX9_plan_25, sX9_plan_26, sX9_plan_27, sX9_plan_30, sX9_plan_31, sX9_plan_34, sX9_plan_39, sX9_plan_40, sX9_plan_43, sX9_plan_46, sX9_plan_47, sX9_plan_52, sX9_plan_54, sX9_plan_56, sX9_plan_57, sX9_plan_60, sX9_plan_62, sX9_plan_63, sX9_plan_66, sX9_plan_71, sX9_plan_75, sX9_plan_78, sX9_plan_81, sX9_plan_83, sX9_plan_84, sX9_plan_86, sX9_plan_87, sX9_plan_90, sX9_plan_93, sX9_plan_94, onI_i, onR_r, onS_s, slotA_i, slotA_b, slotA_l, slotA_r, ptk_i, ptk_b, ptk_l, aldP_s, aldP_n, uc_s, uc_n, uc_uc, ua_s, ua_n, Nat.reduceEqDiff, not_false_eq_true, true_or, or_true, true_and, and_true, implies_true, Option.some.injEq, Sum.inl.injEq, Int.toNat_natCast, true_implies, not_true_eq_false, false_implies, Int.reduceEq, Int.reduceLT, Int.reduceLE, Int.reduceNeg, Int.reduceAdd, Int.reduceSub, Int.reduceMul, Int.reduceToNat, lg_0, lg_1, lg_2, lg_3, lg_4, lg_5, lz_0, lz_1, lz_2, lz_3, lz_4, lz_5, sms_0_0, sms_0_1, sms_0_2, sms_0_3, sms_0_4, sms_0_5, sms_0_6, sms_0_7, sms_0_8, sms_0_9, sms_0_10, sms_0_11, sms_0_12, sms_0_13, sms_0_14, sms_0_15, sms_0_16, sms_0_17, sms_0_18, sms_0_19, sms_0_20, sms_0_21, sms_0_22, sms_0_23, sms_0_24, sms_0_25, sms_0_26, sms_0_27, sms_0_28, sms_0_29, sms_0_30, sms_0_31, sms_0_32, sms_0_33, sms_0_34, sms_0_35, sms_0_36, sms_0_37, sma_1, sma_2, sma_3, sma_4, sma_5, sma_6, sma_7, sma_8, sma_9, sma_10, sma_11, sma_12, sma_13, sma_14, sma_15, sma_16, sma_17, sma_18, sma_19, sma_20, sma_21, sma_22, sma_23, sma_24, sma_25, sma_26, sma_27, sma_28, sma_29]
  by_cases c1 : 0 ≤ k ∧ k ≤ 6
  · refine vX9_plan_4 (Nat.le_of_ble_eq_true rfl) (p_iT hk (by omega) (by omega) c1) ?_
    simp only [sX9_plan_0, sX9_plan_1, sX9_plan_2, sX9_plan_7, sX9_plan_10, sX9_plan_11, sX9_plan_12, sX9_plan_13, sX9_plan_14, sX9_plan_15, sX9_plan_19, sX9_plan_20, sX9_plan_21, sX9_plan_23, sX9_plan_25, sX9_plan_26, sX9_plan_27, sX9_plan_30, sX9_plan_31, sX9_plan_34, sX9_plan_39, sX9_plan_40, sX9_plan_43, sX9_plan_46, sX9_plan_47, sX9_plan_52, sX9_plan_54, sX9_plan_56, sX9_plan_57, sX9_plan_60, sX9_plan_62, sX9_plan_63, sX9_plan_66, sX9_plan_71, sX9_plan_75, sX9_plan_78, sX9_plan_81, sX9_plan_83, sX9_plan_84, sX9_plan_86, sX9_plan_87, sX9_plan_90, sX9_plan_93, sX9_plan_94, onI_i, onR_r, onS_s, slotA_i, slotA_b, slotA_l, slotA_r, ptk_i, ptk_b, ptk_l, aldP_s, aldP_n, uc_s, uc_n, uc_uc, ua_s, ua_n, Nat.reduceEqDiff, not_false_eq_true, true_or, or_true, true_and, and_true, implies_true, Option.some.injEq, Sum.inl.injEq, Int.toNat_natCast, true_implies, not_true_eq_false, false_implies, Int.reduceEq, Int.reduceLT, Int.reduceLE, Int.reduceNeg, Int.reduceAdd, Int.reduceSub, Int.reduceMul, Int.reduceToNat, lg_0, lg_1, lg_2, lg_3, lg_4, lg_5, lz_0, lz_1, lz_2, lz_3, lz_4, lz_5, sms_0_0, sms_0_1, sms_0_2, sms_0_3, sms_0_4, sms_0_5, sms_0_6, sms_0_7, sms_0_8, sms_0_9, sms_0_10, sms_0_11, sms_0_12, sms_0_13, sms_0_14, sms_0_15, sms_0_16, sms_0_17, sms_0_18, sms_0_19, sms_0_20, sms_0_21, sms_0_22, sms_0_23, sms_0_24, sms_0_25, sms_0_26, sms_0_27, sms_0_28, sms_0_29, sms_0_30, sms_0_31, sms_0_32, sms_0_33, sms_0_34, sms_0_35, sms_0_36, sms_0_37, sma_1, sma_2, sma_3, sma_4, sma_5, sma_6, sma_7, sma_8, sma_9, sma_10, sma_11, sma_12, sma_13, sma_14, sma_15, sma_16, sma_17, sma_18, sma_19, sma_20, sma_21, sma_22, sma_23, sma_24, sma_25, sma_26, sma_27, sma_28, sma_29]
    refine ⟨by omega, ?_⟩
    rw [if_pos c1, en]
    refine kX9_plan_16 (Nat.le_of_ble_eq_true rfl) rfl (p_worst hg h30 (P23_rf h) (show 0 < 64 by omega)) (fun r h' q => ?_)
    obtain ⟨rfl, q⟩ := q
    show SG SM mX9_plan _ 19 _ [_] h'
    have pw := pow_le (n := n) (by omega)
    have se := shl_i ⟨n, by omega⟩
    dsimp only at se
    have lp : ∀ (j i : Nat) (x : AH) (v b w : Int) (v5 : AV), i + 1 + j = 2 ^ n → v = i + 1 → b = (plB h k i).1 → w = (plB h k i).2 → P23 x h → SG SM mX9_plan (fun r h2 => r = some (ai ((plB h k (2 ^ n - 1)).1 : Int)) ∧ P23 h2 h ∧ h2 0 30 = h 0 30) 23 [ar 0, ai k, ai b, ai w, ai v, v5] [] x := by
      intro j
      induction j with
      | zero =>
        intro i x v b w v5 hi hv hb hw hp
        have e0 : x 0 = h 0 := hp 0 (by omega)
        rw [sX9_plan_23]
        simp only [sX9_plan_0, sX9_plan_1, sX9_plan_2, sX9_plan_7, sX9_plan_10, sX9_plan_11, sX9_plan_12, sX9_plan_13, sX9_plan_14, sX9_plan_15, sX9_plan_19, sX9_plan_20, sX9_plan_21, sX9_plan_25, sX9_plan_26, sX9_plan_27, sX9_plan_30, sX9_plan_31, sX9_plan_34, sX9_plan_39, sX9_plan_40, sX9_plan_43, sX9_plan_46, sX9_plan_47, sX9_plan_52, sX9_plan_54, sX9_plan_56, sX9_plan_57, sX9_plan_60, sX9_plan_62, sX9_plan_63, sX9_plan_66, sX9_plan_71, sX9_plan_75, sX9_plan_78, sX9_plan_81, sX9_plan_83, sX9_plan_84, sX9_plan_86, sX9_plan_87, sX9_plan_90, sX9_plan_93, sX9_plan_94, onI_i, onR_r, onS_s, slotA_i, slotA_b, slotA_l, slotA_r, ptk_i, ptk_b, ptk_l, aldP_s, aldP_n, uc_s, uc_n, uc_uc, ua_s, ua_n, Nat.reduceEqDiff, not_false_eq_true, true_or, or_true, true_and, and_true, implies_true, Option.some.injEq, Sum.inl.injEq, Int.toNat_natCast, true_implies, not_true_eq_false, false_implies, Int.reduceEq, Int.reduceLT, Int.reduceLE, Int.reduceNeg, Int.reduceAdd, Int.reduceSub, Int.reduceMul, Int.reduceToNat, lg_0, lg_1, lg_2, lg_3, lg_4, lg_5, lz_0, lz_1, lz_2, lz_3, lz_4, lz_5, sms_0_0, sms_0_1, sms_0_2, sms_0_3, sms_0_4, sms_0_5, sms_0_6, sms_0_7, sms_0_8, sms_0_9, sms_0_10, sms_0_11, sms_0_12, sms_0_13, sms_0_14, sms_0_15, sms_0_16, sms_0_17, sms_0_18, sms_0_19, sms_0_20, sms_0_21, sms_0_22, sms_0_23, sms_0_24, sms_0_25, sms_0_26, sms_0_27, sms_0_28, sms_0_29, sms_0_30, sms_0_31, sms_0_32, sms_0_33, sms_0_34, sms_0_35, sms_0_36, sms_0_37, sma_1, sma_2, sma_3, sma_4, sma_5, sma_6, sma_7, sma_8, sma_9, sma_10, sma_11, sma_12, sma_13, sma_14, sma_15, sma_16, sma_17, sma_18, sma_19, sma_20, sma_21, sma_22, sma_23, sma_24, sma_25, sma_26, sma_27, sma_28, sma_29, e0, hnn, se]
        have e1 : 2 ^ n - 1 = i := by omega
        rw [e1, hb]
        exact ⟨by omega, by omega, fun _ => ⟨rfl, hp⟩, fun z => absurd z (by omega)⟩
      | succ j ih =>
        intro i x v b w v5 hi hv hb hw hp
        have e0 : x 0 = h 0 := hp 0 (by omega)
        have pr := plB_r h k i
        have hv2 : v = ((i + 1 : Nat) : Int) := by omega
        subst hv2
        rw [sX9_plan_23]
        simp only [sX9_plan_0, sX9_plan_1, sX9_plan_2, sX9_plan_7, sX9_plan_10, sX9_plan_11, sX9_plan_12, sX9_plan_13, sX9_plan_14, sX9_plan_15, sX9_plan_19, sX9_plan_20, sX9_plan_21, sX9_plan_25, sX9_plan_26, sX9_plan_27, sX9_plan_30, sX9_plan_31, sX9_plan_34, sX9_plan_39, sX9_plan_40, sX9_plan_43, sX9_plan_46, sX9_plan_47, sX9_plan_52, sX9_plan_54, sX9_plan_56, sX9_plan_57, sX9_plan_60, sX9_plan_62, sX9_plan_63, sX9_plan_66, sX9_plan_71, sX9_plan_75, sX9_plan_78, sX9_plan_81, sX9_plan_83, sX9_plan_84, sX9_plan_86, sX9_plan_87, sX9_plan_90, sX9_plan_93, sX9_plan_94, onI_i, onR_r, onS_s, slotA_i, slotA_b, slotA_l, slotA_r, ptk_i, ptk_b, ptk_l, aldP_s, aldP_n, uc_s, uc_n, uc_uc, ua_s, ua_n, Nat.reduceEqDiff, not_false_eq_true, true_or, or_true, true_and, and_true, implies_true, Option.some.injEq, Sum.inl.injEq, Int.toNat_natCast, true_implies, not_true_eq_false, false_implies, Int.reduceEq, Int.reduceLT, Int.reduceLE, Int.reduceNeg, Int.reduceAdd, Int.reduceSub, Int.reduceMul, Int.reduceToNat, lg_0, lg_1, lg_2, lg_3, lg_4, lg_5, lz_0, lz_1, lz_2, lz_3, lz_4, lz_5, sms_0_0, sms_0_1, sms_0_2, sms_0_3, sms_0_4, sms_0_5, sms_0_6, sms_0_7, sms_0_8, sms_0_9, sms_0_10, sms_0_11, sms_0_12, sms_0_13, sms_0_14, sms_0_15, sms_0_16, sms_0_17, sms_0_18, sms_0_19, sms_0_20, sms_0_21, sms_0_22, sms_0_23, sms_0_24, sms_0_25, sms_0_26, sms_0_27, sms_0_28, sms_0_29, sms_0_30, sms_0_31, sms_0_32, sms_0_33, sms_0_34, sms_0_35, sms_0_36, sms_0_37, sma_1, sma_2, sma_3, sma_4, sma_5, sma_6, sma_7, sma_8, sma_9, sma_10, sma_11, sma_12, sma_13, sma_14, sma_15, sma_16, sma_17, sma_18, sma_19, sma_20, sma_21, sma_22, sma_23, sma_24, sma_25, sma_26, sma_27, sma_28, sma_29, e0, hnn, se]
        refine ⟨by omega, by omega, fun z => absurd z (by omega), fun _ => ?_⟩
        refine vX9_plan_36 (Nat.le_of_ble_eq_true rfl) (p_bits (show i + 1 < 64 by omega)) ?_
        have p1 := pop6_r (i + 1)
        simp only [sX9_plan_0, sX9_plan_1, sX9_plan_2, sX9_plan_7, sX9_plan_10, sX9_plan_11, sX9_plan_12, sX9_plan_13, sX9_plan_14, sX9_plan_15, sX9_plan_19, sX9_plan_20, sX9_plan_21, sX9_plan_25, sX9_plan_26, sX9_plan_27, sX9_plan_30, sX9_plan_31, sX9_plan_34, sX9_plan_39, sX9_plan_40, sX9_plan_43, sX9_plan_46, sX9_plan_47, sX9_plan_52, sX9_plan_54, sX9_plan_56, sX9_plan_57, sX9_plan_60, sX9_plan_62, sX9_plan_63, sX9_plan_66, sX9_plan_71, sX9_plan_75, sX9_plan_78, sX9_plan_81, sX9_plan_83, sX9_plan_84, sX9_plan_86, sX9_plan_87, sX9_plan_90, sX9_plan_93, sX9_plan_94, onI_i, onR_r, onS_s, slotA_i, slotA_b, slotA_l, slotA_r, ptk_i, ptk_b, ptk_l, aldP_s, aldP_n, uc_s, uc_n, uc_uc, ua_s, ua_n, Nat.reduceEqDiff, not_false_eq_true, true_or, or_true, true_and, and_true, implies_true, Option.some.injEq, Sum.inl.injEq, Int.toNat_natCast, true_implies, not_true_eq_false, false_implies, Int.reduceEq, Int.reduceLT, Int.reduceLE, Int.reduceNeg, Int.reduceAdd, Int.reduceSub, Int.reduceMul, Int.reduceToNat, lg_0, lg_1, lg_2, lg_3, lg_4, lg_5, lz_0, lz_1, lz_2, lz_3, lz_4, lz_5, sms_0_0, sms_0_1, sms_0_2, sms_0_3, sms_0_4, sms_0_5, sms_0_6, sms_0_7, sms_0_8, sms_0_9, sms_0_10, sms_0_11, sms_0_12, sms_0_13, sms_0_14, sms_0_15, sms_0_16, sms_0_17, sms_0_18, sms_0_19, sms_0_20, sms_0_21, sms_0_22, sms_0_23, sms_0_24, sms_0_25, sms_0_26, sms_0_27, sms_0_28, sms_0_29, sms_0_30, sms_0_31, sms_0_32, sms_0_33, sms_0_34, sms_0_35, sms_0_36, sms_0_37, sma_1, sma_2, sma_3, sma_4, sma_5, sma_6, sma_7, sma_8, sma_9, sma_10, sma_11, sma_12, sma_13, sma_14, sma_15, sma_16, sma_17, sma_18, sma_19, sma_20, sma_21, sma_22, sma_23, sma_24, sma_25, sma_26, sma_27, sma_28, sma_29]
        refine ⟨by omega, by omega, fun z1 => ?_, fun z1 => ?_⟩
        · refine kX9_plan_49 (Nat.le_of_ble_eq_true rfl) rfl (p_worst hg h30 hp (show i + 1 < 64 by omega)) (fun r h' q => ?_)
          obtain ⟨rfl, q⟩ := q
          show SG SM mX9_plan _ 52 _ [_] h'
          have wr := wmx_r h (cutS h (i + 1)) (h 0 2).toNat
          have wr2 : 0 ≤ wrs h (i + 1) ∧ wrs h (i + 1) ≤ nG h := wr
          have nx := fun (b w : Int) (hb : b = (plB h k (i + 1)).1) (hw : w = (plB h k (i + 1)).2) => ih (i + 1) h' (((i + 1 : Nat) : Int) + 1) b w (ai (wrs h (i + 1))) (by omega) (by omega) hb hw q
          have pe : plB h k (i + 1) = if pop6 (i + 1) ≤ k ∧ (wrs h (i + 1) < (plB h k i).2 ∨ (wrs h (i + 1) = (plB h k i).2 ∧ pop6 (i + 1) < pop6 (plB h k i).1)) then (i + 1, wrs h (i + 1)) else plB h k i := rfl
          rw [pe] at nx
          simp only [sX9_plan_0, sX9_plan_1, sX9_plan_2, sX9_plan_7, sX9_plan_10, sX9_plan_11, sX9_plan_12, sX9_plan_13, sX9_plan_14, sX9_plan_15, sX9_plan_19, sX9_plan_20, sX9_plan_21, sX9_plan_25, sX9_plan_26, sX9_plan_27, sX9_plan_30, sX9_plan_31, sX9_plan_34, sX9_plan_39, sX9_plan_40, sX9_plan_43, sX9_plan_46, sX9_plan_47, sX9_plan_52, sX9_plan_54, sX9_plan_56, sX9_plan_57, sX9_plan_60, sX9_plan_62, sX9_plan_63, sX9_plan_66, sX9_plan_71, sX9_plan_75, sX9_plan_78, sX9_plan_81, sX9_plan_83, sX9_plan_84, sX9_plan_86, sX9_plan_87, sX9_plan_90, sX9_plan_93, sX9_plan_94, onI_i, onR_r, onS_s, slotA_i, slotA_b, slotA_l, slotA_r, ptk_i, ptk_b, ptk_l, aldP_s, aldP_n, uc_s, uc_n, uc_uc, ua_s, ua_n, Nat.reduceEqDiff, not_false_eq_true, true_or, or_true, true_and, and_true, implies_true, Option.some.injEq, Sum.inl.injEq, Int.toNat_natCast, true_implies, not_true_eq_false, false_implies, Int.reduceEq, Int.reduceLT, Int.reduceLE, Int.reduceNeg, Int.reduceAdd, Int.reduceSub, Int.reduceMul, Int.reduceToNat, lg_0, lg_1, lg_2, lg_3, lg_4, lg_5, lz_0, lz_1, lz_2, lz_3, lz_4, lz_5, sms_0_0, sms_0_1, sms_0_2, sms_0_3, sms_0_4, sms_0_5, sms_0_6, sms_0_7, sms_0_8, sms_0_9, sms_0_10, sms_0_11, sms_0_12, sms_0_13, sms_0_14, sms_0_15, sms_0_16, sms_0_17, sms_0_18, sms_0_19, sms_0_20, sms_0_21, sms_0_22, sms_0_23, sms_0_24, sms_0_25, sms_0_26, sms_0_27, sms_0_28, sms_0_29, sms_0_30, sms_0_31, sms_0_32, sms_0_33, sms_0_34, sms_0_35, sms_0_36, sms_0_37, sma_1, sma_2, sma_3, sma_4, sma_5, sma_6, sma_7, sma_8, sma_9, sma_10, sma_11, sma_12, sma_13, sma_14, sma_15, sma_16, sma_17, sma_18, sma_19, sma_20, sma_21, sma_22, sma_23, sma_24, sma_25, sma_26, sma_27, sma_28, sma_29]
          refine ⟨by omega, by omega, fun z2 => ?_, fun z2 => ⟨by omega, by omega, fun z3 => ?_, fun z3 => ?_⟩⟩
          · rw [if_neg (by omega)] at nx; exact nx _ _ hb hw
          · rw [if_pos ⟨z1, Or.inl (by omega)⟩] at nx; exact nx _ _ rfl rfl
          · refine vX9_plan_68 (Nat.le_of_ble_eq_true rfl) (p_bits (show i + 1 < 64 by omega)) ?_
            simp only [sX9_plan_0, sX9_plan_1, sX9_plan_2, sX9_plan_7, sX9_plan_10, sX9_plan_11, sX9_plan_12, sX9_plan_13, sX9_plan_14, sX9_plan_15, sX9_plan_19, sX9_plan_20, sX9_plan_21, sX9_plan_25, sX9_plan_26, sX9_plan_27, sX9_plan_30, sX9_plan_31, sX9_plan_34, sX9_plan_39, sX9_plan_40, sX9_plan_43, sX9_plan_46, sX9_plan_47, sX9_plan_52, sX9_plan_54, sX9_plan_56, sX9_plan_57, sX9_plan_60, sX9_plan_62, sX9_plan_63, sX9_plan_66, sX9_plan_71, sX9_plan_75, sX9_plan_78, sX9_plan_81, sX9_plan_83, sX9_plan_84, sX9_plan_86, sX9_plan_87, sX9_plan_90, sX9_plan_93, sX9_plan_94, onI_i, onR_r, onS_s, slotA_i, slotA_b, slotA_l, slotA_r, ptk_i, ptk_b, ptk_l, aldP_s, aldP_n, uc_s, uc_n, uc_uc, ua_s, ua_n, Nat.reduceEqDiff, not_false_eq_true, true_or, or_true, true_and, and_true, implies_true, Option.some.injEq, Sum.inl.injEq, Int.toNat_natCast, true_implies, not_true_eq_false, false_implies, Int.reduceEq, Int.reduceLT, Int.reduceLE, Int.reduceNeg, Int.reduceAdd, Int.reduceSub, Int.reduceMul, Int.reduceToNat, lg_0, lg_1, lg_2, lg_3, lg_4, lg_5, lz_0, lz_1, lz_2, lz_3, lz_4, lz_5, sms_0_0, sms_0_1, sms_0_2, sms_0_3, sms_0_4, sms_0_5, sms_0_6, sms_0_7, sms_0_8, sms_0_9, sms_0_10, sms_0_11, sms_0_12, sms_0_13, sms_0_14, sms_0_15, sms_0_16, sms_0_17, sms_0_18, sms_0_19, sms_0_20, sms_0_21, sms_0_22, sms_0_23, sms_0_24, sms_0_25, sms_0_26, sms_0_27, sms_0_28, sms_0_29, sms_0_30, sms_0_31, sms_0_32, sms_0_33, sms_0_34, sms_0_35, sms_0_36, sms_0_37, sma_1, sma_2, sma_3, sma_4, sma_5, sma_6, sma_7, sma_8, sma_9, sma_10, sma_11, sma_12, sma_13, sma_14, sma_15, sma_16, sma_17, sma_18, sma_19, sma_20, sma_21, sma_22, sma_23, sma_24, sma_25, sma_26, sma_27, sma_28, sma_29]
            rw [hb]
            refine vX9_plan_72 (Nat.le_of_ble_eq_true rfl) (p_bits (show (plB h k i).1 < 64 by omega)) ?_
            have p2 := pop6_r (plB h k i).1
            simp only [sX9_plan_0, sX9_plan_1, sX9_plan_2, sX9_plan_7, sX9_plan_10, sX9_plan_11, sX9_plan_12, sX9_plan_13, sX9_plan_14, sX9_plan_15, sX9_plan_19, sX9_plan_20, sX9_plan_21, sX9_plan_25, sX9_plan_26, sX9_plan_27, sX9_plan_30, sX9_plan_31, sX9_plan_34, sX9_plan_39, sX9_plan_40, sX9_plan_43, sX9_plan_46, sX9_plan_47, sX9_plan_52, sX9_plan_54, sX9_plan_56, sX9_plan_57, sX9_plan_60, sX9_plan_62, sX9_plan_63, sX9_plan_66, sX9_plan_71, sX9_plan_75, sX9_plan_78, sX9_plan_81, sX9_plan_83, sX9_plan_84, sX9_plan_86, sX9_plan_87, sX9_plan_90, sX9_plan_93, sX9_plan_94, onI_i, onR_r, onS_s, slotA_i, slotA_b, slotA_l, slotA_r, ptk_i, ptk_b, ptk_l, aldP_s, aldP_n, uc_s, uc_n, uc_uc, ua_s, ua_n, Nat.reduceEqDiff, not_false_eq_true, true_or, or_true, true_and, and_true, implies_true, Option.some.injEq, Sum.inl.injEq, Int.toNat_natCast, true_implies, not_true_eq_false, false_implies, Int.reduceEq, Int.reduceLT, Int.reduceLE, Int.reduceNeg, Int.reduceAdd, Int.reduceSub, Int.reduceMul, Int.reduceToNat, lg_0, lg_1, lg_2, lg_3, lg_4, lg_5, lz_0, lz_1, lz_2, lz_3, lz_4, lz_5, sms_0_0, sms_0_1, sms_0_2, sms_0_3, sms_0_4, sms_0_5, sms_0_6, sms_0_7, sms_0_8, sms_0_9, sms_0_10, sms_0_11, sms_0_12, sms_0_13, sms_0_14, sms_0_15, sms_0_16, sms_0_17, sms_0_18, sms_0_19, sms_0_20, sms_0_21, sms_0_22, sms_0_23, sms_0_24, sms_0_25, sms_0_26, sms_0_27, sms_0_28, sms_0_29, sms_0_30, sms_0_31, sms_0_32, sms_0_33, sms_0_34, sms_0_35, sms_0_36, sms_0_37, sma_1, sma_2, sma_3, sma_4, sma_5, sma_6, sma_7, sma_8, sma_9, sma_10, sma_11, sma_12, sma_13, sma_14, sma_15, sma_16, sma_17, sma_18, sma_19, sma_20, sma_21, sma_22, sma_23, sma_24, sma_25, sma_26, sma_27, sma_28, sma_29]
            refine ⟨by omega, by omega, fun z4 => ?_, fun z4 => ?_⟩
            · rw [if_pos ⟨z1, Or.inr ⟨by omega, z4⟩⟩] at nx; exact nx _ _ rfl rfl
            · rw [if_neg (fun z => by omega)] at nx; exact nx _ _ rfl hw
        · exact ih (i + 1) x _ _ _ _ (by omega) (by omega) (by unfold plB; rw [if_neg (fun z => by omega)]; exact hb) (by unfold plB; rw [if_neg (fun z => by omega)]; exact hw) hp
    simp only [sX9_plan_0, sX9_plan_1, sX9_plan_2, sX9_plan_7, sX9_plan_10, sX9_plan_11, sX9_plan_12, sX9_plan_13, sX9_plan_14, sX9_plan_15, sX9_plan_19, sX9_plan_20, sX9_plan_21, sX9_plan_25, sX9_plan_26, sX9_plan_27, sX9_plan_30, sX9_plan_31, sX9_plan_34, sX9_plan_39, sX9_plan_40, sX9_plan_43, sX9_plan_46, sX9_plan_47, sX9_plan_52, sX9_plan_54, sX9_plan_56, sX9_plan_57, sX9_plan_60, sX9_plan_62, sX9_plan_63, sX9_plan_66, sX9_plan_71, sX9_plan_75, sX9_plan_78, sX9_plan_81, sX9_plan_83, sX9_plan_84, sX9_plan_86, sX9_plan_87, sX9_plan_90, sX9_plan_93, sX9_plan_94, onI_i, onR_r, onS_s, slotA_i, slotA_b, slotA_l, slotA_r, ptk_i, ptk_b, ptk_l, aldP_s, aldP_n, uc_s, uc_n, uc_uc, ua_s, ua_n, Nat.reduceEqDiff, not_false_eq_true, true_or, or_true, true_and, and_true, implies_true, Option.some.injEq, Sum.inl.injEq, Int.toNat_natCast, true_implies, not_true_eq_false, false_implies, Int.reduceEq, Int.reduceLT, Int.reduceLE, Int.reduceNeg, Int.reduceAdd, Int.reduceSub, Int.reduceMul, Int.reduceToNat, lg_0, lg_1, lg_2, lg_3, lg_4, lg_5, lz_0, lz_1, lz_2, lz_3, lz_4, lz_5, sms_0_0, sms_0_1, sms_0_2, sms_0_3, sms_0_4, sms_0_5, sms_0_6, sms_0_7, sms_0_8, sms_0_9, sms_0_10, sms_0_11, sms_0_12, sms_0_13, sms_0_14, sms_0_15, sms_0_16, sms_0_17, sms_0_18, sms_0_19, sms_0_20, sms_0_21, sms_0_22, sms_0_23, sms_0_24, sms_0_25, sms_0_26, sms_0_27, sms_0_28, sms_0_29, sms_0_30, sms_0_31, sms_0_32, sms_0_33, sms_0_34, sms_0_35, sms_0_36, sms_0_37, sma_1, sma_2, sma_3, sma_4, sma_5, sma_6, sma_7, sma_8, sma_9, sma_10, sma_11, sma_12, sma_13, sma_14, sma_15, sma_16, sma_17, sma_18, sma_19, sma_20, sma_21, sma_22, sma_23, sma_24, sma_25, sma_26, sma_27, sma_28, sma_29]
    exact lp (2 ^ n - 1) 0 h' 1 0 _ _ (by omega) rfl rfl rfl q
  · refine vX9_plan_4 (Nat.le_of_ble_eq_true rfl) (p_iF hk (by omega) (by omega) c1) ?_
    simp only [sX9_plan_0, sX9_plan_1, sX9_plan_2, sX9_plan_7, sX9_plan_10, sX9_plan_11, sX9_plan_12, sX9_plan_13, sX9_plan_14, sX9_plan_15, sX9_plan_19, sX9_plan_20, sX9_plan_21, sX9_plan_23, sX9_plan_25, sX9_plan_26, sX9_plan_27, sX9_plan_30, sX9_plan_31, sX9_plan_34, sX9_plan_39, sX9_plan_40, sX9_plan_43, sX9_plan_46, sX9_plan_47, sX9_plan_52, sX9_plan_54, sX9_plan_56, sX9_plan_57, sX9_plan_60, sX9_plan_62, sX9_plan_63, sX9_plan_66, sX9_plan_71, sX9_plan_75, sX9_plan_78, sX9_plan_81, sX9_plan_83, sX9_plan_84, sX9_plan_86, sX9_plan_87, sX9_plan_90, sX9_plan_93, sX9_plan_94, onI_i, onR_r, onS_s, slotA_i, slotA_b, slotA_l, slotA_r, ptk_i, ptk_b, ptk_l, aldP_s, aldP_n, uc_s, uc_n, uc_uc, ua_s, ua_n, Nat.reduceEqDiff, not_false_eq_true, true_or, or_true, true_and, and_true, implies_true, Option.some.injEq, Sum.inl.injEq, Int.toNat_natCast, true_implies, not_true_eq_false, false_implies, Int.reduceEq, Int.reduceLT, Int.reduceLE, Int.reduceNeg, Int.reduceAdd, Int.reduceSub, Int.reduceMul, Int.reduceToNat, lg_0, lg_1, lg_2, lg_3, lg_4, lg_5, lz_0, lz_1, lz_2, lz_3, lz_4, lz_5, sms_0_0, sms_0_1, sms_0_2, sms_0_3, sms_0_4, sms_0_5, sms_0_6, sms_0_7, sms_0_8, sms_0_9, sms_0_10, sms_0_11, sms_0_12, sms_0_13, sms_0_14, sms_0_15, sms_0_16, sms_0_17, sms_0_18, sms_0_19, sms_0_20, sms_0_21, sms_0_22, sms_0_23, sms_0_24, sms_0_25, sms_0_26, sms_0_27, sms_0_28, sms_0_29, sms_0_30, sms_0_31, sms_0_32, sms_0_33, sms_0_34, sms_0_35, sms_0_36, sms_0_37, sma_1, sma_2, sma_3, sma_4, sma_5, sma_6, sma_7, sma_8, sma_9, sma_10, sma_11, sma_12, sma_13, sma_14, sma_15, sma_16, sma_17, sma_18, sma_19, sma_20, sma_21, sma_22, sma_23, sma_24, sma_25, sma_26, sma_27, sma_28, sma_29]
    rw [if_neg c1]
    exact ⟨by omega, rfl, P23_rf _⟩
