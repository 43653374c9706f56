/-! the class's plan -/
theorem inMay_s {g : AH} {c : Int} : ∀ k : Nat, inMay g c k = true ↔ ∃ j, j < k ∧ g 22 j = c
  | 0 => by simp [inMay]
  | k + 1 => by
    have ih := inMay_s (g := g) (c := c) k
    unfold inMay
    rw [Bool.or_eq_true, ih, decide_eq_true_eq]
    constructor
    · rintro (⟨j, h1, h2⟩ | h)
      · exact ⟨j, by omega, h2⟩
      · exact ⟨k, by omega, h⟩
    · rintro ⟨j, h1, h2⟩
      by_cases e : j = k
      · subst e; exact Or.inr h2
      · exact Or.inl ⟨j, by omega, h2⟩
theorem o_may6 {x : AH} (hn : x 8 0 = 6) {c : Int} : Ok SC mX4_append [ar 8, ai c] x (fun r h2 => r = some (ai 0) ∧ h2 = x) := by
  refine Ok_of SC_ok (by decide +kernel) rfl (Nat.le_of_ble_eq_true rfl) ?_
  show SG SC mX4_append _ 0 [ar 8, ai c, au] [] _
  simp only [sX4_append_0, sX4_append_1, sX4_append_4, sX4_append_6, sX4_append_9, sX4_append_10, sX4_append_11, sX4_append_12, sX4_append_14, sX4_append_15, sX4_append_18, sX4_append_21, sX4_append_22, sX4_append_25, sX4_append_26, sX4_append_27, sX4_append_28, sX4_append_31, sX4_append_32, sX4_append_33, sX4_append_36, sX4_append_39, sX4_append_40, sX4_append_43, sX4_append_44, sX4_append_47, sX4_append_48, sX4_append_49, sX4_append_50, sX4_append_51, sX4_append_54, sX4_append_55, sX4_append_56, sX4_append_59, sX4_append_60, onI_i, onR_r, onS_s, slotA_i, slotA_b, slotA_l, slotA_r, ptk_i, ptk_b, ptk_l, aldP_s, aldP_n, uc_s, uc_n, uc_uc, ua_s, ua_n, Nat.reduceEqDiff, not_false_eq_true, true_or, or_true, true_and, and_true, implies_true, Option.some.injEq, Sum.inl.injEq, Int.toNat_natCast, true_implies, not_true_eq_false, false_implies, Int.reduceEq, Int.reduceLT, Int.reduceLE, Int.reduceNeg, Int.reduceAdd, Int.reduceSub, Int.reduceMul, Int.reduceToNat, lg_0, lg_1, lg_2, lz_0, lz_1, lz_2, scs_0_0, scs_0_1, scs_0_2, scs_0_3, scs_0_4, scs_0_5, scs_0_6, scs_0_7, scs_0_8, scs_0_9, scs_1_0, scs_1_1, scs_1_2, scs_1_3, scs_1_4, scs_1_5, scs_1_6, scs_1_7, scs_1_8, scs_1_9, scs_1_10, scs_1_11, scs_1_12, scs_1_13, scs_1_14, scs_1_15, scs_1_16, scs_1_17, scs_1_18, scr_2, scr_3, scs_4_0, scs_4_1, scs_5_0, scs_5_1, scs_5_2, scs_5_3, scs_5_4, scs_6_0, scs_6_1, scs_6_2, scs_6_3, scs_7_0, scs_7_1, scs_7_2, scs_7_3, scs_8_0, scs_8_1, scs_8_2, sca_9, sca_10, sca_11, sca_12, sca_13, sca_14, sca_15, sca_16, sca_17, sca_18, sca_19, sca_20, sca_21, sca_22, sca_23, sca_24, sca_25, sca_26, sca_27, sca_28, sca_29, sca_30, sca_31, sca_32, sca_33, sca_34, sca_35, sca_36, scs_37_0, scs_37_1, scs_37_2, scs_37_3, sca_38, sca_39, sca_40, scs_41_0, scs_41_1, scs_41_2, scs_41_3, sca_42, sca_43, sca_44, scs_45_0, scs_45_1, scs_45_2, scs_45_3, sca_46, sca_47, sca_48, scs_49_0, scs_49_1, scs_49_2, scs_49_3, sca_50, sca_51, sca_52, scs_53_0, scs_53_1, scs_53_2, scs_53_3, sca_54, sca_55, sca_56, scs_57_0, scs_57_1, scs_57_2, scs_57_3, sca_58, sca_59, sca_60, scs_61_0, scs_61_1, scs_61_2, scs_61_3, sca_62, sca_63, sca_64, scs_65_0, scs_65_1, scs_65_2, scs_65_3, sca_66, sca_67, sca_68, scs_69_0, scs_69_1, scs_69_2, scs_69_3, sca_70, sca_71, sca_72, sc_st0, sc_st1, sc_st2, sc_sv0, sc_sv1, sc_sv2, hn]
  exact ⟨by omega, by omega⟩
theorem o_mayAppend {x g : AH} {n : Nat} (hn : x 8 0 = n) (h6 : n < 6) (hp : ∀ k, k < n → x 35 k = g 22 k ∧ inR (g 22 k)) {c : Int} (hc : inR c) : Ok SC mX4_append [ar 8, ai c] x (fun r h2 => r = some (ai (if n < 6 ∧ inMay g c n = false then 1 else 0)) ∧ h2 = if n < 6 ∧ inMay g c n = false then updC (updC x 35 (updA (x 35) n c)) 8 (updA (x 8) 0 ((n : Int) + 1)) else x) := by
  generalize hQ : (fun (r : Option AV) (h2 : AH) => r = some (ai (if n < 6 ∧ inMay g c n = false then 1 else 0)) ∧ h2 = if n < 6 ∧ inMay g c n = false then updC (updC x 35 (updA (x 35) n c)) 8 (updA (x 8) 0 ((n : Int) + 1)) else x) = Q
  have lp : ∀ (j k : Nat) (u : Int), k + j = n → u = k → (∀ i, i < k → ¬ g 22 i = c) → SG SC mX4_append Q 13 [ar 8, ai c, ai u] [] x := by
    intro j
    induction j with
    | zero =>
      intro k u hk hu h
      have e : k = n := by omega
      subst e; subst hu
      have no : inMay g c k = false := by
        cases e : inMay g c k with
        | false => rfl
        | true => obtain ⟨j, j1, j2⟩ := (inMay_s k).mp e; exact absurd j2 (h j j1)
      rw [sX4_append_13]
      simp only [sX4_append_0, sX4_append_1, sX4_append_4, sX4_append_6, sX4_append_9, sX4_append_10, sX4_append_11, sX4_append_12, sX4_append_14, sX4_append_15, sX4_append_18, sX4_append_21, sX4_append_22, sX4_append_25, sX4_append_26, sX4_append_27, sX4_append_28, sX4_append_31, sX4_append_32, sX4_append_33, sX4_append_36, sX4_append_39, sX4_append_40, sX4_append_43, sX4_append_44, sX4_append_47, sX4_append_48, sX4_append_49, sX4_append_50, sX4_append_51, sX4_append_54, sX4_append_55, sX4_append_56, sX4_append_59, sX4_append_60, onI_i, onR_r, onS_s, slotA_i, slotA_b, slotA_l, slotA_r, ptk_i, ptk_b, ptk_l, aldP_s, aldP_n, uc_s, uc_n, uc_uc, ua_s, ua_n, Nat.reduceEqDiff, not_false_eq_true, true_or, or_true, true_and, and_true, implies_true, Option.some.injEq, Sum.inl.injEq, Int.toNat_natCast, true_implies, not_true_eq_false, false_implies, Int.reduceEq, Int.reduceLT, Int.reduceLE, Int.reduceNeg, Int.reduceAdd, Int.reduceSub, Int.reduceMul, Int.reduceToNat, lg_0, lg_1, lg_2, lz_0, lz_1, lz_2, scs_0_0, scs_0_1, scs_0_2, scs_0_3, scs_0_4, scs_0_5, scs_0_6, scs_0_7, scs_0_8, scs_0_9, scs_1_0, scs_1_1, scs_1_2, scs_1_3, scs_1_4, scs_1_5, scs_1_6, scs_1_7, scs_1_8, scs_1_9, scs_1_10, scs_1_11, scs_1_12, scs_1_13, scs_1_14, scs_1_15, scs_1_16, scs_1_17, scs_1_18, scr_2, scr_3, scs_4_0, scs_4_1, scs_5_0, scs_5_1, scs_5_2, scs_5_3, scs_5_4, scs_6_0, scs_6_1, scs_6_2, scs_6_3, scs_7_0, scs_7_1, scs_7_2, scs_7_3, scs_8_0, scs_8_1, scs_8_2, sca_9, sca_10, sca_11, sca_12, sca_13, sca_14, sca_15, sca_16, sca_17, sca_18, sca_19, sca_20, sca_21, sca_22, sca_23, sca_24, sca_25, sca_26, sca_27, sca_28, sca_29, sca_30, sca_31, sca_32, sca_33, sca_34, sca_35, sca_36, scs_37_0, scs_37_1, scs_37_2, scs_37_3, sca_38, sca_39, sca_40, scs_41_0, scs_41_1, scs_41_2, scs_41_3, sca_42, sca_43, sca_44, scs_45_0, scs_45_1, scs_45_2, scs_45_3, sca_46, sca_47, sca_48, scs_49_0, scs_49_1, scs_49_2, scs_49_3, sca_50, sca_51, sca_52, scs_53_0, scs_53_1, scs_53_2, scs_53_3, sca_54, sca_55, sca_56, scs_57_0, scs_57_1, scs_57_2, scs_57_3, sca_58, sca_59, sca_60, scs_61_0, scs_61_1, scs_61_2, scs_61_3, sca_62, sca_63, sca_64, scs_65_0, scs_65_1, scs_65_2, scs_65_3, sca_66, sca_67, sca_68, scs_69_0, scs_69_1, scs_69_2, scs_69_3, sca_70, sca_71, sca_72, sc_st0, sc_st1, sc_st2, sc_sv0, sc_sv1, sc_sv2, hn]
      rw [← hQ, if_pos ⟨by omega, no⟩, if_pos ⟨by omega, no⟩]
      exact ⟨by omega, by omega, fun _ => ⟨by omega, rfl, rfl⟩, fun z => absurd z (by omega)⟩
    | succ j ih =>
      intro k u hk hu h
      subst hu
      have hk2 := hp k (by omega)
      have x35 := hk2.1
      rw [sX4_append_13]
      simp only [sX4_append_0, sX4_append_1, sX4_append_4, sX4_append_6, sX4_append_9, sX4_append_10, sX4_append_11, sX4_append_12, sX4_append_14, sX4_append_15, sX4_append_18, sX4_append_21, sX4_append_22, sX4_append_25, sX4_append_26, sX4_append_27, sX4_append_28, sX4_append_31, sX4_append_32, sX4_append_33, sX4_append_36, sX4_append_39, sX4_append_40, sX4_append_43, sX4_append_44, sX4_append_47, sX4_append_48, sX4_append_49, sX4_append_50, sX4_append_51, sX4_append_54, sX4_append_55, sX4_append_56, sX4_append_59, sX4_append_60, onI_i, onR_r, onS_s, slotA_i, slotA_b, slotA_l, slotA_r, ptk_i, ptk_b, ptk_l, aldP_s, aldP_n, uc_s, uc_n, uc_uc, ua_s, ua_n, Nat.reduceEqDiff, not_false_eq_true, true_or, or_true, true_and, and_true, implies_true, Option.some.injEq, Sum.inl.injEq, Int.toNat_natCast, true_implies, not_true_eq_false, false_implies, Int.reduceEq, Int.reduceLT, Int.reduceLE, Int.reduceNeg, Int.reduceAdd, Int.reduceSub, Int.reduceMul, Int.reduceToNat, lg_0, lg_1, lg_2, lz_0, lz_1, lz_2, scs_0_0, scs_0_1, scs_0_2, scs_0_3, scs_0_4, scs_0_5, scs_0_6, scs_0_7, scs_0_8, scs_0_9, scs_1_0, scs_1_1, scs_1_2, scs_1_3, scs_1_4, scs_1_5, scs_1_6, scs_1_7, scs_1_8, scs_1_9, scs_1_10, scs_1_11, scs_1_12, scs_1_13, scs_1_14, scs_1_15, scs_1_16, scs_1_17, scs_1_18, scr_2, scr_3, scs_4_0, scs_4_1, scs_5_0, scs_5_1, scs_5_2, scs_5_3, scs_5_4, scs_6_0, scs_6_1, scs_6_2, scs_6_3, scs_7_0, scs_7_1, scs_7_2, scs_7_3, scs_8_0, scs_8_1, scs_8_2, sca_9, sca_10, sca_11, sca_12, sca_13, sca_14, sca_15, sca_16, sca_17, sca_18, sca_19, sca_20, sca_21, sca_22, sca_23, sca_24, sca_25, sca_26, sca_27, sca_28, sca_29, sca_30, sca_31, sca_32, sca_33, sca_34, sca_35, sca_36, scs_37_0, scs_37_1, scs_37_2, scs_37_3, sca_38, sca_39, sca_40, scs_41_0, scs_41_1, scs_41_2, scs_41_3, sca_42, sca_43, sca_44, scs_45_0, scs_45_1, scs_45_2, scs_45_3, sca_46, sca_47, sca_48, scs_49_0, scs_49_1, scs_49_2, scs_49_3, sca_50, sca_51, sca_52, scs_53_0, scs_53_1, scs_53_2, scs_53_3, sca_54, sca_55, sca_56, scs_57_0, scs_57_1, scs_57_2, scs_57_3, sca_58, sca_59, sca_60, scs_61_0, scs_61_1, scs_61_2, scs_61_3, sca_62, sca_63, sca_64, scs_65_0, scs_65_1, scs_65_2, scs_65_3, sca_66, sca_67, sca_68, scs_69_0, scs_69_1, scs_69_2, scs_69_3, sca_70, sca_71, sca_72, sc_st0, sc_st1, sc_st2, sc_sv0, sc_sv1, sc_sv2, hn, x35]
      refine ⟨by omega, by omega, fun z => absurd z (by omega), fun _ => ⟨by omega, by omega, by omega, fun z => ?_, fun z => ?_⟩⟩
      · refine ih (k + 1) _ (by omega) rfl (fun i hi => ?_)
        by_cases e : i = k
        · subst e; exact z
        · exact h i (by omega)
      · have yes : inMay g c n = true := (inMay_s n).mpr ⟨k, by omega, Classical.not_not.mp z⟩
        rw [← hQ, if_neg (fun y => by rw [yes] at y; exact absurd y.2 (by decide)), if_neg (fun y => by rw [yes] at y; exact absurd y.2 (by decide))]
        exact ⟨rfl, rfl⟩
  refine Ok_of SC_ok (by decide +kernel) rfl (Nat.le_of_ble_eq_true rfl) ?_
  show SG SC mX4_append _ 0 [ar 8, ai c, au] [] _
  simp only [sX4_append_0, sX4_append_1, sX4_append_4, sX4_append_6, sX4_append_9, sX4_append_10, sX4_append_11, sX4_append_12, sX4_append_14, sX4_append_15, sX4_append_18, sX4_append_21, sX4_append_22, sX4_append_25, sX4_append_26, sX4_append_27, sX4_append_28, sX4_append_31, sX4_append_32, sX4_append_33, sX4_append_36, sX4_append_39, sX4_append_40, sX4_append_43, sX4_append_44, sX4_append_47, sX4_append_48, sX4_append_49, sX4_append_50, sX4_append_51, sX4_append_54, sX4_append_55, sX4_append_56, sX4_append_59, sX4_append_60, onI_i, onR_r, onS_s, slotA_i, slotA_b, slotA_l, slotA_r, ptk_i, ptk_b, ptk_l, aldP_s, aldP_n, uc_s, uc_n, uc_uc, ua_s, ua_n, Nat.reduceEqDiff, not_false_eq_true, true_or, or_true, true_and, and_true, implies_true, Option.some.injEq, Sum.inl.injEq, Int.toNat_natCast, true_implies, not_true_eq_false, false_implies, Int.reduceEq, Int.reduceLT, Int.reduceLE, Int.reduceNeg, Int.reduceAdd, Int.reduceSub, Int.reduceMul, Int.reduceToNat, lg_0, lg_1, lg_2, lz_0, lz_1, lz_2, scs_0_0, scs_0_1, scs_0_2, scs_0_3, scs_0_4, scs_0_5, scs_0_6, scs_0_7, scs_0_8, scs_0_9, scs_1_0, scs_1_1, scs_1_2, scs_1_3, scs_1_4, scs_1_5, scs_1_6, scs_1_7, scs_1_8, scs_1_9, scs_1_10, scs_1_11, scs_1_12, scs_1_13, scs_1_14, scs_1_15, scs_1_16, scs_1_17, scs_1_18, scr_2, scr_3, scs_4_0, scs_4_1, scs_5_0, scs_5_1, scs_5_2, scs_5_3, scs_5_4, scs_6_0, scs_6_1, scs_6_2, scs_6_3, scs_7_0, scs_7_1, scs_7_2, scs_7_3, scs_8_0, scs_8_1, scs_8_2, sca_9, sca_10, sca_11, sca_12, sca_13, sca_14, sca_15, sca_16, sca_17, sca_18, sca_19, sca_20, sca_21, sca_22, sca_23, sca_24, sca_25, sca_26, sca_27, sca_28, sca_29, sca_30, sca_31, sca_32, sca_33, sca_34, sca_35, sca_36, scs_37_0, scs_37_1, scs_37_2, scs_37_3, sca_38, sca_39, sca_40, scs_41_0, scs_41_1, scs_41_2, scs_41_3, sca_42, sca_43, sca_44, scs_45_0, scs_45_1, scs_45_2, scs_45_3, sca_46, sca_47, sca_48, scs_49_0, scs_49_1, scs_49_2, scs_49_3, sca_50, sca_51, sca_52, scs_53_0, scs_53_1, scs_53_2, scs_53_3, sca_54, sca_55, sca_56, scs_57_0, scs_57_1, scs_57_2, scs_57_3, sca_58, sca_59, sca_60, scs_61_0, scs_61_1, scs_61_2, scs_61_3, sca_62, sca_63, sca_64, scs_65_0, scs_65_1, scs_65_2, scs_65_3, sca_66, sca_67, sca_68, scs_69_0, scs_69_1, scs_69_2, scs_69_3, sca_70, sca_71, sca_72, sc_st0, sc_st1, sc_st2, sc_sv0, sc_sv1, sc_sv2, hn]
  exact ⟨by omega, by omega, fun _ => lp n 0 0 (by omega) rfl (fun i hi => absurd hi (by omega)), fun z => absurd z (by omega)⟩
theorem inSet_s {g : AH} {s t : Nat} : ∀ k : Nat, inSet g s t k = true ↔ ∃ j, j < k ∧ s.testBit j = true ∧ g 22 j = t
  | 0 => by simp [inSet]
  | k + 1 => by
    have ih := inSet_s (g := g) (s := s) (t := t) k
    unfold inSet
    rw [Bool.or_eq_true, ih, Bool.and_eq_true, decide_eq_true_eq]
    constructor
    · rintro (⟨j, h1, h2⟩ | h)
      · exact ⟨j, by omega, h2⟩
      · exact ⟨k, by omega, h⟩
    · rintro ⟨j, h1, h2⟩
      by_cases e : j = k
      · subst e; exact Or.inr h2
      · exact Or.inl ⟨j, by omega, h2⟩
/-- the cuts of a set, the first k told -/
def ctK (g : AH) (s : Nat) (f : Nat → Int) (k c : Nat) : Int := if inSet g s c k then -1 else f c
theorem ctK_0 {g : AH} {s : Nat} {f : Nat → Int} {k c : Nat} (h : s.testBit k = false) : ctK g s f (k + 1) c = ctK g s f k c := by
  unfold ctK
  have : inSet g s c (k + 1) = inSet g s c k := by
    show (inSet g s c k || (s.testBit k && decide (g 22 k = c))) = _
    rw [h]; simp
  rw [this]
theorem o_cut {x g : AH} {n s : Nat} (hn : x 8 0 = n) (h6 : n ≤ 6) (hs : s < 64) (hp : ∀ k, k < n → x 35 k = g 22 k ∧ (0 ≤ g 22 k ∧ g 22 k < 64)) (hd : ∀ k j, k < n → j < k → ¬ g 22 j = g 22 k) : Ok SC mX4_cut [ar 8, ar 1, ai s] x (fun r h2 => r = none ∧ ∃ cb ct : Nat → Int, h2 = updC (updC x 36 cb) 14 ct ∧ (∀ c, c < 64 → ct c = ctK g s (x 14) n c) ∧ ∀ k, k < n → s.testBit k = true → cb k = x 14 (g 22 k).toNat) := by
  generalize hQ : (fun (r : Option AV) (h2 : AH) => r = none ∧ ∃ cb ct : Nat → Int, h2 = updC (updC x 36 cb) 14 ct ∧ (∀ c, c < 64 → ct c = ctK g s (x 14) n c) ∧ ∀ k, k < n → s.testBit k = true → cb k = x 14 (g 22 k).toNat) = Q
  have lp : ∀ (j k : Nat) (cb ct : Nat → Int) (u : Int), k + j = n → u = k → (∀ c, c < 64 → ct c = ctK g s (x 14) k c) → (∀ i, i < k → s.testBit i = true → cb i = x 14 (g 22 i).toNat) → SG SC mX4_cut Q 2 [ar 8, ar 1, ai s, ai u] [] (updC (updC x 36 cb) 14 ct) := by
    intro j
    induction j with
    | zero =>
      intro k cb ct u hk hu h1 h2
      have e : k = n := by omega
      subst e; subst hu
      rw [sX4_cut_2]
      simp only [sX4_cut_0, sX4_cut_1, sX4_cut_3, sX4_cut_4, sX4_cut_7, sX4_cut_10, sX4_cut_11, sX4_cut_12, sX4_cut_13, sX4_cut_14, sX4_cut_15, sX4_cut_16, sX4_cut_19, sX4_cut_20, sX4_cut_23, sX4_cut_24, sX4_cut_25, sX4_cut_28, sX4_cut_29, sX4_cut_32, sX4_cut_33, sX4_cut_34, sX4_cut_35, sX4_cut_36, sX4_cut_37, sX4_cut_40, sX4_cut_41, sX4_cut_44, sX4_cut_45, sX4_cut_46, sX4_cut_47, sX4_cut_48, sX4_cut_51, sX4_cut_54, onI_i, onR_r, onS_s, slotA_i, slotA_b, slotA_l, slotA_r, ptk_i, ptk_b, ptk_l, aldP_s, aldP_n, uc_s, uc_n, uc_uc, ua_s, ua_n, Nat.reduceEqDiff, not_false_eq_true, true_or, or_true, true_and, and_true, implies_true, Option.some.injEq, Sum.inl.injEq, Int.toNat_natCast, true_implies, not_true_eq_false, false_implies, Int.reduceEq, Int.reduceLT, Int.reduceLE, Int.reduceNeg, Int.reduceAdd, Int.reduceSub, Int.reduceMul, Int.reduceToNat, lg_0, lg_1, lg_2, lg_3, lz_0, lz_1, lz_2, lz_3, scs_0_0, scs_0_1, scs_0_2, scs_0_3, scs_0_4, scs_0_5, scs_0_6, scs_0_7, scs_0_8, scs_0_9, scs_1_0, scs_1_1, scs_1_2, scs_1_3, scs_1_4, scs_1_5, scs_1_6, scs_1_7, scs_1_8, scs_1_9, scs_1_10, scs_1_11, scs_1_12, scs_1_13, scs_1_14, scs_1_15, scs_1_16, scs_1_17, scs_1_18, scr_2, scr_3, scs_4_0, scs_4_1, scs_5_0, scs_5_1, scs_5_2, scs_5_3, scs_5_4, scs_6_0, scs_6_1, scs_6_2, scs_6_3, scs_7_0, scs_7_1, scs_7_2, scs_7_3, scs_8_0, scs_8_1, scs_8_2, sca_9, sca_10, sca_11, sca_12, sca_13, sca_14, sca_15, sca_16, sca_17, sca_18, sca_19, sca_20, sca_21, sca_22, sca_23, sca_24, sca_25, sca_26, sca_27, sca_28, sca_29, sca_30, sca_31, sca_32, sca_33, sca_34, sca_35, sca_36, scs_37_0, scs_37_1, scs_37_2, scs_37_3, sca_38, sca_39, sca_40, scs_41_0, scs_41_1, scs_41_2, scs_41_3, sca_42, sca_43, sca_44, scs_45_0, scs_45_1, scs_45_2, scs_45_3, sca_46, sca_47, sca_48, scs_49_0, scs_49_1, scs_49_2, scs_49_3, sca_50, sca_51, sca_52, scs_53_0, scs_53_1, scs_53_2, scs_53_3, sca_54, sca_55, sca_56, scs_57_0, scs_57_1, scs_57_2, scs_57_3, sca_58, sca_59, sca_60, scs_61_0, scs_61_1, scs_61_2, scs_61_3, sca_62, sca_63, sca_64, scs_65_0, scs_65_1, scs_65_2, scs_65_3, sca_66, sca_67, sca_68, scs_69_0, scs_69_1, scs_69_2, scs_69_3, sca_70, sca_71, sca_72, sc_st0, sc_st1, sc_st2, sc_sv0, sc_sv1, sc_sv2, hn]
      rw [← hQ]
      exact ⟨by omega, by omega, fun _ => ⟨rfl, cb, ct, rfl, h1, h2⟩, fun z => absurd z (by omega)⟩
    | succ j ih =>
      intro k cb ct u hk hu h1 h2
      subst hu
      obtain ⟨x35, pr⟩ := hp k (by omega)
      obtain ⟨p, hp2⟩ : ∃ p : Nat, g 22 k = p := ⟨(g 22 k).toNat, by omega⟩
      rw [hp2] at x35
      have be := bit_e hs (show k < 6 by omega)
      have br := bitN_r s k
      rw [sX4_cut_2]
      simp only [sX4_cut_0, sX4_cut_1, sX4_cut_3, sX4_cut_4, sX4_cut_7, sX4_cut_10, sX4_cut_11, sX4_cut_12, sX4_cut_13, sX4_cut_14, sX4_cut_15, sX4_cut_16, sX4_cut_19, sX4_cut_20, sX4_cut_23, sX4_cut_24, sX4_cut_25, sX4_cut_28, sX4_cut_29, sX4_cut_32, sX4_cut_33, sX4_cut_34, sX4_cut_35, sX4_cut_36, sX4_cut_37, sX4_cut_40, sX4_cut_41, sX4_cut_44, sX4_cut_45, sX4_cut_46, sX4_cut_47, sX4_cut_48, sX4_cut_51, sX4_cut_54, onI_i, onR_r, onS_s, slotA_i, slotA_b, slotA_l, slotA_r, ptk_i, ptk_b, ptk_l, aldP_s, aldP_n, uc_s, uc_n, uc_uc, ua_s, ua_n, Nat.reduceEqDiff, not_false_eq_true, true_or, or_true, true_and, and_true, implies_true, Option.some.injEq, Sum.inl.injEq, Int.toNat_natCast, true_implies, not_true_eq_false, false_implies, Int.reduceEq, Int.reduceLT, Int.reduceLE, Int.reduceNeg, Int.reduceAdd, Int.reduceSub, Int.reduceMul, Int.reduceToNat, lg_0, lg_1, lg_2, lg_3, lz_0, lz_1, lz_2, lz_3, scs_0_0, scs_0_1, scs_0_2, scs_0_3, scs_0_4, scs_0_5, scs_0_6, scs_0_7, scs_0_8, scs_0_9, scs_1_0, scs_1_1, scs_1_2, scs_1_3, scs_1_4, scs_1_5, scs_1_6, scs_1_7, scs_1_8, scs_1_9, scs_1_10, scs_1_11, scs_1_12, scs_1_13, scs_1_14, scs_1_15, scs_1_16, scs_1_17, scs_1_18, scr_2, scr_3, scs_4_0, scs_4_1, scs_5_0, scs_5_1, scs_5_2, scs_5_3, scs_5_4, scs_6_0, scs_6_1, scs_6_2, scs_6_3, scs_7_0, scs_7_1, scs_7_2, scs_7_3, scs_8_0, scs_8_1, scs_8_2, sca_9, sca_10, sca_11, sca_12, sca_13, sca_14, sca_15, sca_16, sca_17, sca_18, sca_19, sca_20, sca_21, sca_22, sca_23, sca_24, sca_25, sca_26, sca_27, sca_28, sca_29, sca_30, sca_31, sca_32, sca_33, sca_34, sca_35, sca_36, scs_37_0, scs_37_1, scs_37_2, scs_37_3, sca_38, sca_39, sca_40, scs_41_0, scs_41_1, scs_41_2, scs_41_3, sca_42, sca_43, sca_44, scs_45_0, scs_45_1, scs_45_2, scs_45_3, sca_46, sca_47, sca_48, scs_49_0, scs_49_1, scs_49_2, scs_49_3, sca_50, sca_51, sca_52, scs_53_0, scs_53_1, scs_53_2, scs_53_3, sca_54, sca_55, sca_56, scs_57_0, scs_57_1, scs_57_2, scs_57_3, sca_58, sca_59, sca_60, scs_61_0, scs_61_1, scs_61_2, scs_61_3, sca_62, sca_63, sca_64, scs_65_0, scs_65_1, scs_65_2, scs_65_3, sca_66, sca_67, sca_68, scs_69_0, scs_69_1, scs_69_2, scs_69_3, sca_70, sca_71, sca_72, sc_st0, sc_st1, sc_st2, sc_sv0, sc_sv1, sc_sv2, hn, be, x35]
      refine ⟨by omega, by omega, fun z => absurd z (by omega), fun _ => ⟨by omega, by omega, fun z => ?_, fun z => ⟨by omega, by omega, by omega, by omega, ?_⟩⟩⟩
      · have b0 : s.testBit k = false := by
          unfold bitN at z
          cases e : s.testBit k with
          | false => rfl
          | true => rw [e] at z; simp at z
        refine ih (k + 1) cb ct _ (by omega) rfl (fun c hc => by rw [ctK_0 b0]; exact h1 c hc) (fun i hi hb => ?_)
        by_cases e : i = k
        · subst e; rw [b0] at hb; exact absurd hb (by decide)
        · exact h2 i (by omega) hb
      · have b1 : s.testBit k = true := by
          unfold bitN at z
          cases e : s.testBit k with
          | true => rfl
          | false => rw [e] at z; simp at z
        have un : ct p = x 14 p := by
          rw [h1 p (by omega)]
          unfold ctK
          rw [if_neg]
          intro y
          obtain ⟨i, i1, _, i3⟩ := (inSet_s k).mp y
          exact hd k i (by omega) i1 (by omega)
        have e2 : ∀ A B : Nat → Int, updC (updC (updC (updC x 36 cb) 14 ct) 36 A) 14 B = updC (updC x 36 A) 14 B := by
          intro A B
          funext q
          by_cases e : q = 14
          · subst e; rfl
          · rw [uc_n e, uc_n e]
            by_cases e3 : q = 36
            · subst e3; rfl
            · rw [uc_n e3, uc_n e, uc_n e3, uc_n e3]
        rw [e2, un]
        refine ⟨by omega, ?_⟩
        refine ih (k + 1) _ _ _ (by omega) rfl (fun c hc => ?_) (fun i hi hb => ?_)
        · unfold ctK
          have ie : inSet g s c (k + 1) = (inSet g s c k || (s.testBit k && decide (g 22 k = c))) := rfl
          by_cases e : c = p
          · subst e; rw [ua_s, if_pos]; rw [ie, b1, hp2]; simp
          · rw [ua_n e, h1 c hc]
            unfold ctK
            have : inSet g s c (k + 1) = inSet g s c k := by
              rw [ie, b1, hp2]
              simp; intro y; omega
            rw [this]
        · by_cases e : i = k
          · subst e; rw [ua_s, hp2, Int.toNat_natCast]
          · rw [ua_n e]; exact h2 i (by omega) hb
  refine Ok_of SC_ok (by decide +kernel) rfl (Nat.le_of_ble_eq_true rfl) ?_
  show SG SC mX4_cut _ 0 [ar 8, ar 1, ai s, au] [] _
  simp only [sX4_cut_0, sX4_cut_1, sX4_cut_3, sX4_cut_4, sX4_cut_7, sX4_cut_10, sX4_cut_11, sX4_cut_12, sX4_cut_13, sX4_cut_14, sX4_cut_15, sX4_cut_16, sX4_cut_19, sX4_cut_20, sX4_cut_23, sX4_cut_24, sX4_cut_25, sX4_cut_28, sX4_cut_29, sX4_cut_32, sX4_cut_33, sX4_cut_34, sX4_cut_35, sX4_cut_36, sX4_cut_37, sX4_cut_40, sX4_cut_41, sX4_cut_44, sX4_cut_45, sX4_cut_46, sX4_cut_47, sX4_cut_48, sX4_cut_51, sX4_cut_54, onI_i, onR_r, onS_s, slotA_i, slotA_b, slotA_l, slotA_r, ptk_i, ptk_b, ptk_l, aldP_s, aldP_n, uc_s, uc_n, uc_uc, ua_s, ua_n, Nat.reduceEqDiff, not_false_eq_true, true_or, or_true, true_and, and_true, implies_true, Option.some.injEq, Sum.inl.injEq, Int.toNat_natCast, true_implies, not_true_eq_false, false_implies, Int.reduceEq, Int.reduceLT, Int.reduceLE, Int.reduceNeg, Int.reduceAdd, Int.reduceSub, Int.reduceMul, Int.reduceToNat, lg_0, lg_1, lg_2, lg_3, lz_0, lz_1, lz_2, lz_3, scs_0_0, scs_0_1, scs_0_2, scs_0_3, scs_0_4, scs_0_5, scs_0_6, scs_0_7, scs_0_8, scs_0_9, scs_1_0, scs_1_1, scs_1_2, scs_1_3, scs_1_4, scs_1_5, scs_1_6, scs_1_7, scs_1_8, scs_1_9, scs_1_10, scs_1_11, scs_1_12, scs_1_13, scs_1_14, scs_1_15, scs_1_16, scs_1_17, scs_1_18, scr_2, scr_3, scs_4_0, scs_4_1, scs_5_0, scs_5_1, scs_5_2, scs_5_3, scs_5_4, scs_6_0, scs_6_1, scs_6_2, scs_6_3, scs_7_0, scs_7_1, scs_7_2, scs_7_3, scs_8_0, scs_8_1, scs_8_2, sca_9, sca_10, sca_11, sca_12, sca_13, sca_14, sca_15, sca_16, sca_17, sca_18, sca_19, sca_20, sca_21, sca_22, sca_23, sca_24, sca_25, sca_26, sca_27, sca_28, sca_29, sca_30, sca_31, sca_32, sca_33, sca_34, sca_35, sca_36, scs_37_0, scs_37_1, scs_37_2, scs_37_3, sca_38, sca_39, sca_40, scs_41_0, scs_41_1, scs_41_2, scs_41_3, sca_42, sca_43, sca_44, scs_45_0, scs_45_1, scs_45_2, scs_45_3, sca_46, sca_47, sca_48, scs_49_0, scs_49_1, scs_49_2, scs_49_3, sca_50, sca_51, sca_52, scs_53_0, scs_53_1, scs_53_2, scs_53_3, sca_54, sca_55, sca_56, scs_57_0, scs_57_1, scs_57_2, scs_57_3, sca_58, sca_59, sca_60, scs_61_0, scs_61_1, scs_61_2, scs_61_3, sca_62, sca_63, sca_64, scs_65_0, scs_65_1, scs_65_2, scs_65_3, sca_66, sca_67, sca_68, scs_69_0, scs_69_1, scs_69_2, scs_69_3, sca_70, sca_71, sca_72, sc_st0, sc_st1, sc_st2, sc_sv0, sc_sv1, sc_sv2]
  have := lp n 0 (x 36) (x 14) 0 (by omega) rfl (fun c hc => rfl) (fun i hi => absurd hi (by omega))
  have e : updC (updC x 36 (x 36)) 14 (x 14) = x := by
    funext q
    by_cases e : q = 14
    · subst e; rfl
    · rw [uc_n e]
      by_cases e3 : q = 36
      · subst e3; rfl
      · rw [uc_n e3]
  rw [e] at this
  exact this
theorem o_uncut {x g : AH} {n s : Nat} (hn : x 8 0 = n) (h6 : n ≤ 6) (hs : s < 64) (hp : ∀ k, k < n → x 35 k = g 22 k ∧ (0 ≤ g 22 k ∧ g 22 k < 64)) {f : Nat → Int} (hc : ∀ c, c < 64 → x 14 c = ctK g s f n c) (hb : ∀ k, k < n → s.testBit k = true → x 36 k = f (g 22 k).toNat) : Ok SC mX4_uncut [ar 8, ar 1, ai s] x (fun r h2 => r = none ∧ ∃ ct : Nat → Int, h2 = updC x 14 ct ∧ ∀ c, c < 64 → ct c = f c) := by
  generalize hQ : (fun (r : Option AV) (h2 : AH) => r = none ∧ ∃ ct : Nat → Int, h2 = updC x 14 ct ∧ ∀ c, c < 64 → ct c = f c) = Q
  have lp : ∀ (j k : Nat) (ct : Nat → Int) (u : Int), k + j = n → u = k → (∀ c, c < 64 → ct c = if inSet g s c k then f c else ctK g s f n c) → SG SC mX4_uncut Q 2 [ar 8, ar 1, ai s, ai u] [] (updC x 14 ct) := by
    intro j
    induction j with
    | zero =>
      intro k ct u hk hu h1
      have e : k = n := by omega
      subst e; subst hu
      rw [sX4_uncut_2]
      simp only [sX4_uncut_0, sX4_uncut_1, sX4_uncut_3, sX4_uncut_4, sX4_uncut_7, sX4_uncut_10, sX4_uncut_11, sX4_uncut_12, sX4_uncut_13, sX4_uncut_14, sX4_uncut_15, sX4_uncut_16, sX4_uncut_19, sX4_uncut_20, sX4_uncut_23, sX4_uncut_24, sX4_uncut_27, sX4_uncut_28, sX4_uncut_29, sX4_uncut_30, sX4_uncut_33, sX4_uncut_34, sX4_uncut_35, sX4_uncut_36, sX4_uncut_39, sX4_uncut_42, onI_i, onR_r, onS_s, slotA_i, slotA_b, slotA_l, slotA_r, ptk_i, ptk_b, ptk_l, aldP_s, aldP_n, uc_s, uc_n, uc_uc, ua_s, ua_n, Nat.reduceEqDiff, not_false_eq_true, true_or, or_true, true_and, and_true, implies_true, Option.some.injEq, Sum.inl.injEq, Int.toNat_natCast, true_implies, not_true_eq_false, false_implies, Int.reduceEq, Int.reduceLT, Int.reduceLE, Int.reduceNeg, Int.reduceAdd, Int.reduceSub, Int.reduceMul, Int.reduceToNat, lg_0, lg_1, lg_2, lg_3, lz_0, lz_1, lz_2, lz_3, scs_0_0, scs_0_1, scs_0_2, scs_0_3, scs_0_4, scs_0_5, scs_0_6, scs_0_7, scs_0_8, scs_0_9, scs_1_0, scs_1_1, scs_1_2, scs_1_3, scs_1_4, scs_1_5, scs_1_6, scs_1_7, scs_1_8, scs_1_9, scs_1_10, scs_1_11, scs_1_12, scs_1_13, scs_1_14, scs_1_15, scs_1_16, scs_1_17, scs_1_18, scr_2, scr_3, scs_4_0, scs_4_1, scs_5_0, scs_5_1, scs_5_2, scs_5_3, scs_5_4, scs_6_0, scs_6_1, scs_6_2, scs_6_3, scs_7_0, scs_7_1, scs_7_2, scs_7_3, scs_8_0, scs_8_1, scs_8_2, sca_9, sca_10, sca_11, sca_12, sca_13, sca_14, sca_15, sca_16, sca_17, sca_18, sca_19, sca_20, sca_21, sca_22, sca_23, sca_24, sca_25, sca_26, sca_27, sca_28, sca_29, sca_30, sca_31, sca_32, sca_33, sca_34, sca_35, sca_36, scs_37_0, scs_37_1, scs_37_2, scs_37_3, sca_38, sca_39, sca_40, scs_41_0, scs_41_1, scs_41_2, scs_41_3, sca_42, sca_43, sca_44, scs_45_0, scs_45_1, scs_45_2, scs_45_3, sca_46, sca_47, sca_48, scs_49_0, scs_49_1, scs_49_2, scs_49_3, sca_50, sca_51, sca_52, scs_53_0, scs_53_1, scs_53_2, scs_53_3, sca_54, sca_55, sca_56, scs_57_0, scs_57_1, scs_57_2, scs_57_3, sca_58, sca_59, sca_60, scs_61_0, scs_61_1, scs_61_2, scs_61_3, sca_62, sca_63, sca_64, scs_65_0, scs_65_1, scs_65_2, scs_65_3, sca_66, sca_67, sca_68, scs_69_0, scs_69_1, scs_69_2, scs_69_3, sca_70, sca_71, sca_72, sc_st0, sc_st1, sc_st2, sc_sv0, sc_sv1, sc_sv2, hn]
      rw [← hQ]
      refine ⟨by omega, by omega, fun _ => ⟨rfl, ct, rfl, fun c hc => ?_⟩, fun z => absurd z (by omega)⟩
      rw [h1 c hc]
      unfold ctK
      split
      · rfl
      · rfl
    | succ j ih =>
      intro k ct u hk hu h1
      subst hu
      obtain ⟨x35, pr⟩ := hp k (by omega)
      obtain ⟨p, hp2⟩ : ∃ p : Nat, g 22 k = p := ⟨(g 22 k).toNat, by omega⟩
      rw [hp2] at x35
      have be := bit_e hs (show k < 6 by omega)
      have br := bitN_r s k
      have ie : ∀ c, inSet g s c (k + 1) = (inSet g s c k || (s.testBit k && decide (g 22 k = c))) := fun c => rfl
      rw [sX4_uncut_2]
      simp only [sX4_uncut_0, sX4_uncut_1, sX4_uncut_3, sX4_uncut_4, sX4_uncut_7, sX4_uncut_10, sX4_uncut_11, sX4_uncut_12, sX4_uncut_13, sX4_uncut_14, sX4_uncut_15, sX4_uncut_16, sX4_uncut_19, sX4_uncut_20, sX4_uncut_23, sX4_uncut_24, sX4_uncut_27, sX4_uncut_28, sX4_uncut_29, sX4_uncut_30, sX4_uncut_33, sX4_uncut_34, sX4_uncut_35, sX4_uncut_36, sX4_uncut_39, sX4_uncut_42, onI_i, onR_r, onS_s, slotA_i, slotA_b, slotA_l, slotA_r, ptk_i, ptk_b, ptk_l, aldP_s, aldP_n, uc_s, uc_n, uc_uc, ua_s, ua_n, Nat.reduceEqDiff, not_false_eq_true, true_or, or_true, true_and, and_true, implies_true, Option.some.injEq, Sum.inl.injEq, Int.toNat_natCast, true_implies, not_true_eq_false, false_implies, Int.reduceEq, Int.reduceLT, Int.reduceLE, Int.reduceNeg, Int.reduceAdd, Int.reduceSub, Int.reduceMul, Int.reduceToNat, lg_0, lg_1, lg_2, lg_3, lz_0, lz_1, lz_2, lz_3, scs_0_0, scs_0_1, scs_0_2, scs_0_3, scs_0_4, scs_0_5, scs_0_6, scs_0_7, scs_0_8, scs_0_9, scs_1_0, scs_1_1, scs_1_2, scs_1_3, scs_1_4, scs_1_5, scs_1_6, scs_1_7, scs_1_8, scs_1_9, scs_1_10, scs_1_11, scs_1_12, scs_1_13, scs_1_14, scs_1_15, scs_1_16, scs_1_17, scs_1_18, scr_2, scr_3, scs_4_0, scs_4_1, scs_5_0, scs_5_1, scs_5_2, scs_5_3, scs_5_4, scs_6_0, scs_6_1, scs_6_2, scs_6_3, scs_7_0, scs_7_1, scs_7_2, scs_7_3, scs_8_0, scs_8_1, scs_8_2, sca_9, sca_10, sca_11, sca_12, sca_13, sca_14, sca_15, sca_16, sca_17, sca_18, sca_19, sca_20, sca_21, sca_22, sca_23, sca_24, sca_25, sca_26, sca_27, sca_28, sca_29, sca_30, sca_31, sca_32, sca_33, sca_34, sca_35, sca_36, scs_37_0, scs_37_1, scs_37_2, scs_37_3, sca_38, sca_39, sca_40, scs_41_0, scs_41_1, scs_41_2, scs_41_3, sca_42, sca_43, sca_44, scs_45_0, scs_45_1, scs_45_2, scs_45_3, sca_46, sca_47, sca_48, scs_49_0, scs_49_1, scs_49_2, scs_49_3, sca_50, sca_51, sca_52, scs_53_0, scs_53_1, scs_53_2, scs_53_3, sca_54, sca_55, sca_56, scs_57_0, scs_57_1, scs_57_2, scs_57_3, sca_58, sca_59, sca_60, scs_61_0, scs_61_1, scs_61_2, scs_61_3, sca_62, sca_63, sca_64, scs_65_0, scs_65_1, scs_65_2, scs_65_3, sca_66, sca_67, sca_68, scs_69_0, scs_69_1, scs_69_2, scs_69_3, sca_70, sca_71, sca_72, sc_st0, sc_st1, sc_st2, sc_sv0, sc_sv1, sc_sv2, hn, be, x35]
      refine ⟨by omega, by omega, fun z => absurd z (by omega), fun _ => ⟨by omega, by omega, fun z => ?_, fun z => ⟨by omega, by omega, ?_⟩⟩⟩
      · have b0 : s.testBit k = false := by
          unfold bitN at z
          cases e : s.testBit k with
          | false => rfl
          | true => rw [e] at z; simp at z
        refine ih (k + 1) ct _ (by omega) rfl (fun c hc => ?_)
        rw [ie, b0, h1 c hc]; simp
      · have b1 : s.testBit k = true := by
          unfold bitN at z
          cases e : s.testBit k with
          | true => rfl
          | false => rw [e] at z; simp at z
        have xb := hb k (by omega) b1
        rw [hp2, Int.toNat_natCast] at xb
        refine ⟨by omega, ?_⟩
        rw [xb]
        refine ih (k + 1) _ _ (by omega) rfl (fun c hc => ?_)
        by_cases e : c = p
        · subst e; rw [ua_s, if_pos]; rw [ie, b1, hp2]; simp
        · rw [ua_n e, h1 c hc]
          have : inSet g s c (k + 1) = inSet g s c k := by
            rw [ie, b1, hp2]
            simp; intro y; omega
          rw [this]
  refine Ok_of SC_ok (by decide +kernel) rfl (Nat.le_of_ble_eq_true rfl) ?_
  show SG SC mX4_uncut _ 0 [ar 8, ar 1, ai s, au] [] _
  simp only [sX4_uncut_0, sX4_uncut_1, sX4_uncut_3, sX4_uncut_4, sX4_uncut_7, sX4_uncut_10, sX4_uncut_11, sX4_uncut_12, sX4_uncut_13, sX4_uncut_14, sX4_uncut_15, sX4_uncut_16, sX4_uncut_19, sX4_uncut_20, sX4_uncut_23, sX4_uncut_24, sX4_uncut_27, sX4_uncut_28, sX4_uncut_29, sX4_uncut_30, sX4_uncut_33, sX4_uncut_34, sX4_uncut_35, sX4_uncut_36, sX4_uncut_39, sX4_uncut_42, onI_i, onR_r, onS_s, slotA_i, slotA_b, slotA_l, slotA_r, ptk_i, ptk_b, ptk_l, aldP_s, aldP_n, uc_s, uc_n, uc_uc, ua_s, ua_n, Nat.reduceEqDiff, not_false_eq_true, true_or, or_true, true_and, and_true, implies_true, Option.some.injEq, Sum.inl.injEq, Int.toNat_natCast, true_implies, not_true_eq_false, false_implies, Int.reduceEq, Int.reduceLT, Int.reduceLE, Int.reduceNeg, Int.reduceAdd, Int.reduceSub, Int.reduceMul, Int.reduceToNat, lg_0, lg_1, lg_2, lg_3, lz_0, lz_1, lz_2, lz_3, scs_0_0, scs_0_1, scs_0_2, scs_0_3, scs_0_4, scs_0_5, scs_0_6, scs_0_7, scs_0_8, scs_0_9, scs_1_0, scs_1_1, scs_1_2, scs_1_3, scs_1_4, scs_1_5, scs_1_6, scs_1_7, scs_1_8, scs_1_9, scs_1_10, scs_1_11, scs_1_12, scs_1_13, scs_1_14, scs_1_15, scs_1_16, scs_1_17, scs_1_18, scr_2, scr_3, scs_4_0, scs_4_1, scs_5_0, scs_5_1, scs_5_2, scs_5_3, scs_5_4, scs_6_0, scs_6_1, scs_6_2, scs_6_3, scs_7_0, scs_7_1, scs_7_2, scs_7_3, scs_8_0, scs_8_1, scs_8_2, sca_9, sca_10, sca_11, sca_12, sca_13, sca_14, sca_15, sca_16, sca_17, sca_18, sca_19, sca_20, sca_21, sca_22, sca_23, sca_24, sca_25, sca_26, sca_27, sca_28, sca_29, sca_30, sca_31, sca_32, sca_33, sca_34, sca_35, sca_36, scs_37_0, scs_37_1, scs_37_2, scs_37_3, sca_38, sca_39, sca_40, scs_41_0, scs_41_1, scs_41_2, scs_41_3, sca_42, sca_43, sca_44, scs_45_0, scs_45_1, scs_45_2, scs_45_3, sca_46, sca_47, sca_48, scs_49_0, scs_49_1, scs_49_2, scs_49_3, sca_50, sca_51, sca_52, scs_53_0, scs_53_1, scs_53_2, scs_53_3, sca_54, sca_55, sca_56, scs_57_0, scs_57_1, scs_57_2, scs_57_3, sca_58, sca_59, sca_60, scs_61_0, scs_61_1, scs_61_2, scs_61_3, sca_62, sca_63, sca_64, scs_65_0, scs_65_1, scs_65_2, scs_65_3, sca_66, sca_67, sca_68, scs_69_0, scs_69_1, scs_69_2, scs_69_3, sca_70, sca_71, sca_72, sc_st0, sc_st1, sc_st2, sc_sv0, sc_sv1, sc_sv2]
  have := lp n 0 (x 14) 0 (by omega) rfl (fun c hc2 => by rw [hc c hc2]; simp [inSet])
  have e : updC x 14 (x 14) = x := by
    funext q
    by_cases e : q = 14
    · subst e; rfl
    · rw [uc_n e]
  rw [e] at this
  exact this
theorem o_bits {x : AH} {s : Nat} (hs : s < 64) : Ok SC mJ6_bitCount_0f7a4 [ai s] x (fun r h2 => r = some (ai (pop6 s)) ∧ h2 = x) := by
  refine Ok_of SC_ok (by decide +kernel) rfl (Nat.le_of_ble_eq_true rfl) ?_
  show SG SC mJ6_bitCount_0f7a4 _ 0 [ai s] [] _
  simp only [sJ6_bitCount_0f7a4_0, sJ6_bitCount_0f7a4_1, sJ6_bitCount_0f7a4_2, sJ6_bitCount_0f7a4_3, sJ6_bitCount_0f7a4_4, sJ6_bitCount_0f7a4_7, sJ6_bitCount_0f7a4_8, sJ6_bitCount_0f7a4_9, sJ6_bitCount_0f7a4_10, sJ6_bitCount_0f7a4_11, sJ6_bitCount_0f7a4_14, sJ6_bitCount_0f7a4_15, sJ6_bitCount_0f7a4_16, sJ6_bitCount_0f7a4_17, sJ6_bitCount_0f7a4_18, sJ6_bitCount_0f7a4_21, sJ6_bitCount_0f7a4_22, sJ6_bitCount_0f7a4_23, sJ6_bitCount_0f7a4_24, sJ6_bitCount_0f7a4_25, sJ6_bitCount_0f7a4_26, sJ6_bitCount_0f7a4_27, sJ6_bitCount_0f7a4_28, sJ6_bitCount_0f7a4_29, sJ6_bitCount_0f7a4_32, sJ6_bitCount_0f7a4_33, sJ6_bitCount_0f7a4_34, sJ6_bitCount_0f7a4_35, sJ6_bitCount_0f7a4_36, sJ6_bitCount_0f7a4_38, sJ6_bitCount_0f7a4_39, sJ6_bitCount_0f7a4_40, sJ6_bitCount_0f7a4_41, sJ6_bitCount_0f7a4_42, sJ6_bitCount_0f7a4_43, sJ6_bitCount_0f7a4_45, sJ6_bitCount_0f7a4_46, sJ6_bitCount_0f7a4_47, sJ6_bitCount_0f7a4_48, sJ6_bitCount_0f7a4_49, sJ6_bitCount_0f7a4_51, sJ6_bitCount_0f7a4_52, onI_i, onR_r, onS_s, slotA_i, slotA_b, slotA_l, slotA_r, ptk_i, ptk_b, ptk_l, aldP_s, aldP_n, uc_s, uc_n, uc_uc, ua_s, ua_n, Nat.reduceEqDiff, not_false_eq_true, true_or, or_true, true_and, and_true, implies_true, Option.some.injEq, Sum.inl.injEq, Int.toNat_natCast, true_implies, not_true_eq_false, false_implies, Int.reduceEq, Int.reduceLT, Int.reduceLE, Int.reduceNeg, Int.reduceAdd, Int.reduceSub, Int.reduceMul, Int.reduceToNat, lg_0, lz_0, scs_0_0, scs_0_1, scs_0_2, scs_0_3, scs_0_4, scs_0_5, scs_0_6, scs_0_7, scs_0_8, scs_0_9, scs_1_0, scs_1_1, scs_1_2, scs_1_3, scs_1_4, scs_1_5, scs_1_6, scs_1_7, scs_1_8, scs_1_9, scs_1_10, scs_1_11, scs_1_12, scs_1_13, scs_1_14, scs_1_15, scs_1_16, scs_1_17, scs_1_18, scr_2, scr_3, scs_4_0, scs_4_1, scs_5_0, scs_5_1, scs_5_2, scs_5_3, scs_5_4, scs_6_0, scs_6_1, scs_6_2, scs_6_3, scs_7_0, scs_7_1, scs_7_2, scs_7_3, scs_8_0, scs_8_1, scs_8_2, sca_9, sca_10, sca_11, sca_12, sca_13, sca_14, sca_15, sca_16, sca_17, sca_18, sca_19, sca_20, sca_21, sca_22, sca_23, sca_24, sca_25, sca_26, sca_27, sca_28, sca_29, sca_30, sca_31, sca_32, sca_33, sca_34, sca_35, sca_36, scs_37_0, scs_37_1, scs_37_2, scs_37_3, sca_38, sca_39, sca_40, scs_41_0, scs_41_1, scs_41_2, scs_41_3, sca_42, sca_43, sca_44, scs_45_0, scs_45_1, scs_45_2, scs_45_3, sca_46, sca_47, sca_48, scs_49_0, scs_49_1, scs_49_2, scs_49_3, sca_50, sca_51, sca_52, scs_53_0, scs_53_1, scs_53_2, scs_53_3, sca_54, sca_55, sca_56, scs_57_0, scs_57_1, scs_57_2, scs_57_3, sca_58, sca_59, sca_60, scs_61_0, scs_61_1, scs_61_2, scs_61_3, sca_62, sca_63, sca_64, scs_65_0, scs_65_1, scs_65_2, scs_65_3, sca_66, sca_67, sca_68, scs_69_0, scs_69_1, scs_69_2, scs_69_3, sca_70, sca_71, sca_72, sc_st0, sc_st1, sc_st2, sc_sv0, sc_sv1, sc_sv2]
  clear x
  revert s
  decide +kernel
