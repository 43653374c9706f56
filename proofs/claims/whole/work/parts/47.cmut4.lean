theorem gi_maybe {g : AH} (hg : gi g) (c : Int) : gi (n_maybe g c) := by
  unfold n_maybe
  split
  next q =>
    have a := hg.2.2.2.2.2.2.2.2.2.2.2.2.1
    have q2 := q.2.2.1
    have q4 := q.2.2.2
    have nm : ∀ j : Nat, (j : Int) < g 0 7 → ¬ g 22 j = c := by
      intro j hj e
      have := (inMay_s (g := g) (c := c) (g 0 7).toNat).mpr ⟨j, by omega, e⟩
      rw [q4] at this
      exact absurd this (by decide)
    refine ⟨hg.1, hg.2.1, hg.2.2.1, hg.2.2.2.1, hg.2.2.2.2.1, hg.2.2.2.2.2.1, hg.2.2.2.2.2.2.1, hg.2.2.2.2.2.2.2.1, hg.2.2.2.2.2.2.2.2.1, hg.2.2.2.2.2.2.2.2.2.1, hg.2.2.2.2.2.2.2.2.2.2.1, hg.2.2.2.2.2.2.2.2.2.2.2.1, ?_, fun k hk => ?_⟩
    · show 0 ≤ g 0 7 + 1 ∧ g 0 7 + 1 ≤ 6
      omega
    · have hk2 : (k : Int) < g 0 7 + 1 := hk
      show (0 ≤ updA (g 22) (g 0 7).toNat c k ∧ updA (g 22) (g 0 7).toNat c k < g 0 0 * g 0 1) ∧ ∀ j, j < k → updA (g 22) (g 0 7).toNat c j ≠ updA (g 22) (g 0 7).toNat c k
      by_cases e : k = (g 0 7).toNat
      · subst e
        rw [ua_s]
        refine ⟨q.1, fun j hj => ?_⟩
        rw [ua_n (by omega)]
        exact nm j (by omega)
      · have := hg.2.2.2.2.2.2.2.2.2.2.2.2.2 k (by omega)
        rw [ua_n e]
        refine ⟨this.1, fun j hj => ?_⟩
        rw [ua_n (by omega)]
        exact this.2 j hj
  next => exact hg
theorem q_maybe {x g : AH} (hg : gi g) (hR : RelC x g) {c : Int} (hc : inR c) : Ok SC mX8_maybe [ar 0, ai c] x (fun r h2 => r = some (ai (b01 (mayP g c))) ∧ RelC h2 (n_maybe g c)) := by
  have hn := gi_n hg
  have hG := hR.1.1
  have hO := hR.1.2.2.2
  have g7 := hg.2.2.2.2.2.2.2.2.2.2.2.2.1
  obtain ⟨n, hnn⟩ : ∃ z : Nat, g 0 7 = z := ⟨(g 0 7).toNat, by omega⟩
  have en : (g 0 7).toNat = n := by omega
  obtain ⟨m1, m2, m3, m4⟩ := may_of hg hO hnn
  have no : ¬ mayP g c → b01 (mayP g c) = 0 ∧ n_maybe g c = g := fun z => ⟨b01_f z, if_neg z⟩
  refine Ok_of SC_ok (by decide +kernel) rfl (Nat.le_of_ble_eq_true rfl) ?_
  show SG SC mX8_maybe _ 0 [ar 0, ai c] [] _
  simp only [sX8_maybe_0, sX8_maybe_1, sX8_maybe_4, sX8_maybe_8, sX8_maybe_11, sX8_maybe_12, sX8_maybe_15, sX8_maybe_18, sX8_maybe_19, sX8_maybe_20, sX8_maybe_23, sX8_maybe_24, sX8_maybe_27, sX8_maybe_31, sX8_maybe_34, sX8_maybe_35, sX8_maybe_38, sX8_maybe_39, onI_i, onR_r, onS_s, slotA_i, slotA_b, slotA_l, slotA_r, ptk_i, ptk_b, ptk_l, aldP_s, aldP_n, uc_s, uc_n, uc_uc, ua_s, ua_n, Nat.reduceEqDiff, not_false_eq_true, true_or, or_true, true_and, and_true, implies_true, Option.some.injEq, Sum.inl.injEq, Int.toNat_natCast, true_implies, not_true_eq_false, false_implies, Int.reduceEq, Int.reduceLT, Int.reduceLE, Int.reduceNeg, Int.reduceAdd, Int.reduceSub, Int.reduceMul, Int.reduceToNat, lg_0, lg_1, lz_0, lz_1, scs_0_0, scs_0_1, scs_0_2, scs_0_3, scs_0_4, scs_0_5, scs_0_6, scs_0_7, scs_0_8, scs_0_9, scs_1_0, scs_1_1, scs_1_2, scs_1_3, scs_1_4, scs_1_5, scs_1_6, scs_1_7, scs_1_8, scs_1_9, scs_1_10, scs_1_11, scs_1_12, scs_1_13, scs_1_14, scs_1_15, scs_1_16, scs_1_17, scs_1_18, scr_2, scr_3, scs_4_0, scs_4_1, scs_5_0, scs_5_1, scs_5_2, scs_5_3, scs_5_4, scs_6_0, scs_6_1, scs_6_2, scs_6_3, scs_7_0, scs_7_1, scs_7_2, scs_7_3, scs_8_0, scs_8_1, scs_8_2, sca_9, sca_10, sca_11, sca_12, sca_13, sca_14, sca_15, sca_16, sca_17, sca_18, sca_19, sca_20, sca_21, sca_22, sca_23, sca_24, sca_25, sca_26, sca_27, sca_28, sca_29, sca_30, sca_31, sca_32, sca_33, sca_34, sca_35, sca_36, scs_37_0, scs_37_1, scs_37_2, scs_37_3, sca_38, sca_39, sca_40, scs_41_0, scs_41_1, scs_41_2, scs_41_3, sca_42, sca_43, sca_44, scs_45_0, scs_45_1, scs_45_2, scs_45_3, sca_46, sca_47, sca_48, scs_49_0, scs_49_1, scs_49_2, scs_49_3, sca_50, sca_51, sca_52, scs_53_0, scs_53_1, scs_53_2, scs_53_3, sca_54, sca_55, sca_56, scs_57_0, scs_57_1, scs_57_2, scs_57_3, sca_58, sca_59, sca_60, scs_61_0, scs_61_1, scs_61_2, scs_61_3, sca_62, sca_63, sca_64, scs_65_0, scs_65_1, scs_65_2, scs_65_3, sca_66, sca_67, sca_68, scs_69_0, scs_69_1, scs_69_2, scs_69_3, sca_70, sca_71, sca_72, sc_st0, sc_st1, sc_st2, sc_sv0, sc_sv1, sc_sv2]
  by_cases c1 : cellP g c
  · refine vX8_maybe_5 (Nat.le_of_ble_eq_true rfl) rfl (o_hT hg hG hc c1) ?_
    have x9 := (hG.2.2.2.2.1 c.toNat (by omega)).1
    have gc := (hg.2.1 c.toNat (by omega)).1
    simp only [sX8_maybe_0, sX8_maybe_1, sX8_maybe_4, sX8_maybe_8, sX8_maybe_11, sX8_maybe_12, sX8_maybe_15, sX8_maybe_18, sX8_maybe_19, sX8_maybe_20, sX8_maybe_23, sX8_maybe_24, sX8_maybe_27, sX8_maybe_31, sX8_maybe_34, sX8_maybe_35, sX8_maybe_38, sX8_maybe_39, onI_i, onR_r, onS_s, slotA_i, slotA_b, slotA_l, slotA_r, ptk_i, ptk_b, ptk_l, aldP_s, aldP_n, uc_s, uc_n, uc_uc, ua_s, ua_n, Nat.reduceEqDiff, not_false_eq_true, true_or, or_true, true_and, and_true, implies_true, Option.some.injEq, Sum.inl.injEq, Int.toNat_natCast, true_implies, not_true_eq_false, false_implies, Int.reduceEq, Int.reduceLT, Int.reduceLE, Int.reduceNeg, Int.reduceAdd, Int.reduceSub, Int.reduceMul, Int.reduceToNat, lg_0, lg_1, lz_0, lz_1, scs_0_0, scs_0_1, scs_0_2, scs_0_3, scs_0_4, scs_0_5, scs_0_6, scs_0_7, scs_0_8, scs_0_9, scs_1_0, scs_1_1, scs_1_2, scs_1_3, scs_1_4, scs_1_5, scs_1_6, scs_1_7, scs_1_8, scs_1_9, scs_1_10, scs_1_11, scs_1_12, scs_1_13, scs_1_14, scs_1_15, scs_1_16, scs_1_17, scs_1_18, scr_2, scr_3, scs_4_0, scs_4_1, scs_5_0, scs_5_1, scs_5_2, scs_5_3, scs_5_4, scs_6_0, scs_6_1, scs_6_2, scs_6_3, scs_7_0, scs_7_1, scs_7_2, scs_7_3, scs_8_0, scs_8_1, scs_8_2, sca_9, sca_10, sca_11, sca_12, sca_13, sca_14, sca_15, sca_16, sca_17, sca_18, sca_19, sca_20, sca_21, sca_22, sca_23, sca_24, sca_25, sca_26, sca_27, sca_28, sca_29, sca_30, sca_31, sca_32, sca_33, sca_34, sca_35, sca_36, scs_37_0, scs_37_1, scs_37_2, scs_37_3, sca_38, sca_39, sca_40, scs_41_0, scs_41_1, scs_41_2, scs_41_3, sca_42, sca_43, sca_44, scs_45_0, scs_45_1, scs_45_2, scs_45_3, sca_46, sca_47, sca_48, scs_49_0, scs_49_1, scs_49_2, scs_49_3, sca_50, sca_51, sca_52, scs_53_0, scs_53_1, scs_53_2, scs_53_3, sca_54, sca_55, sca_56, scs_57_0, scs_57_1, scs_57_2, scs_57_3, sca_58, sca_59, sca_60, scs_61_0, scs_61_1, scs_61_2, scs_61_3, sca_62, sca_63, sca_64, scs_65_0, scs_65_1, scs_65_2, scs_65_3, sca_66, sca_67, sca_68, scs_69_0, scs_69_1, scs_69_2, scs_69_3, sca_70, sca_71, sca_72, sc_st0, sc_st1, sc_st2, sc_sv0, sc_sv1, sc_sv2, x9]
    refine ⟨by omega, by omega, by omega, fun z => ?_, fun z => ?_⟩
    · obtain ⟨n1, n2⟩ := no (fun y => by have := y.2.1; omega)
      rw [n1, n2]; exact ⟨rfl, hR⟩
    · by_cases c6 : n = 6
      · refine vX8_maybe_28 (Nat.le_of_ble_eq_true rfl) rfl (o_may6 (by rw [m1, c6]; rfl)) ?_
        simp only [sX8_maybe_0, sX8_maybe_1, sX8_maybe_4, sX8_maybe_8, sX8_maybe_11, sX8_maybe_12, sX8_maybe_15, sX8_maybe_18, sX8_maybe_19, sX8_maybe_20, sX8_maybe_23, sX8_maybe_24, sX8_maybe_27, sX8_maybe_31, sX8_maybe_34, sX8_maybe_35, sX8_maybe_38, sX8_maybe_39, onI_i, onR_r, onS_s, slotA_i, slotA_b, slotA_l, slotA_r, ptk_i, ptk_b, ptk_l, aldP_s, aldP_n, uc_s, uc_n, uc_uc, ua_s, ua_n, Nat.reduceEqDiff, not_false_eq_true, true_or, or_true, true_and, and_true, implies_true, Option.some.injEq, Sum.inl.injEq, Int.toNat_natCast, true_implies, not_true_eq_false, false_implies, Int.reduceEq, Int.reduceLT, Int.reduceLE, Int.reduceNeg, Int.reduceAdd, Int.reduceSub, Int.reduceMul, Int.reduceToNat, lg_0, lg_1, lz_0, lz_1, scs_0_0, scs_0_1, scs_0_2, scs_0_3, scs_0_4, scs_0_5, scs_0_6, scs_0_7, scs_0_8, scs_0_9, scs_1_0, scs_1_1, scs_1_2, scs_1_3, scs_1_4, scs_1_5, scs_1_6, scs_1_7, scs_1_8, scs_1_9, scs_1_10, scs_1_11, scs_1_12, scs_1_13, scs_1_14, scs_1_15, scs_1_16, scs_1_17, scs_1_18, scr_2, scr_3, scs_4_0, scs_4_1, scs_5_0, scs_5_1, scs_5_2, scs_5_3, scs_5_4, scs_6_0, scs_6_1, scs_6_2, scs_6_3, scs_7_0, scs_7_1, scs_7_2, scs_7_3, scs_8_0, scs_8_1, scs_8_2, sca_9, sca_10, sca_11, sca_12, sca_13, sca_14, sca_15, sca_16, sca_17, sca_18, sca_19, sca_20, sca_21, sca_22, sca_23, sca_24, sca_25, sca_26, sca_27, sca_28, sca_29, sca_30, sca_31, sca_32, sca_33, sca_34, sca_35, sca_36, scs_37_0, scs_37_1, scs_37_2, scs_37_3, sca_38, sca_39, sca_40, scs_41_0, scs_41_1, scs_41_2, scs_41_3, sca_42, sca_43, sca_44, scs_45_0, scs_45_1, scs_45_2, scs_45_3, sca_46, sca_47, sca_48, scs_49_0, scs_49_1, scs_49_2, scs_49_3, sca_50, sca_51, sca_52, scs_53_0, scs_53_1, scs_53_2, scs_53_3, sca_54, sca_55, sca_56, scs_57_0, scs_57_1, scs_57_2, scs_57_3, sca_58, sca_59, sca_60, scs_61_0, scs_61_1, scs_61_2, scs_61_3, sca_62, sca_63, sca_64, scs_65_0, scs_65_1, scs_65_2, scs_65_3, sca_66, sca_67, sca_68, scs_69_0, scs_69_1, scs_69_2, scs_69_3, sca_70, sca_71, sca_72, sc_st0, sc_st1, sc_st2, sc_sv0, sc_sv1, sc_sv2]
        obtain ⟨n1, n2⟩ := no (fun y => y.2.2.1 (by omega))
        rw [n1, n2]; exact ⟨by omega, rfl, hR⟩
      · refine vX8_maybe_28 (Nat.le_of_ble_eq_true rfl) rfl (o_mayAppend (g := g) m1 (by omega) (fun k hk => ⟨(m3 k hk).1, by have := (m3 k hk).2; omega⟩) hc) ?_
        by_cases c3 : n < 6 ∧ inMay g c n = false
        · have q : mayP g c := ⟨c1, by omega, by omega, by rw [en]; exact c3.2⟩
          rw [if_pos c3, if_pos c3]
          simp only [sX8_maybe_0, sX8_maybe_1, sX8_maybe_4, sX8_maybe_8, sX8_maybe_11, sX8_maybe_12, sX8_maybe_15, sX8_maybe_18, sX8_maybe_19, sX8_maybe_20, sX8_maybe_23, sX8_maybe_24, sX8_maybe_27, sX8_maybe_31, sX8_maybe_34, sX8_maybe_35, sX8_maybe_38, sX8_maybe_39, onI_i, onR_r, onS_s, slotA_i, slotA_b, slotA_l, slotA_r, ptk_i, ptk_b, ptk_l, aldP_s, aldP_n, uc_s, uc_n, uc_uc, ua_s, ua_n, Nat.reduceEqDiff, not_false_eq_true, true_or, or_true, true_and, and_true, implies_true, Option.some.injEq, Sum.inl.injEq, Int.toNat_natCast, true_implies, not_true_eq_false, false_implies, Int.reduceEq, Int.reduceLT, Int.reduceLE, Int.reduceNeg, Int.reduceAdd, Int.reduceSub, Int.reduceMul, Int.reduceToNat, lg_0, lg_1, lz_0, lz_1, scs_0_0, scs_0_1, scs_0_2, scs_0_3, scs_0_4, scs_0_5, scs_0_6, scs_0_7, scs_0_8, scs_0_9, scs_1_0, scs_1_1, scs_1_2, scs_1_3, scs_1_4, scs_1_5, scs_1_6, scs_1_7, scs_1_8, scs_1_9, scs_1_10, scs_1_11, scs_1_12, scs_1_13, scs_1_14, scs_1_15, scs_1_16, scs_1_17, scs_1_18, scr_2, scr_3, scs_4_0, scs_4_1, scs_5_0, scs_5_1, scs_5_2, scs_5_3, scs_5_4, scs_6_0, scs_6_1, scs_6_2, scs_6_3, scs_7_0, scs_7_1, scs_7_2, scs_7_3, scs_8_0, scs_8_1, scs_8_2, sca_9, sca_10, sca_11, sca_12, sca_13, sca_14, sca_15, sca_16, sca_17, sca_18, sca_19, sca_20, sca_21, sca_22, sca_23, sca_24, sca_25, sca_26, sca_27, sca_28, sca_29, sca_30, sca_31, sca_32, sca_33, sca_34, sca_35, sca_36, scs_37_0, scs_37_1, scs_37_2, scs_37_3, sca_38, sca_39, sca_40, scs_41_0, scs_41_1, scs_41_2, scs_41_3, sca_42, sca_43, sca_44, scs_45_0, scs_45_1, scs_45_2, scs_45_3, sca_46, sca_47, sca_48, scs_49_0, scs_49_1, scs_49_2, scs_49_3, sca_50, sca_51, sca_52, scs_53_0, scs_53_1, scs_53_2, scs_53_3, sca_54, sca_55, sca_56, scs_57_0, scs_57_1, scs_57_2, scs_57_3, sca_58, sca_59, sca_60, scs_61_0, scs_61_1, scs_61_2, scs_61_3, sca_62, sca_63, sca_64, scs_65_0, scs_65_1, scs_65_2, scs_65_3, sca_66, sca_67, sca_68, scs_69_0, scs_69_1, scs_69_2, scs_69_3, sca_70, sca_71, sca_72, sc_st0, sc_st1, sc_st2, sc_sv0, sc_sv1, sc_sv2]
          rw [b01_t q]
          unfold n_maybe
          rw [if_pos q, hnn, Int.toNat_natCast]
          refine ⟨by omega, rfl, ⟨⟨hG.1, hG.2.1, hG.2.2.1, hG.2.2.2.1, hG.2.2.2.2.1, hG.2.2.2.2.2.1, hG.2.2.2.2.2.2⟩, rD_g hR.1.2.1 rfl rfl rfl rfl rfl rfl rfl rfl, rW_g hg hR.1.2.2.1 (fun k _ _ => by rw [uc_n (by omega), uc_n (by omega)]) rfl rfl rfl rfl rfl, ⟨hO.1, hO.2.1, hO.2.2.1, hO.2.2.2.1, hO.2.2.2.2.1, rfl, fun k hk => ?_⟩⟩, hR.2.1, rF_k hR.2.2 (fun k _ _ => by rw [uc_n (by omega), uc_n (by omega)]) (fun j hj => by rw [uc_s, ua_n (by omega)]) rfl rfl rfl rfl rfl rfl rfl rfl rfl rfl rfl rfl⟩
          have hk2 : (k : Int) < (n : Int) + 1 := hk
          show updA (x 35) n c k = updA (g 22) n c k
          by_cases e : k = n
          · subst e; rw [ua_s, ua_s]
          · rw [ua_n e, ua_n e]; exact (m3 k (by omega)).1
        · rw [if_neg c3, if_neg c3]
          simp only [sX8_maybe_0, sX8_maybe_1, sX8_maybe_4, sX8_maybe_8, sX8_maybe_11, sX8_maybe_12, sX8_maybe_15, sX8_maybe_18, sX8_maybe_19, sX8_maybe_20, sX8_maybe_23, sX8_maybe_24, sX8_maybe_27, sX8_maybe_31, sX8_maybe_34, sX8_maybe_35, sX8_maybe_38, sX8_maybe_39, onI_i, onR_r, onS_s, slotA_i, slotA_b, slotA_l, slotA_r, ptk_i, ptk_b, ptk_l, aldP_s, aldP_n, uc_s, uc_n, uc_uc, ua_s, ua_n, Nat.reduceEqDiff, not_false_eq_true, true_or, or_true, true_and, and_true, implies_true, Option.some.injEq, Sum.inl.injEq, Int.toNat_natCast, true_implies, not_true_eq_false, false_implies, Int.reduceEq, Int.reduceLT, Int.reduceLE, Int.reduceNeg, Int.reduceAdd, Int.reduceSub, Int.reduceMul, Int.reduceToNat, lg_0, lg_1, lz_0, lz_1, scs_0_0, scs_0_1, scs_0_2, scs_0_3, scs_0_4, scs_0_5, scs_0_6, scs_0_7, scs_0_8, scs_0_9, scs_1_0, scs_1_1, scs_1_2, scs_1_3, scs_1_4, scs_1_5, scs_1_6, scs_1_7, scs_1_8, scs_1_9, scs_1_10, scs_1_11, scs_1_12, scs_1_13, scs_1_14, scs_1_15, scs_1_16, scs_1_17, scs_1_18, scr_2, scr_3, scs_4_0, scs_4_1, scs_5_0, scs_5_1, scs_5_2, scs_5_3, scs_5_4, scs_6_0, scs_6_1, scs_6_2, scs_6_3, scs_7_0, scs_7_1, scs_7_2, scs_7_3, scs_8_0, scs_8_1, scs_8_2, sca_9, sca_10, sca_11, sca_12, sca_13, sca_14, sca_15, sca_16, sca_17, sca_18, sca_19, sca_20, sca_21, sca_22, sca_23, sca_24, sca_25, sca_26, sca_27, sca_28, sca_29, sca_30, sca_31, sca_32, sca_33, sca_34, sca_35, sca_36, scs_37_0, scs_37_1, scs_37_2, scs_37_3, sca_38, sca_39, sca_40, scs_41_0, scs_41_1, scs_41_2, scs_41_3, sca_42, sca_43, sca_44, scs_45_0, scs_45_1, scs_45_2, scs_45_3, sca_46, sca_47, sca_48, scs_49_0, scs_49_1, scs_49_2, scs_49_3, sca_50, sca_51, sca_52, scs_53_0, scs_53_1, scs_53_2, scs_53_3, sca_54, sca_55, sca_56, scs_57_0, scs_57_1, scs_57_2, scs_57_3, sca_58, sca_59, sca_60, scs_61_0, scs_61_1, scs_61_2, scs_61_3, sca_62, sca_63, sca_64, scs_65_0, scs_65_1, scs_65_2, scs_65_3, sca_66, sca_67, sca_68, scs_69_0, scs_69_1, scs_69_2, scs_69_3, sca_70, sca_71, sca_72, sc_st0, sc_st1, sc_st2, sc_sv0, sc_sv1, sc_sv2]
          obtain ⟨n1, n2⟩ := no (fun y => c3 ⟨by omega, by rw [← en]; exact y.2.2.2⟩)
          rw [n1, n2]; exact ⟨by omega, rfl, hR⟩
  · refine vX8_maybe_5 (Nat.le_of_ble_eq_true rfl) rfl (o_hF hg hG hc c1) ?_
    simp only [sX8_maybe_0, sX8_maybe_1, sX8_maybe_4, sX8_maybe_8, sX8_maybe_11, sX8_maybe_12, sX8_maybe_15, sX8_maybe_18, sX8_maybe_19, sX8_maybe_20, sX8_maybe_23, sX8_maybe_24, sX8_maybe_27, sX8_maybe_31, sX8_maybe_34, sX8_maybe_35, sX8_maybe_38, sX8_maybe_39, onI_i, onR_r, onS_s, slotA_i, slotA_b, slotA_l, slotA_r, ptk_i, ptk_b, ptk_l, aldP_s, aldP_n, uc_s, uc_n, uc_uc, ua_s, ua_n, Nat.reduceEqDiff, not_false_eq_true, true_or, or_true, true_and, and_true, implies_true, Option.some.injEq, Sum.inl.injEq, Int.toNat_natCast, true_implies, not_true_eq_false, false_implies, Int.reduceEq, Int.reduceLT, Int.reduceLE, Int.reduceNeg, Int.reduceAdd, Int.reduceSub, Int.reduceMul, Int.reduceToNat, lg_0, lg_1, lz_0, lz_1, scs_0_0, scs_0_1, scs_0_2, scs_0_3, scs_0_4, scs_0_5, scs_0_6, scs_0_7, scs_0_8, scs_0_9, scs_1_0, scs_1_1, scs_1_2, scs_1_3, scs_1_4, scs_1_5, scs_1_6, scs_1_7, scs_1_8, scs_1_9, scs_1_10, scs_1_11, scs_1_12, scs_1_13, scs_1_14, scs_1_15, scs_1_16, scs_1_17, scs_1_18, scr_2, scr_3, scs_4_0, scs_4_1, scs_5_0, scs_5_1, scs_5_2, scs_5_3, scs_5_4, scs_6_0, scs_6_1, scs_6_2, scs_6_3, scs_7_0, scs_7_1, scs_7_2, scs_7_3, scs_8_0, scs_8_1, scs_8_2, sca_9, sca_10, sca_11, sca_12, sca_13, sca_14, sca_15, sca_16, sca_17, sca_18, sca_19, sca_20, sca_21, sca_22, sca_23, sca_24, sca_25, sca_26, sca_27, sca_28, sca_29, sca_30, sca_31, sca_32, sca_33, sca_34, sca_35, sca_36, scs_37_0, scs_37_1, scs_37_2, scs_37_3, sca_38, sca_39, sca_40, scs_41_0, scs_41_1, scs_41_2, scs_41_3, sca_42, sca_43, sca_44, scs_45_0, scs_45_1, scs_45_2, scs_45_3, sca_46, sca_47, sca_48, scs_49_0, scs_49_1, scs_49_2, scs_49_3, sca_50, sca_51, sca_52, scs_53_0, scs_53_1, scs_53_2, scs_53_3, sca_54, sca_55, sca_56, scs_57_0, scs_57_1, scs_57_2, scs_57_3, sca_58, sca_59, sca_60, scs_61_0, scs_61_1, scs_61_2, scs_61_3, sca_62, sca_63, sca_64, scs_65_0, scs_65_1, scs_65_2, scs_65_3, sca_66, sca_67, sca_68, scs_69_0, scs_69_1, scs_69_2, scs_69_3, sca_70, sca_71, sca_72, sc_st0, sc_st1, sc_st2, sc_sv0, sc_sv1, sc_sv2]
    obtain ⟨n1, n2⟩ := no (fun z => c1 z.1)
    rw [n1, n2]; exact ⟨by omega, rfl, hR⟩
/-- a wind told, in plain numbers -/
def nW (g : AH) (w n : Nat) (m t f : Int) : AH := updC (updC (updC (updC g 11 (updA (g 11) (8 * w + n) m)) 12 (updA (g 12) (8 * w + n) t)) 13 (updA (g 13) (8 * w + n) f)) 10 (updA (g 10) w ((n : Int) + 1))
theorem nW_e {g : AH} {w n : Nat} {m t f : Int} (h : g 10 w = n) (q : windP g w m t f) : n_wind g w m t f = nW g w n m t f := by
  unfold n_wind nW
  rw [if_pos q, Int.toNat_natCast, h]
  rw [show (8 * (w : Int) + (n : Int)).toNat = 8 * w + n by omega]
theorem gi_nW {g : AH} (hg : gi g) {w n : Nat} (hw : w < 4) {m t f : Int} (h : g 10 w = n) (h8 : n < 8) (hm : minP m) (ht : 0 ≤ t ∧ t ≤ 7) (hf : 0 ≤ f ∧ f ≤ 9) (hl : ∀ j, j < n → g 11 (8 * w + j) < m) : gi (nW g w n m t f) := by
  refine ⟨hg.1, hg.2.1, hg.2.2.1, fun v hv => ?_, fun v k hv hk => ?_, hg.2.2.2.2.2⟩
  · show 0 ≤ updA (g 10) w ((n : Int) + 1) v ∧ updA (g 10) w ((n : Int) + 1) v ≤ 8
    by_cases e : v = w
    · subst e; rw [ua_s]; omega
    · rw [ua_n e]; exact hg.2.2.2.1 v hv
  · have hk2 : (k : Int) < updA (g 10) w ((n : Int) + 1) v := hk
    have r10 := hg.2.2.2.1 v hv
    show (0 ≤ updA (g 11) (8 * w + n) m (8 * v + k) ∧ updA (g 11) (8 * w + n) m (8 * v + k) ≤ 5000) ∧ (0 ≤ updA (g 12) (8 * w + n) t (8 * v + k) ∧ updA (g 12) (8 * w + n) t (8 * v + k) ≤ 7) ∧ (0 ≤ updA (g 13) (8 * w + n) f (8 * v + k) ∧ updA (g 13) (8 * w + n) f (8 * v + k) ≤ 9) ∧ ∀ j, j < k → updA (g 11) (8 * w + n) m (8 * v + j) < updA (g 11) (8 * w + n) m (8 * v + k)
    by_cases e : v = w
    · subst e
      rw [ua_s] at hk2
      by_cases e2 : k = n
      · subst e2
        rw [ua_s, ua_s, ua_s]
        refine ⟨hm, ht, hf, fun j hj => ?_⟩
        rw [ua_n (by omega)]
        exact hl j hj
      · rw [ua_n (by omega), ua_n (by omega), ua_n (by omega)]
        have := hg.2.2.2.2.1 v k hv (by omega)
        refine ⟨this.1, this.2.1, this.2.2.1, fun j hj => ?_⟩
        rw [ua_n (by omega)]
        exact this.2.2.2 j hj
    · rw [ua_n e] at hk2
      rw [ua_n (by omega), ua_n (by omega), ua_n (by omega)]
      have := hg.2.2.2.2.1 v k hv hk2
      refine ⟨this.1, this.2.1, this.2.2.1, fun j hj => ?_⟩
      rw [ua_n (by omega)]
      exact this.2.2.2 j hj
theorem wind_l {g : AH} (hg : gi g) {w n : Nat} (hw : w < 4) {m : Int} (h : g 10 w = n) (hl : (n : Int) ≤ 0 ∨ g 11 (8 * w + n - 1) < m) : ∀ j, j < n → g 11 (8 * w + j) < m := by
  intro j hj
  have q : g 11 (8 * w + n - 1) < m := by
    rcases hl with y | y
    · omega
    · exact y
  by_cases e : j = n - 1
  · subst e; rw [show 8 * w + (n - 1) = 8 * w + n - 1 by omega]; exact q
  · have := (hg.2.2.2.2.1 w (n - 1) hw (by omega)).2.2.2 j (by omega)
    rw [show 8 * w + (n - 1) = 8 * w + n - 1 by omega] at this
    omega
theorem gi_wind {g : AH} (hg : gi g) (w m t f : Int) : gi (n_wind g w m t f) := by
  by_cases q : windP g w m t f
  · obtain ⟨q1, q2, q3, q4, q5, q6⟩ := q
    have g2 := hg.2.2.1
    obtain ⟨v, rfl⟩ : ∃ z : Nat, w = z := ⟨w.toNat, by omega⟩
    rw [Int.toNat_natCast] at q5 q6
    have r10 := hg.2.2.2.1 v (by omega)
    obtain ⟨n, hn⟩ : ∃ z : Nat, g 10 v = z := ⟨(g 10 v).toNat, by omega⟩
    rw [nW_e hn ⟨q1, q2, q3, q4, by rw [Int.toNat_natCast]; exact q5, by rw [Int.toNat_natCast]; exact q6⟩]
    rw [hn] at q5 q6
    refine gi_nW hg (by omega) hn (by omega) q2 q3 q4 (wind_l hg (by omega) hn ?_)
    rcases q6 with y | y
    · exact Or.inl y
    · right
      rw [show (8 * (v : Int) + (n : Int) - 1).toNat = 8 * v + n - 1 by omega] at y
      exact y
  · unfold n_wind; rw [if_neg q]; exact hg
/-- ground and the told lists, when only winds and fires change -/
theorem rG_l {x y g : AH} (e : ∀ k, k < 37 → y k = x k) (h : rG x g) : rG y g := by
  unfold rG at *
  simp only [e 0 (by omega), e 1 (by omega), e 9 (by omega), e 10 (by omega), e 11 (by omega), e 12 (by omega), e 13 (by omega), e 15 (by omega), e 16 (by omega), e 17 (by omega), e 18 (by omega), e 19 (by omega)]
  exact h
theorem rO_l {x y g : AH} (e : ∀ k, k < 37 → y k = x k) (h : rO x g) : rO y g := by
  unfold rO at *
  simp only [e 5 (by omega), e 6 (by omega), e 8 (by omega), e 26 (by omega), e 27 (by omega), e 28 (by omega), e 29 (by omega), e 30 (by omega), e 31 (by omega), e 35 (by omega)]
  exact h
def yW (x : AH) (v n : Nat) (m t f : Int) : AH := updC (updC (updC (updC (updC x (38 + 4 * v) (updA (x (38 + 4 * v)) n m)) (39 + 4 * v) (updA (x (39 + 4 * v)) n t)) (40 + 4 * v) (updA (x (40 + 4 * v)) n f)) (37 + 4 * v) (updA (x (37 + 4 * v)) 0 ((n : Int) + 1))) (53 + 4 * v) (updA (x (53 + 4 * v)) 0 0)
theorem yW_o {x : AH} {v n : Nat} {m t f : Int} {k : Nat} (h1 : ¬ k = 37 + 4 * v) (h2 : ¬ k = 38 + 4 * v) (h3 : ¬ k = 39 + 4 * v) (h4 : ¬ k = 40 + 4 * v) (h5 : ¬ k = 53 + 4 * v) : yW x v n m t f k = x k := by
  unfold yW
  rw [uc_n h5, uc_n h1, uc_n h4, uc_n h3, uc_n h2]
theorem Rel_wind {x g : AH} (hg : gi g) (hR : RelC x g) {v n : Nat} (v4 : v < 4) (hv : (v : Int) < g 0 2) (hn : g 10 v = n) (h8 : n < 8) {m t f : Int} : RelC (yW x v n m t f) (nW g v n m t f) := by
  have g2 := hg.2.2.1
  have lo : ∀ k, k < 37 → yW x v n m t f k = x k := fun k hk => yW_o (by omega) (by omega) (by omega) (by omega) (by omega)
  have hG : rG (yW x v n m t f) g := rG_l lo hR.1.1
  have hO : rO (yW x v n m t f) g := rO_l lo hR.1.2.2.2
  refine ⟨⟨hG, rD_g hR.1.2.1 (by rw [lo 1 (by omega)]) (lo 20 (by omega)) (lo 21 (by omega)) (lo 22 (by omega)) (lo 23 (by omega)) rfl rfl rfl, fun w hw => ?_, hO⟩, fun c hc => ?_, fun q hq => ?_⟩
  · have hw2 : (w : Int) < g 0 2 := hw
    have h := hR.1.2.2.1 w hw2
    by_cases e : w = v
    · subst e
      unfold rW1
      have y1 : yW x w n m t f (37 + 4 * w) = updA (x (37 + 4 * w)) 0 ((n : Int) + 1) := by
        unfold yW; rw [uc_n (by omega), uc_s]
      have y2 : yW x w n m t f (38 + 4 * w) = updA (x (38 + 4 * w)) n m := by
        unfold yW; rw [uc_n (by omega), uc_n (by omega), uc_n (by omega), uc_n (by omega), uc_s]
      have y3 : yW x w n m t f (39 + 4 * w) = updA (x (39 + 4 * w)) n t := by
        unfold yW; rw [uc_n (by omega), uc_n (by omega), uc_n (by omega), uc_s]
      have y4 : yW x w n m t f (40 + 4 * w) = updA (x (40 + 4 * w)) n f := by
        unfold yW; rw [uc_n (by omega), uc_n (by omega), uc_s]
      rw [y1, y2, y3, y4, ua_s]
      show (n : Int) + 1 = updA (g 10) w ((n : Int) + 1) w ∧ ∀ k : Nat, (k : Int) < updA (g 10) w ((n : Int) + 1) w → updA (x (38 + 4 * w)) n m k = updA (g 11) (8 * w + n) m (8 * w + k) ∧ updA (x (39 + 4 * w)) n t k = updA (g 12) (8 * w + n) t (8 * w + k) ∧ updA (x (40 + 4 * w)) n f k = updA (g 13) (8 * w + n) f (8 * w + k)
      rw [ua_s]
      refine ⟨rfl, fun k hk => ?_⟩
      by_cases e2 : k = n
      · subst e2; rw [ua_s, ua_s, ua_s, ua_s, ua_s, ua_s]; exact ⟨rfl, rfl, rfl⟩
      · rw [ua_n e2, ua_n e2, ua_n e2, ua_n (by omega), ua_n (by omega), ua_n (by omega)]
        exact h.2 k (by omega)
    · have w4 : w < 4 := by omega
      have r10 := hg.2.2.2.1 w w4
      unfold rW1 at *
      rw [yW_o (by omega) (by omega) (by omega) (by omega) (by omega), yW_o (by omega) (by omega) (by omega) (by omega) (by omega), yW_o (by omega) (by omega) (by omega) (by omega) (by omega), yW_o (by omega) (by omega) (by omega) (by omega) (by omega)]
      show x (37 + 4 * w) 0 = updA (g 10) v ((n : Int) + 1) w ∧ ∀ k : Nat, (k : Int) < updA (g 10) v ((n : Int) + 1) w → x (38 + 4 * w) k = updA (g 11) (8 * v + n) m (8 * w + k) ∧ x (39 + 4 * w) k = updA (g 12) (8 * v + n) t (8 * w + k) ∧ x (40 + 4 * w) k = updA (g 13) (8 * v + n) f (8 * w + k)
      rw [ua_n e]
      refine ⟨h.1, fun k hk => ?_⟩
      rw [ua_n (by omega), ua_n (by omega), ua_n (by omega)]
      exact h.2 k hk
  · rw [lo 14 (by omega)]; exact hR.2.1 c hc
  · by_cases e : q = v
    · subst e
      have y5 : yW x q n m t f (53 + 4 * q) 0 = 0 := by unfold yW; rw [uc_s, ua_s]
      rw [y5]
      exact ⟨Or.inl rfl, fun _ z => absurd z (by omega)⟩
    · obtain ⟨h1, h2⟩ := hR.2.2 q hq
      rw [yW_o (by omega) (by omega) (by omega) (by omega) (by omega)]
      refine ⟨h1, fun z1 z2 => ?_⟩
      have h3 := h2 z1 z2
      have r10 := hg.2.2.2.1 q hq
      have e10 : nW g v n m t f 10 q = g 10 q := by
        show updA (g 10) v ((n : Int) + 1) q = g 10 q
        exact ua_n e
      have fe : fr (nW g v n m t f) (nW g v n m t f 6) q = fr g (g 6) q := by
        refine fr_w (g := nW g v n m t f) (h := g) (f := q) rfl rfl rfl rfl rfl rfl rfl rfl rfl rfl e10 (fun i hi => ?_) _
        rw [e10] at hi
        show updA (g 11) (8 * v + n) m (8 * q + i) = g 11 (8 * q + i) ∧ updA (g 12) (8 * v + n) t (8 * q + i) = g 12 (8 * q + i) ∧ updA (g 13) (8 * v + n) f (8 * q + i) = g 13 (8 * q + i)
        rw [ua_n (by omega), ua_n (by omega), ua_n (by omega)]
        exact ⟨rfl, rfl, rfl⟩
      intro c hc
      rw [fe, yW_o (by omega) (by omega) (by omega) (by omega) (by omega), yW_o (by omega) (by omega) (by omega) (by omega) (by omega)]
      exact h3 c hc
theorem q_wind {x g : AH} (hg : gi g) (hR : RelC x g) {w m t f : Int} (hw : inR w) (hm : inR m) (ht : inR t) (hf : inR f) : Ok SC mX8_wind [ar 0, ai w, ai m, ai t, ai f] x (fun r h2 => r = some (ai (b01 (windP g w m t f))) ∧ RelC h2 (n_wind g w m t f)) := by
  have hn := gi_n hg
  have hG := hR.1.1
  have g2 := hg.2.2.1
  have no : ¬ windP g w m t f → b01 (windP g w m t f) = 0 ∧ n_wind g w m t f = g := fun z => ⟨b01_f z, if_neg z⟩
  refine Ok_of SC_ok (by decide +kernel) rfl (Nat.le_of_ble_eq_true rfl) ?_
  show SG SC mX8_wind _ 0 [ar 0, ai w, ai m, ai t, ai f] [] _
  simp only [sX8_wind_0, sX8_wind_1, sX8_wind_5, sX8_wind_8, sX8_wind_12, sX8_wind_15, sX8_wind_16, sX8_wind_17, sX8_wind_22, sX8_wind_25, sX8_wind_27, sX8_wind_28, sX8_wind_33, sX8_wind_36, sX8_wind_37, sX8_wind_38, sX8_wind_39, sX8_wind_42, sX8_wind_43, sX8_wind_44, sX8_wind_45, sX8_wind_46, sX8_wind_51, sX8_wind_54, sX8_wind_55, sX8_wind_56, sX8_wind_57, sX8_wind_60, sX8_wind_61, sX8_wind_62, sX8_wind_63, sX8_wind_66, sX8_wind_67, onI_i, onR_r, onS_s, slotA_i, slotA_b, slotA_l, slotA_r, ptk_i, ptk_b, ptk_l, aldP_s, aldP_n, uc_s, uc_n, uc_uc, ua_s, ua_n, Nat.reduceEqDiff, not_false_eq_true, true_or, or_true, true_and, and_true, implies_true, Option.some.injEq, Sum.inl.injEq, Int.toNat_natCast, true_implies, not_true_eq_false, false_implies, Int.reduceEq, Int.reduceLT, Int.reduceLE, Int.reduceNeg, Int.reduceAdd, Int.reduceSub, Int.reduceMul, Int.reduceToNat, lg_0, lg_1, lg_2, lg_3, lg_4, lz_0, lz_1, lz_2, lz_3, lz_4, scs_0_0, scs_0_1, scs_0_2, scs_0_3, scs_0_4, scs_0_5, scs_0_6, scs_0_7, scs_0_8, scs_0_9, scs_1_0, scs_1_1, scs_1_2, scs_1_3, scs_1_4, scs_1_5, scs_1_6, scs_1_7, scs_1_8, scs_1_9, scs_1_10, scs_1_11, scs_1_12, scs_1_13, scs_1_14, scs_1_15, scs_1_16, scs_1_17, scs_1_18, scr_2, scr_3, scs_4_0, scs_4_1, scs_5_0, scs_5_1, scs_5_2, scs_5_3, scs_5_4, scs_6_0, scs_6_1, scs_6_2, scs_6_3, scs_7_0, scs_7_1, scs_7_2, scs_7_3, scs_8_0, scs_8_1, scs_8_2, sca_9, sca_10, sca_11, sca_12, sca_13, sca_14, sca_15, sca_16, sca_17, sca_18, sca_19, sca_20, sca_21, sca_22, sca_23, sca_24, sca_25, sca_26, sca_27, sca_28, sca_29, sca_30, sca_31, sca_32, sca_33, sca_34, sca_35, sca_36, scs_37_0, scs_37_1, scs_37_2, scs_37_3, sca_38, sca_39, sca_40, scs_41_0, scs_41_1, scs_41_2, scs_41_3, sca_42, sca_43, sca_44, scs_45_0, scs_45_1, scs_45_2, scs_45_3, sca_46, sca_47, sca_48, scs_49_0, scs_49_1, scs_49_2, scs_49_3, sca_50, sca_51, sca_52, scs_53_0, scs_53_1, scs_53_2, scs_53_3, sca_54, sca_55, sca_56, scs_57_0, scs_57_1, scs_57_2, scs_57_3, sca_58, sca_59, sca_60, scs_61_0, scs_61_1, scs_61_2, scs_61_3, sca_62, sca_63, sca_64, scs_65_0, scs_65_1, scs_65_2, scs_65_3, sca_66, sca_67, sca_68, scs_69_0, scs_69_1, scs_69_2, scs_69_3, sca_70, sca_71, sca_72, sc_st0, sc_st1, sc_st2, sc_sv0, sc_sv1, sc_sv2]
  by_cases c1 : worldP g w
  · refine vX8_wind_2 (Nat.le_of_ble_eq_true rfl) rfl (o_wdT hg hG hw c1) ?_
    simp only [sX8_wind_0, sX8_wind_1, sX8_wind_5, sX8_wind_8, sX8_wind_12, sX8_wind_15, sX8_wind_16, sX8_wind_17, sX8_wind_22, sX8_wind_25, sX8_wind_27, sX8_wind_28, sX8_wind_33, sX8_wind_36, sX8_wind_37, sX8_wind_38, sX8_wind_39, sX8_wind_42, sX8_wind_43, sX8_wind_44, sX8_wind_45, sX8_wind_46, sX8_wind_51, sX8_wind_54, sX8_wind_55, sX8_wind_56, sX8_wind_57, sX8_wind_60, sX8_wind_61, sX8_wind_62, sX8_wind_63, sX8_wind_66, sX8_wind_67, onI_i, onR_r, onS_s, slotA_i, slotA_b, slotA_l, slotA_r, ptk_i, ptk_b, ptk_l, aldP_s, aldP_n, uc_s, uc_n, uc_uc, ua_s, ua_n, Nat.reduceEqDiff, not_false_eq_true, true_or, or_true, true_and, and_true, implies_true, Option.some.injEq, Sum.inl.injEq, Int.toNat_natCast, true_implies, not_true_eq_false, false_implies, Int.reduceEq, Int.reduceLT, Int.reduceLE, Int.reduceNeg, Int.reduceAdd, Int.reduceSub, Int.reduceMul, Int.reduceToNat, lg_0, lg_1, lg_2, lg_3, lg_4, lz_0, lz_1, lz_2, lz_3, lz_4, scs_0_0, scs_0_1, scs_0_2, scs_0_3, scs_0_4, scs_0_5, scs_0_6, scs_0_7, scs_0_8, scs_0_9, scs_1_0, scs_1_1, scs_1_2, scs_1_3, scs_1_4, scs_1_5, scs_1_6, scs_1_7, scs_1_8, scs_1_9, scs_1_10, scs_1_11, scs_1_12, scs_1_13, scs_1_14, scs_1_15, scs_1_16, scs_1_17, scs_1_18, scr_2, scr_3, scs_4_0, scs_4_1, scs_5_0, scs_5_1, scs_5_2, scs_5_3, scs_5_4, scs_6_0, scs_6_1, scs_6_2, scs_6_3, scs_7_0, scs_7_1, scs_7_2, scs_7_3, scs_8_0, scs_8_1, scs_8_2, sca_9, sca_10, sca_11, sca_12, sca_13, sca_14, sca_15, sca_16, sca_17, sca_18, sca_19, sca_20, sca_21, sca_22, sca_23, sca_24, sca_25, sca_26, sca_27, sca_28, sca_29, sca_30, sca_31, sca_32, sca_33, sca_34, sca_35, sca_36, scs_37_0, scs_37_1, scs_37_2, scs_37_3, sca_38, sca_39, sca_40, scs_41_0, scs_41_1, scs_41_2, scs_41_3, sca_42, sca_43, sca_44, scs_45_0, scs_45_1, scs_45_2, scs_45_3, sca_46, sca_47, sca_48, scs_49_0, scs_49_1, scs_49_2, scs_49_3, sca_50, sca_51, sca_52, scs_53_0, scs_53_1, scs_53_2, scs_53_3, sca_54, sca_55, sca_56, scs_57_0, scs_57_1, scs_57_2, scs_57_3, sca_58, sca_59, sca_60, scs_61_0, scs_61_1, scs_61_2, scs_61_3, sca_62, sca_63, sca_64, scs_65_0, scs_65_1, scs_65_2, scs_65_3, sca_66, sca_67, sca_68, scs_69_0, scs_69_1, scs_69_2, scs_69_3, sca_70, sca_71, sca_72, sc_st0, sc_st1, sc_st2, sc_sv0, sc_sv1, sc_sv2]
    refine ⟨by omega, ?_⟩
    by_cases c2 : minP m
    · refine vX8_wind_9 (Nat.le_of_ble_eq_true rfl) (o_mT hm c2) ?_
      simp only [sX8_wind_0, sX8_wind_1, sX8_wind_5, sX8_wind_8, sX8_wind_12, sX8_wind_15, sX8_wind_16, sX8_wind_17, sX8_wind_22, sX8_wind_25, sX8_wind_27, sX8_wind_28, sX8_wind_33, sX8_wind_36, sX8_wind_37, sX8_wind_38, sX8_wind_39, sX8_wind_42, sX8_wind_43, sX8_wind_44, sX8_wind_45, sX8_wind_46, sX8_wind_51, sX8_wind_54, sX8_wind_55, sX8_wind_56, sX8_wind_57, sX8_wind_60, sX8_wind_61, sX8_wind_62, sX8_wind_63, sX8_wind_66, sX8_wind_67, onI_i, onR_r, onS_s, slotA_i, slotA_b, slotA_l, slotA_r, ptk_i, ptk_b, ptk_l, aldP_s, aldP_n, uc_s, uc_n, uc_uc, ua_s, ua_n, Nat.reduceEqDiff, not_false_eq_true, true_or, or_true, true_and, and_true, implies_true, Option.some.injEq, Sum.inl.injEq, Int.toNat_natCast, true_implies, not_true_eq_false, false_implies, Int.reduceEq, Int.reduceLT, Int.reduceLE, Int.reduceNeg, Int.reduceAdd, Int.reduceSub, Int.reduceMul, Int.reduceToNat, lg_0, lg_1, lg_2, lg_3, lg_4, lz_0, lz_1, lz_2, lz_3, lz_4, scs_0_0, scs_0_1, scs_0_2, scs_0_3, scs_0_4, scs_0_5, scs_0_6, scs_0_7, scs_0_8, scs_0_9, scs_1_0, scs_1_1, scs_1_2, scs_1_3, scs_1_4, scs_1_5, scs_1_6, scs_1_7, scs_1_8, scs_1_9, scs_1_10, scs_1_11, scs_1_12, scs_1_13, scs_1_14, scs_1_15, scs_1_16, scs_1_17, scs_1_18, scr_2, scr_3, scs_4_0, scs_4_1, scs_5_0, scs_5_1, scs_5_2, scs_5_3, scs_5_4, scs_6_0, scs_6_1, scs_6_2, scs_6_3, scs_7_0, scs_7_1, scs_7_2, scs_7_3, scs_8_0, scs_8_1, scs_8_2, sca_9, sca_10, sca_11, sca_12, sca_13, sca_14, sca_15, sca_16, sca_17, sca_18, sca_19, sca_20, sca_21, sca_22, sca_23, sca_24, sca_25, sca_26, sca_27, sca_28, sca_29, sca_30, sca_31, sca_32, sca_33, sca_34, sca_35, sca_36, scs_37_0, scs_37_1, scs_37_2, scs_37_3, sca_38, sca_39, sca_40, scs_41_0, scs_41_1, scs_41_2, scs_41_3, sca_42, sca_43, sca_44, scs_45_0, scs_45_1, scs_45_2, scs_45_3, sca_46, sca_47, sca_48, scs_49_0, scs_49_1, scs_49_2, scs_49_3, sca_50, sca_51, sca_52, scs_53_0, scs_53_1, scs_53_2, scs_53_3, sca_54, sca_55, sca_56, scs_57_0, scs_57_1, scs_57_2, scs_57_3, sca_58, sca_59, sca_60, scs_61_0, scs_61_1, scs_61_2, scs_61_3, sca_62, sca_63, sca_64, scs_65_0, scs_65_1, scs_65_2, scs_65_3, sca_66, sca_67, sca_68, scs_69_0, scs_69_1, scs_69_2, scs_69_3, sca_70, sca_71, sca_72, sc_st0, sc_st1, sc_st2, sc_sv0, sc_sv1, sc_sv2]
      refine ⟨by omega, ?_⟩
      by_cases c3 : 0 ≤ t ∧ t ≤ 7
      · refine vX8_wind_19 (Nat.le_of_ble_eq_true rfl) (o_wT ht (by omega) (by omega) c3) ?_
        simp only [sX8_wind_0, sX8_wind_1, sX8_wind_5, sX8_wind_8, sX8_wind_12, sX8_wind_15, sX8_wind_16, sX8_wind_17, sX8_wind_22, sX8_wind_25, sX8_wind_27, sX8_wind_28, sX8_wind_33, sX8_wind_36, sX8_wind_37, sX8_wind_38, sX8_wind_39, sX8_wind_42, sX8_wind_43, sX8_wind_44, sX8_wind_45, sX8_wind_46, sX8_wind_51, sX8_wind_54, sX8_wind_55, sX8_wind_56, sX8_wind_57, sX8_wind_60, sX8_wind_61, sX8_wind_62, sX8_wind_63, sX8_wind_66, sX8_wind_67, onI_i, onR_r, onS_s, slotA_i, slotA_b, slotA_l, slotA_r, ptk_i, ptk_b, ptk_l, aldP_s, aldP_n, uc_s, uc_n, uc_uc, ua_s, ua_n, Nat.reduceEqDiff, not_false_eq_true, true_or, or_true, true_and, and_true, implies_true, Option.some.injEq, Sum.inl.injEq, Int.toNat_natCast, true_implies, not_true_eq_false, false_implies, Int.reduceEq, Int.reduceLT, Int.reduceLE, Int.reduceNeg, Int.reduceAdd, Int.reduceSub, Int.reduceMul, Int.reduceToNat, lg_0, lg_1, lg_2, lg_3, lg_4, lz_0, lz_1, lz_2, lz_3, lz_4, scs_0_0, scs_0_1, scs_0_2, scs_0_3, scs_0_4, scs_0_5, scs_0_6, scs_0_7, scs_0_8, scs_0_9, scs_1_0, scs_1_1, scs_1_2, scs_1_3, scs_1_4, scs_1_5, scs_1_6, scs_1_7, scs_1_8, scs_1_9, scs_1_10, scs_1_11, scs_1_12, scs_1_13, scs_1_14, scs_1_15, scs_1_16, scs_1_17, scs_1_18, scr_2, scr_3, scs_4_0, scs_4_1, scs_5_0, scs_5_1, scs_5_2, scs_5_3, scs_5_4, scs_6_0, scs_6_1, scs_6_2, scs_6_3, scs_7_0, scs_7_1, scs_7_2, scs_7_3, scs_8_0, scs_8_1, scs_8_2, sca_9, sca_10, sca_11, sca_12, sca_13, sca_14, sca_15, sca_16, sca_17, sca_18, sca_19, sca_20, sca_21, sca_22, sca_23, sca_24, sca_25, sca_26, sca_27, sca_28, sca_29, sca_30, sca_31, sca_32, sca_33, sca_34, sca_35, sca_36, scs_37_0, scs_37_1, scs_37_2, scs_37_3, sca_38, sca_39, sca_40, scs_41_0, scs_41_1, scs_41_2, scs_41_3, sca_42, sca_43, sca_44, scs_45_0, scs_45_1, scs_45_2, scs_45_3, sca_46, sca_47, sca_48, scs_49_0, scs_49_1, scs_49_2, scs_49_3, sca_50, sca_51, sca_52, scs_53_0, scs_53_1, scs_53_2, scs_53_3, sca_54, sca_55, sca_56, scs_57_0, scs_57_1, scs_57_2, scs_57_3, sca_58, sca_59, sca_60, scs_61_0, scs_61_1, scs_61_2, scs_61_3, sca_62, sca_63, sca_64, scs_65_0, scs_65_1, scs_65_2, scs_65_3, sca_66, sca_67, sca_68, scs_69_0, scs_69_1, scs_69_2, scs_69_3, sca_70, sca_71, sca_72, sc_st0, sc_st1, sc_st2, sc_sv0, sc_sv1, sc_sv2]
        refine ⟨by omega, ?_⟩
        by_cases c4 : 0 ≤ f ∧ f ≤ 9
        · refine vX8_wind_30 (Nat.le_of_ble_eq_true rfl) (o_wT hf (by omega) (by omega) c4) ?_
          obtain ⟨v, rfl⟩ : ∃ z : Nat, w = z := ⟨w.toNat, by omega⟩
          have v4 : v < 4 := by omega
          obtain ⟨f1, f2⟩ := fr4 v v4
          have e0 := scF_0 (f := v) (by omega)
          have r10 := hg.2.2.2.1 v v4
          have rw1 := hR.1.2.2.1 v c1.2
          obtain ⟨n, hnn⟩ : ∃ z : Nat, g 10 v = z := ⟨(g 10 v).toNat, by omega⟩
          have x37 : x (37 + 4 * v) 0 = n := by rw [rw1.1]; exact hnn
          have lst0 : 0 < n → x (38 + 4 * v) (n - 1) = g 11 (8 * v + n - 1) ∧ (0 ≤ g 11 (8 * v + n - 1) ∧ g 11 (8 * v + n - 1) ≤ 5000) := by
            intro h0
            have a := (rw1.2 (n - 1) (by omega)).1
            have b := (hg.2.2.2.2.1 v (n - 1) v4 (by omega)).1
            rw [show 8 * v + (n - 1) = 8 * v + n - 1 by omega] at a b
            exact ⟨a, b⟩
          have wq : windP g v m t f ↔ (¬ n = 8 ∧ ((n : Int) ≤ 0 ∨ g 11 (8 * v + n - 1) < m)) := by
            unfold windP
            rw [Int.toNat_natCast, hnn, show (8 * (v : Int) + (n : Int) - 1).toNat = 8 * v + n - 1 by omega]
            constructor
            · rintro ⟨_, _, _, _, a, b⟩; exact ⟨by omega, b⟩
            · rintro ⟨a, b⟩; exact ⟨c1, c2, c3, c4, by omega, b⟩
          simp only [sX8_wind_0, sX8_wind_1, sX8_wind_5, sX8_wind_8, sX8_wind_12, sX8_wind_15, sX8_wind_16, sX8_wind_17, sX8_wind_22, sX8_wind_25, sX8_wind_27, sX8_wind_28, sX8_wind_33, sX8_wind_36, sX8_wind_37, sX8_wind_38, sX8_wind_39, sX8_wind_42, sX8_wind_43, sX8_wind_44, sX8_wind_45, sX8_wind_46, sX8_wind_51, sX8_wind_54, sX8_wind_55, sX8_wind_56, sX8_wind_57, sX8_wind_60, sX8_wind_61, sX8_wind_62, sX8_wind_63, sX8_wind_66, sX8_wind_67, onI_i, onR_r, onS_s, slotA_i, slotA_b, slotA_l, slotA_r, ptk_i, ptk_b, ptk_l, aldP_s, aldP_n, uc_s, uc_n, uc_uc, ua_s, ua_n, Nat.reduceEqDiff, not_false_eq_true, true_or, or_true, true_and, and_true, implies_true, Option.some.injEq, Sum.inl.injEq, Int.toNat_natCast, true_implies, not_true_eq_false, false_implies, Int.reduceEq, Int.reduceLT, Int.reduceLE, Int.reduceNeg, Int.reduceAdd, Int.reduceSub, Int.reduceMul, Int.reduceToNat, lg_0, lg_1, lg_2, lg_3, lg_4, lz_0, lz_1, lz_2, lz_3, lz_4, scs_0_0, scs_0_1, scs_0_2, scs_0_3, scs_0_4, scs_0_5, scs_0_6, scs_0_7, scs_0_8, scs_0_9, scs_1_0, scs_1_1, scs_1_2, scs_1_3, scs_1_4, scs_1_5, scs_1_6, scs_1_7, scs_1_8, scs_1_9, scs_1_10, scs_1_11, scs_1_12, scs_1_13, scs_1_14, scs_1_15, scs_1_16, scs_1_17, scs_1_18, scr_2, scr_3, scs_4_0, scs_4_1, scs_5_0, scs_5_1, scs_5_2, scs_5_3, scs_5_4, scs_6_0, scs_6_1, scs_6_2, scs_6_3, scs_7_0, scs_7_1, scs_7_2, scs_7_3, scs_8_0, scs_8_1, scs_8_2, sca_9, sca_10, sca_11, sca_12, sca_13, sca_14, sca_15, sca_16, sca_17, sca_18, sca_19, sca_20, sca_21, sca_22, sca_23, sca_24, sca_25, sca_26, sca_27, sca_28, sca_29, sca_30, sca_31, sca_32, sca_33, sca_34, sca_35, sca_36, scs_37_0, scs_37_1, scs_37_2, scs_37_3, sca_38, sca_39, sca_40, scs_41_0, scs_41_1, scs_41_2, scs_41_3, sca_42, sca_43, sca_44, scs_45_0, scs_45_1, scs_45_2, scs_45_3, sca_46, sca_47, sca_48, scs_49_0, scs_49_1, scs_49_2, scs_49_3, sca_50, sca_51, sca_52, scs_53_0, scs_53_1, scs_53_2, scs_53_3, sca_54, sca_55, sca_56, scs_57_0, scs_57_1, scs_57_2, scs_57_3, sca_58, sca_59, sca_60, scs_61_0, scs_61_1, scs_61_2, scs_61_3, sca_62, sca_63, sca_64, scs_65_0, scs_65_1, scs_65_2, scs_65_3, sca_66, sca_67, sca_68, scs_69_0, scs_69_1, scs_69_2, scs_69_3, sca_70, sca_71, sca_72, sc_st0, sc_st1, sc_st2, sc_sv0, sc_sv1, sc_sv2, f2]
          refine ⟨by omega, by simp; omega, ?_⟩
          by_cases q : windP g v m t f
          · have q2 := wq.mp q
            refine vX8_wind_48 (Nat.le_of_ble_eq_true rfl) (scWo v4) (o_appT v4 x37 (by omega) hm (fun h0 => by obtain ⟨a, b⟩ := lst0 h0; rw [a]; have := q2.2; omega)) ?_
            have d53 : ¬ 53 + 4 * v = 37 + 4 * v := by omega
            have d53a : ¬ 53 + 4 * v = 38 + 4 * v := by omega
            have d53b : ¬ 53 + 4 * v = 39 + 4 * v := by omega
            have d53c : ¬ 53 + 4 * v = 40 + 4 * v := by omega
            simp only [sX8_wind_0, sX8_wind_1, sX8_wind_5, sX8_wind_8, sX8_wind_12, sX8_wind_15, sX8_wind_16, sX8_wind_17, sX8_wind_22, sX8_wind_25, sX8_wind_27, sX8_wind_28, sX8_wind_33, sX8_wind_36, sX8_wind_37, sX8_wind_38, sX8_wind_39, sX8_wind_42, sX8_wind_43, sX8_wind_44, sX8_wind_45, sX8_wind_46, sX8_wind_51, sX8_wind_54, sX8_wind_55, sX8_wind_56, sX8_wind_57, sX8_wind_60, sX8_wind_61, sX8_wind_62, sX8_wind_63, sX8_wind_66, sX8_wind_67, onI_i, onR_r, onS_s, slotA_i, slotA_b, slotA_l, slotA_r, ptk_i, ptk_b, ptk_l, aldP_s, aldP_n, uc_s, uc_n, uc_uc, ua_s, ua_n, Nat.reduceEqDiff, not_false_eq_true, true_or, or_true, true_and, and_true, implies_true, Option.some.injEq, Sum.inl.injEq, Int.toNat_natCast, true_implies, not_true_eq_false, false_implies, Int.reduceEq, Int.reduceLT, Int.reduceLE, Int.reduceNeg, Int.reduceAdd, Int.reduceSub, Int.reduceMul, Int.reduceToNat, lg_0, lg_1, lg_2, lg_3, lg_4, lz_0, lz_1, lz_2, lz_3, lz_4, scs_0_0, scs_0_1, scs_0_2, scs_0_3, scs_0_4, scs_0_5, scs_0_6, scs_0_7, scs_0_8, scs_0_9, scs_1_0, scs_1_1, scs_1_2, scs_1_3, scs_1_4, scs_1_5, scs_1_6, scs_1_7, scs_1_8, scs_1_9, scs_1_10, scs_1_11, scs_1_12, scs_1_13, scs_1_14, scs_1_15, scs_1_16, scs_1_17, scs_1_18, scr_2, scr_3, scs_4_0, scs_4_1, scs_5_0, scs_5_1, scs_5_2, scs_5_3, scs_5_4, scs_6_0, scs_6_1, scs_6_2, scs_6_3, scs_7_0, scs_7_1, scs_7_2, scs_7_3, scs_8_0, scs_8_1, scs_8_2, sca_9, sca_10, sca_11, sca_12, sca_13, sca_14, sca_15, sca_16, sca_17, sca_18, sca_19, sca_20, sca_21, sca_22, sca_23, sca_24, sca_25, sca_26, sca_27, sca_28, sca_29, sca_30, sca_31, sca_32, sca_33, sca_34, sca_35, sca_36, scs_37_0, scs_37_1, scs_37_2, scs_37_3, sca_38, sca_39, sca_40, scs_41_0, scs_41_1, scs_41_2, scs_41_3, sca_42, sca_43, sca_44, scs_45_0, scs_45_1, scs_45_2, scs_45_3, sca_46, sca_47, sca_48, scs_49_0, scs_49_1, scs_49_2, scs_49_3, sca_50, sca_51, sca_52, scs_53_0, scs_53_1, scs_53_2, scs_53_3, sca_54, sca_55, sca_56, scs_57_0, scs_57_1, scs_57_2, scs_57_3, sca_58, sca_59, sca_60, scs_61_0, scs_61_1, scs_61_2, scs_61_3, sca_62, sca_63, sca_64, scs_65_0, scs_65_1, scs_65_2, scs_65_3, sca_66, sca_67, sca_68, scs_69_0, scs_69_1, scs_69_2, scs_69_3, sca_70, sca_71, sca_72, sc_st0, sc_st1, sc_st2, sc_sv0, sc_sv1, sc_sv2, f1, e0, d53, d53a, d53b, d53c]
            rw [b01_t q, nW_e hnn q]
            exact ⟨by omega, by simp; omega, rfl, Rel_wind hg hR v4 c1.2 hnn (by omega)⟩
          · refine vX8_wind_48 (Nat.le_of_ble_eq_true rfl) (scWo v4) (o_appF v4 x37 (by omega) hm ?_) ?_
            · by_cases e8 : n = 8
              · exact Or.inl e8
              · right
                have q3 : ¬ ((n : Int) ≤ 0 ∨ g 11 (8 * v + n - 1) < m) := fun y => q (wq.mpr ⟨e8, y⟩)
                obtain ⟨a, b⟩ := lst0 (by omega)
                rw [a]
                exact ⟨by omega, by omega, by omega⟩
            · simp only [sX8_wind_0, sX8_wind_1, sX8_wind_5, sX8_wind_8, sX8_wind_12, sX8_wind_15, sX8_wind_16, sX8_wind_17, sX8_wind_22, sX8_wind_25, sX8_wind_27, sX8_wind_28, sX8_wind_33, sX8_wind_36, sX8_wind_37, sX8_wind_38, sX8_wind_39, sX8_wind_42, sX8_wind_43, sX8_wind_44, sX8_wind_45, sX8_wind_46, sX8_wind_51, sX8_wind_54, sX8_wind_55, sX8_wind_56, sX8_wind_57, sX8_wind_60, sX8_wind_61, sX8_wind_62, sX8_wind_63, sX8_wind_66, sX8_wind_67, onI_i, onR_r, onS_s, slotA_i, slotA_b, slotA_l, slotA_r, ptk_i, ptk_b, ptk_l, aldP_s, aldP_n, uc_s, uc_n, uc_uc, ua_s, ua_n, Nat.reduceEqDiff, not_false_eq_true, true_or, or_true, true_and, and_true, implies_true, Option.some.injEq, Sum.inl.injEq, Int.toNat_natCast, true_implies, not_true_eq_false, false_implies, Int.reduceEq, Int.reduceLT, Int.reduceLE, Int.reduceNeg, Int.reduceAdd, Int.reduceSub, Int.reduceMul, Int.reduceToNat, lg_0, lg_1, lg_2, lg_3, lg_4, lz_0, lz_1, lz_2, lz_3, lz_4, scs_0_0, scs_0_1, scs_0_2, scs_0_3, scs_0_4, scs_0_5, scs_0_6, scs_0_7, scs_0_8, scs_0_9, scs_1_0, scs_1_1, scs_1_2, scs_1_3, scs_1_4, scs_1_5, scs_1_6, scs_1_7, scs_1_8, scs_1_9, scs_1_10, scs_1_11, scs_1_12, scs_1_13, scs_1_14, scs_1_15, scs_1_16, scs_1_17, scs_1_18, scr_2, scr_3, scs_4_0, scs_4_1, scs_5_0, scs_5_1, scs_5_2, scs_5_3, scs_5_4, scs_6_0, scs_6_1, scs_6_2, scs_6_3, scs_7_0, scs_7_1, scs_7_2, scs_7_3, scs_8_0, scs_8_1, scs_8_2, sca_9, sca_10, sca_11, sca_12, sca_13, sca_14, sca_15, sca_16, sca_17, sca_18, sca_19, sca_20, sca_21, sca_22, sca_23, sca_24, sca_25, sca_26, sca_27, sca_28, sca_29, sca_30, sca_31, sca_32, sca_33, sca_34, sca_35, sca_36, scs_37_0, scs_37_1, scs_37_2, scs_37_3, sca_38, sca_39, sca_40, scs_41_0, scs_41_1, scs_41_2, scs_41_3, sca_42, sca_43, sca_44, scs_45_0, scs_45_1, scs_45_2, scs_45_3, sca_46, sca_47, sca_48, scs_49_0, scs_49_1, scs_49_2, scs_49_3, sca_50, sca_51, sca_52, scs_53_0, scs_53_1, scs_53_2, scs_53_3, sca_54, sca_55, sca_56, scs_57_0, scs_57_1, scs_57_2, scs_57_3, sca_58, sca_59, sca_60, scs_61_0, scs_61_1, scs_61_2, scs_61_3, sca_62, sca_63, sca_64, scs_65_0, scs_65_1, scs_65_2, scs_65_3, sca_66, sca_67, sca_68, scs_69_0, scs_69_1, scs_69_2, scs_69_3, sca_70, sca_71, sca_72, sc_st0, sc_st1, sc_st2, sc_sv0, sc_sv1, sc_sv2]
              obtain ⟨n1, n2⟩ := no q
              rw [n1, n2]; exact ⟨by omega, rfl, hR⟩
        · refine vX8_wind_30 (Nat.le_of_ble_eq_true rfl) (o_wF hf (by omega) (by omega) c4) ?_
          simp only [sX8_wind_0, sX8_wind_1, sX8_wind_5, sX8_wind_8, sX8_wind_12, sX8_wind_15, sX8_wind_16, sX8_wind_17, sX8_wind_22, sX8_wind_25, sX8_wind_27, sX8_wind_28, sX8_wind_33, sX8_wind_36, sX8_wind_37, sX8_wind_38, sX8_wind_39, sX8_wind_42, sX8_wind_43, sX8_wind_44, sX8_wind_45, sX8_wind_46, sX8_wind_51, sX8_wind_54, sX8_wind_55, sX8_wind_56, sX8_wind_57, sX8_wind_60, sX8_wind_61, sX8_wind_62, sX8_wind_63, sX8_wind_66, sX8_wind_67, onI_i, onR_r, onS_s, slotA_i, slotA_b, slotA_l, slotA_r, ptk_i, ptk_b, ptk_l, aldP_s, aldP_n, uc_s, uc_n, uc_uc, ua_s, ua_n, Nat.reduceEqDiff, not_false_eq_true, true_or, or_true, true_and, and_true, implies_true, Option.some.injEq, Sum.inl.injEq, Int.toNat_natCast, true_implies, not_true_eq_false, false_implies, Int.reduceEq, Int.reduceLT, Int.reduceLE, Int.reduceNeg, Int.reduceAdd, Int.reduceSub, Int.reduceMul, Int.reduceToNat, lg_0, lg_1, lg_2, lg_3, lg_4, lz_0, lz_1, lz_2, lz_3, lz_4, scs_0_0, scs_0_1, scs_0_2, scs_0_3, scs_0_4, scs_0_5, scs_0_6, scs_0_7, scs_0_8, scs_0_9, scs_1_0, scs_1_1, scs_1_2, scs_1_3, scs_1_4, scs_1_5, scs_1_6, scs_1_7, scs_1_8, scs_1_9, scs_1_10, scs_1_11, scs_1_12, scs_1_13, scs_1_14, scs_1_15, scs_1_16, scs_1_17, scs_1_18, scr_2, scr_3, scs_4_0, scs_4_1, scs_5_0, scs_5_1, scs_5_2, scs_5_3, scs_5_4, scs_6_0, scs_6_1, scs_6_2, scs_6_3, scs_7_0, scs_7_1, scs_7_2, scs_7_3, scs_8_0, scs_8_1, scs_8_2, sca_9, sca_10, sca_11, sca_12, sca_13, sca_14, sca_15, sca_16, sca_17, sca_18, sca_19, sca_20, sca_21, sca_22, sca_23, sca_24, sca_25, sca_26, sca_27, sca_28, sca_29, sca_30, sca_31, sca_32, sca_33, sca_34, sca_35, sca_36, scs_37_0, scs_37_1, scs_37_2, scs_37_3, sca_38, sca_39, sca_40, scs_41_0, scs_41_1, scs_41_2, scs_41_3, sca_42, sca_43, sca_44, scs_45_0, scs_45_1, scs_45_2, scs_45_3, sca_46, sca_47, sca_48, scs_49_0, scs_49_1, scs_49_2, scs_49_3, sca_50, sca_51, sca_52, scs_53_0, scs_53_1, scs_53_2, scs_53_3, sca_54, sca_55, sca_56, scs_57_0, scs_57_1, scs_57_2, scs_57_3, sca_58, sca_59, sca_60, scs_61_0, scs_61_1, scs_61_2, scs_61_3, sca_62, sca_63, sca_64, scs_65_0, scs_65_1, scs_65_2, scs_65_3, sca_66, sca_67, sca_68, scs_69_0, scs_69_1, scs_69_2, scs_69_3, sca_70, sca_71, sca_72, sc_st0, sc_st1, sc_st2, sc_sv0, sc_sv1, sc_sv2]
          obtain ⟨n1, n2⟩ := no (fun z => c4 z.2.2.2.1)
          rw [n1, n2]; exact ⟨by omega, rfl, hR⟩
      · refine vX8_wind_19 (Nat.le_of_ble_eq_true rfl) (o_wF ht (by omega) (by omega) c3) ?_
        simp only [sX8_wind_0, sX8_wind_1, sX8_wind_5, sX8_wind_8, sX8_wind_12, sX8_wind_15, sX8_wind_16, sX8_wind_17, sX8_wind_22, sX8_wind_25, sX8_wind_27, sX8_wind_28, sX8_wind_33, sX8_wind_36, sX8_wind_37, sX8_wind_38, sX8_wind_39, sX8_wind_42, sX8_wind_43, sX8_wind_44, sX8_wind_45, sX8_wind_46, sX8_wind_51, sX8_wind_54, sX8_wind_55, sX8_wind_56, sX8_wind_57, sX8_wind_60, sX8_wind_61, sX8_wind_62, sX8_wind_63, sX8_wind_66, sX8_wind_67, onI_i, onR_r, onS_s, slotA_i, slotA_b, slotA_l, slotA_r, ptk_i, ptk_b, ptk_l, aldP_s, aldP_n, uc_s, uc_n, uc_uc, ua_s, ua_n, Nat.reduceEqDiff, not_false_eq_true, true_or, or_true, true_and, and_true, implies_true, Option.some.injEq, Sum.inl.injEq, Int.toNat_natCast, true_implies, not_true_eq_false, false_implies, Int.reduceEq, Int.reduceLT, Int.reduceLE, Int.reduceNeg, Int.reduceAdd, Int.reduceSub, Int.reduceMul, Int.reduceToNat, lg_0, lg_1, lg_2, lg_3, lg_4, lz_0, lz_1, lz_2, lz_3, lz_4, scs_0_0, scs_0_1, scs_0_2, scs_0_3, scs_0_4, scs_0_5, scs_0_6, scs_0_7, scs_0_8, scs_0_9, scs_1_0, scs_1_1, scs_1_2, scs_1_3, scs_1_4, scs_1_5, scs_1_6, scs_1_7, scs_1_8, scs_1_9, scs_1_10, scs_1_11, scs_1_12, scs_1_13, scs_1_14, scs_1_15, scs_1_16, scs_1_17, scs_1_18, scr_2, scr_3, scs_4_0, scs_4_1, scs_5_0, scs_5_1, scs_5_2, scs_5_3, scs_5_4, scs_6_0, scs_6_1, scs_6_2, scs_6_3, scs_7_0, scs_7_1, scs_7_2, scs_7_3, scs_8_0, scs_8_1, scs_8_2, sca_9, sca_10, sca_11, sca_12, sca_13, sca_14, sca_15, sca_16, sca_17, sca_18, sca_19, sca_20, sca_21, sca_22, sca_23, sca_24, sca_25, sca_26, sca_27, sca_28, sca_29, sca_30, sca_31, sca_32, sca_33, sca_34, sca_35, sca_36, scs_37_0, scs_37_1, scs_37_2, scs_37_3, sca_38, sca_39, sca_40, scs_41_0, scs_41_1, scs_41_2, scs_41_3, sca_42, sca_43, sca_44, scs_45_0, scs_45_1, scs_45_2, scs_45_3, sca_46, sca_47, sca_48, scs_49_0, scs_49_1, scs_49_2, scs_49_3, sca_50, sca_51, sca_52, scs_53_0, scs_53_1, scs_53_2, scs_53_3, sca_54, sca_55, sca_56, scs_57_0, scs_57_1, scs_57_2, scs_57_3, sca_58, sca_59, sca_60, scs_61_0, scs_61_1, scs_61_2, scs_61_3, sca_62, sca_63, sca_64, scs_65_0, scs_65_1, scs_65_2, scs_65_3, sca_66, sca_67, sca_68, scs_69_0, scs_69_1, scs_69_2, scs_69_3, sca_70, sca_71, sca_72, sc_st0, sc_st1, sc_st2, sc_sv0, sc_sv1, sc_sv2]
        obtain ⟨n1, n2⟩ := no (fun z => c3 z.2.2.1)
        rw [n1, n2]; exact ⟨by omega, rfl, hR⟩
    · refine vX8_wind_9 (Nat.le_of_ble_eq_true rfl) (o_mF hm c2) ?_
      simp only [sX8_wind_0, sX8_wind_1, sX8_wind_5, sX8_wind_8, sX8_wind_12, sX8_wind_15, sX8_wind_16, sX8_wind_17, sX8_wind_22, sX8_wind_25, sX8_wind_27, sX8_wind_28, sX8_wind_33, sX8_wind_36, sX8_wind_37, sX8_wind_38, sX8_wind_39, sX8_wind_42, sX8_wind_43, sX8_wind_44, sX8_wind_45, sX8_wind_46, sX8_wind_51, sX8_wind_54, sX8_wind_55, sX8_wind_56, sX8_wind_57, sX8_wind_60, sX8_wind_61, sX8_wind_62, sX8_wind_63, sX8_wind_66, sX8_wind_67, onI_i, onR_r, onS_s, slotA_i, slotA_b, slotA_l, slotA_r, ptk_i, ptk_b, ptk_l, aldP_s, aldP_n, uc_s, uc_n, uc_uc, ua_s, ua_n, Nat.reduceEqDiff, not_false_eq_true, true_or, or_true, true_and, and_true, implies_true, Option.some.injEq, Sum.inl.injEq, Int.toNat_natCast, true_implies, not_true_eq_false, false_implies, Int.reduceEq, Int.reduceLT, Int.reduceLE, Int.reduceNeg, Int.reduceAdd, Int.reduceSub, Int.reduceMul, Int.reduceToNat, lg_0, lg_1, lg_2, lg_3, lg_4, lz_0, lz_1, lz_2, lz_3, lz_4, scs_0_0, scs_0_1, scs_0_2, scs_0_3, scs_0_4, scs_0_5, scs_0_6, scs_0_7, scs_0_8, scs_0_9, scs_1_0, scs_1_1, scs_1_2, scs_1_3, scs_1_4, scs_1_5, scs_1_6, scs_1_7, scs_1_8, scs_1_9, scs_1_10, scs_1_11, scs_1_12, scs_1_13, scs_1_14, scs_1_15, scs_1_16, scs_1_17, scs_1_18, scr_2, scr_3, scs_4_0, scs_4_1, scs_5_0, scs_5_1, scs_5_2, scs_5_3, scs_5_4, scs_6_0, scs_6_1, scs_6_2, scs_6_3, scs_7_0, scs_7_1, scs_7_2, scs_7_3, scs_8_0, scs_8_1, scs_8_2, sca_9, sca_10, sca_11, sca_12, sca_13, sca_14, sca_15, sca_16, sca_17, sca_18, sca_19, sca_20, sca_21, sca_22, sca_23, sca_24, sca_25, sca_26, sca_27, sca_28, sca_29, sca_30, sca_31, sca_32, sca_33, sca_34, sca_35, sca_36, scs_37_0, scs_37_1, scs_37_2, scs_37_3, sca_38, sca_39, sca_40, scs_41_0, scs_41_1, scs_41_2, scs_41_3, sca_42, sca_43, sca_44, scs_45_0, scs_45_1, scs_45_2, scs_45_3, sca_46, sca_47, sca_48, scs_49_0, scs_49_1, scs_49_2, scs_49_3, sca_50, sca_51, sca_52, scs_53_0, scs_53_1, scs_53_2, scs_53_3, sca_54, sca_55, sca_56, scs_57_0, scs_57_1, scs_57_2, scs_57_3, sca_58, sca_59, sca_60, scs_61_0, scs_61_1, scs_61_2, scs_61_3, sca_62, sca_63, sca_64, scs_65_0, scs_65_1, scs_65_2, scs_65_3, sca_66, sca_67, sca_68, scs_69_0, scs_69_1, scs_69_2, scs_69_3, sca_70, sca_71, sca_72, sc_st0, sc_st1, sc_st2, sc_sv0, sc_sv1, sc_sv2]
      obtain ⟨n1, n2⟩ := no (fun z => c2 z.2.1)
      rw [n1, n2]; exact ⟨by omega, rfl, hR⟩
  · refine vX8_wind_2 (Nat.le_of_ble_eq_true rfl) rfl (o_wdF hg hG hw c1) ?_
    simp only [sX8_wind_0, sX8_wind_1, sX8_wind_5, sX8_wind_8, sX8_wind_12, sX8_wind_15, sX8_wind_16, sX8_wind_17, sX8_wind_22, sX8_wind_25, sX8_wind_27, sX8_wind_28, sX8_wind_33, sX8_wind_36, sX8_wind_37, sX8_wind_38, sX8_wind_39, sX8_wind_42, sX8_wind_43, sX8_wind_44, sX8_wind_45, sX8_wind_46, sX8_wind_51, sX8_wind_54, sX8_wind_55, sX8_wind_56, sX8_wind_57, sX8_wind_60, sX8_wind_61, sX8_wind_62, sX8_wind_63, sX8_wind_66, sX8_wind_67, onI_i, onR_r, onS_s, slotA_i, slotA_b, slotA_l, slotA_r, ptk_i, ptk_b, ptk_l, aldP_s, aldP_n, uc_s, uc_n, uc_uc, ua_s, ua_n, Nat.reduceEqDiff, not_false_eq_true, true_or, or_true, true_and, and_true, implies_true, Option.some.injEq, Sum.inl.injEq, Int.toNat_natCast, true_implies, not_true_eq_false, false_implies, Int.reduceEq, Int.reduceLT, Int.reduceLE, Int.reduceNeg, Int.reduceAdd, Int.reduceSub, Int.reduceMul, Int.reduceToNat, lg_0, lg_1, lg_2, lg_3, lg_4, lz_0, lz_1, lz_2, lz_3, lz_4, scs_0_0, scs_0_1, scs_0_2, scs_0_3, scs_0_4, scs_0_5, scs_0_6, scs_0_7, scs_0_8, scs_0_9, scs_1_0, scs_1_1, scs_1_2, scs_1_3, scs_1_4, scs_1_5, scs_1_6, scs_1_7, scs_1_8, scs_1_9, scs_1_10, scs_1_11, scs_1_12, scs_1_13, scs_1_14, scs_1_15, scs_1_16, scs_1_17, scs_1_18, scr_2, scr_3, scs_4_0, scs_4_1, scs_5_0, scs_5_1, scs_5_2, scs_5_3, scs_5_4, scs_6_0, scs_6_1, scs_6_2, scs_6_3, scs_7_0, scs_7_1, scs_7_2, scs_7_3, scs_8_0, scs_8_1, scs_8_2, sca_9, sca_10, sca_11, sca_12, sca_13, sca_14, sca_15, sca_16, sca_17, sca_18, sca_19, sca_20, sca_21, sca_22, sca_23, sca_24, sca_25, sca_26, sca_27, sca_28, sca_29, sca_30, sca_31, sca_32, sca_33, sca_34, sca_35, sca_36, scs_37_0, scs_37_1, scs_37_2, scs_37_3, sca_38, sca_39, sca_40, scs_41_0, scs_41_1, scs_41_2, scs_41_3, sca_42, sca_43, sca_44, scs_45_0, scs_45_1, scs_45_2, scs_45_3, sca_46, sca_47, sca_48, scs_49_0, scs_49_1, scs_49_2, scs_49_3, sca_50, sca_51, sca_52, scs_53_0, scs_53_1, scs_53_2, scs_53_3, sca_54, sca_55, sca_56, scs_57_0, scs_57_1, scs_57_2, scs_57_3, sca_58, sca_59, sca_60, scs_61_0, scs_61_1, scs_61_2, scs_61_3, sca_62, sca_63, sca_64, scs_65_0, scs_65_1, scs_65_2, scs_65_3, sca_66, sca_67, sca_68, scs_69_0, scs_69_1, scs_69_2, scs_69_3, sca_70, sca_71, sca_72, sc_st0, sc_st1, sc_st2, sc_sv0, sc_sv1, sc_sv2]
    obtain ⟨n1, n2⟩ := no (fun z => c1 z.1)
    rw [n1, n2]; exact ⟨by omega, rfl, hR⟩
