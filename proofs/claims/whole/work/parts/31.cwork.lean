/-! the class's work -/
theorem psh_0 (t : Int) : psh t 0 = 0 := by unfold psh; (repeat' split) <;> rfl
theorem pshI_r {g : AH} (hg : gi g) {w : Nat} (hw : w < 4) {i d : Int} (hi : i < g 10 w) : -18 ≤ pshI g w i d ∧ pshI g w i d ≤ 54 := by
  unfold pshI
  split
  · omega
  · have := hg.2.2.2.2.1 w i.toNat hw (by omega)
    exact psh_r this.2.2.1
theorem one_mx (b : Int) : (if 1 < b then b else 1) = one b := by
  unfold one
  by_cases h : b < 1
  · rw [if_pos h, if_neg (by omega)]
  · rw [if_neg h]
    by_cases q : b = 1
    · rw [if_neg (by omega)]; omega
    · rw [if_pos (by omega)]
theorem one_r {b : Int} (h : b ≤ 91) : 1 ≤ one b ∧ one b ≤ 91 := by unfold one; split <;> omega
/-- one wind's stretch: the speed stands -/
theorem spd_seg {g : AH} (hg : gi g) {w : Nat} (hw : w < 4) {d ss : Int} {sp : Int → Int} (hsp : ∀ t, sp t = one (10 + psh (tn (wa g w t (g 10 w).toNat).2 d) (wa g w t (g 10 w).toNat).1 + ss)) {k : Nat} (hk : (k : Int) ≤ g 10 w) {t : Int} (h1 : ∀ j, k = j + 1 → g 11 (8 * w + j) ≤ t) (h2 : (k : Int) < g 10 w → t < g 11 (8 * w + k)) : sp t = one (10 + pshI g w ((k : Int) - 1) d + ss) := by
  have gw := hg.2.2.2.2.1 w
  have g10 := hg.2.2.2.1 w hw
  have hi : ∀ q, k ≤ q → q < (g 10 w).toNat → t < g 11 (8 * w + q) := by
    intro q q1 q2
    have a := h2 (by omega)
    by_cases e : q = k
    · subst e; exact a
    · have := (gw q hw (by omega)).2.2.2 k (by omega)
      omega
  rw [hsp t]
  unfold pshI
  cases k with
  | zero =>
    rw [wa_0 _ (fun q hq => hi q (by omega) hq), if_pos (by omega)]
    dsimp only
    rw [psh_0]
  | succ j =>
    rw [wa_at (g 10 w).toNat j (by omega) (h1 j rfl) (fun q q1 q2 => hi q (by omega) q2), if_neg (by omega)]
    rw [show ((((j + 1 : Nat) : Int) - 1).toNat) = j by omega]
set_option maxHeartbeats 1000000 in
theorem o_workDone {x g : AH} (hg : gi g) {w : Nat} (hw : w < 4) (hr : rW1 x g w) {b wk d ss : Int} {sp : Int → Int} (hsp : ∀ t, sp t = one (10 + psh (tn (wa g w t (g 10 w).toNat).2 d) (wa g w t (g 10 w).toNat).1 + ss)) (hs : -9 ≤ ss ∧ ss ≤ 27) (hb : 0 ≤ b ∧ b ≤ 5000) (hk : 0 < wk ∧ wk ≤ 20000) (hd : 0 ≤ d ∧ d ≤ 7) : Ok SC mX7_workDone [ar (37 + 4 * w), ai b, ai wk, ai d, ai ss] x (fun r h2 => r = some (ai (wdn sp 20000 wk b)) ∧ h2 = x) := by
  have e0 := scW_0 hw
  have e1 := scW_1 hw
  have e1a := scWa_1 hw
  have g10 := hg.2.2.2.1 w hw
  have x0 := hr.1
  have lp : ∀ (j k K : Nat) (mi le i : Int) (v8 v9 v10 : AV), (k : Int) + j = g 10 w → i = (k : Int) - 1 → wdn sp K le mi = wdn sp 20000 wk b → (0 < le ∧ le ≤ K ∧ le ≤ 20000) → (0 ≤ mi ∧ mi ≤ 5000) → (∀ q, k = q + 1 → g 11 (8 * w + q) ≤ mi) → SG SC mX7_workDone (fun r h2 => r = some (ai (wdn sp 20000 wk b)) ∧ h2 = x) 9 [ar (37 + 4 * w), ai b, ai wk, ai d, ai ss, ai mi, ai le, ai i, v8, v9, v10] [] x := by
    intro j
    induction j with
    | zero =>
      intro k K mi le i v8 v9 v10 hk hi hE hl hm hq
      subst hi
      have pr := pshI_r hg hw (i := (k : Int) - 1) (d := d) (by omega)
      have sr := one_r (b := 10 + pshI g w ((k : Int) - 1) d + ss) (by omega)
      have seg := fun (t : Int) (ht : mi ≤ t) => spd_seg hg hw hsp (k := k) (t := t) (by omega) (fun q e => by have := hq q e; omega) (fun z => by omega)
      have wi := wdn_in (sp := sp) sr.1 (1000000 - mi).toNat K le mi (fun t t1 _ => seg t t1) hl.1
      rw [sX7_workDone_9]
      simp only [sX7_workDone_0, sX7_workDone_1, sX7_workDone_3, sX7_workDone_4, sX7_workDone_6, sX7_workDone_7, sX7_workDone_11, sX7_workDone_12, sX7_workDone_15, sX7_workDone_18, sX7_workDone_20, sX7_workDone_21, sX7_workDone_22, sX7_workDone_23, sX7_workDone_26, sX7_workDone_29, sX7_workDone_30, sX7_workDone_33, sX7_workDone_35, sX7_workDone_36, sX7_workDone_37, sX7_workDone_38, sX7_workDone_41, sX7_workDone_43, sX7_workDone_45, sX7_workDone_47, sX7_workDone_49, sX7_workDone_52, sX7_workDone_53, sX7_workDone_55, sX7_workDone_56, sX7_workDone_58, sX7_workDone_62, sX7_workDone_63, sX7_workDone_65, sX7_workDone_66, sX7_workDone_69, sX7_workDone_71, sX7_workDone_73, sX7_workDone_75, sX7_workDone_77, sX7_workDone_78, sX7_workDone_79, sX7_workDone_81, sX7_workDone_83, sX7_workDone_85, sX7_workDone_88, sX7_workDone_90, sX7_workDone_92, sX7_workDone_94, sX7_workDone_95, sX7_workDone_96, sX7_workDone_97, sX7_workDone_99, sX7_workDone_100, sX7_workDone_101, sX7_workDone_102, sX7_workDone_104, sX7_workDone_106, sX7_workDone_107, sX7_workDone_109, sX7_workDone_111, sX7_workDone_113, sX7_workDone_116, sX7_workDone_119, sX7_workDone_121, onI_i, onR_r, onS_s, slotA_i, slotA_b, slotA_l, slotA_r, ptk_i, ptk_b, ptk_l, aldP_s, aldP_n, uc_s, uc_n, uc_uc, ua_s, ua_n, Nat.reduceEqDiff, not_false_eq_true, true_or, or_true, true_and, and_true, implies_true, Option.some.injEq, Sum.inl.injEq, Int.toNat_natCast, true_implies, not_true_eq_false, false_implies, Int.reduceEq, Int.reduceLT, Int.reduceLE, Int.reduceNeg, Int.reduceAdd, Int.reduceSub, Int.reduceMul, Int.reduceToNat, lg_0, lg_1, lg_2, lg_3, lg_4, lg_5, lg_6, lg_7, lg_8, lg_9, lg_10, lz_0, lz_1, lz_2, lz_3, lz_4, lz_5, lz_6, lz_7, lz_8, lz_9, lz_10, scs_0_0, scs_0_1, scs_0_2, scs_0_3, scs_0_4, scs_0_5, scs_0_6, scs_0_7, scs_0_8, scs_0_9, scs_1_0, scs_1_1, scs_1_2, scs_1_3, scs_1_4, scs_1_5, scs_1_6, scs_1_7, scs_1_8, scs_1_9, scs_1_10, scs_1_11, scs_1_12, scs_1_13, scs_1_14, scs_1_15, scs_1_16, scs_1_17, scs_1_18, scr_2, scr_3, scs_4_0, scs_4_1, scs_5_0, scs_5_1, scs_5_2, scs_5_3, scs_5_4, scs_6_0, scs_6_1, scs_6_2, scs_6_3, scs_7_0, scs_7_1, scs_7_2, scs_7_3, scs_8_0, scs_8_1, scs_8_2, sca_9, sca_10, sca_11, sca_12, sca_13, sca_14, sca_15, sca_16, sca_17, sca_18, sca_19, sca_20, sca_21, sca_22, sca_23, sca_24, sca_25, sca_26, sca_27, sca_28, sca_29, sca_30, sca_31, sca_32, sca_33, sca_34, sca_35, sca_36, scs_37_0, scs_37_1, scs_37_2, scs_37_3, sca_38, sca_39, sca_40, scs_41_0, scs_41_1, scs_41_2, scs_41_3, sca_42, sca_43, sca_44, scs_45_0, scs_45_1, scs_45_2, scs_45_3, sca_46, sca_47, sca_48, scs_49_0, scs_49_1, scs_49_2, scs_49_3, sca_50, sca_51, sca_52, scs_53_0, scs_53_1, scs_53_2, scs_53_3, sca_54, sca_55, sca_56, scs_57_0, scs_57_1, scs_57_2, scs_57_3, sca_58, sca_59, sca_60, scs_61_0, scs_61_1, scs_61_2, scs_61_3, sca_62, sca_63, sca_64, scs_65_0, scs_65_1, scs_65_2, scs_65_3, sca_66, sca_67, sca_68, scs_69_0, scs_69_1, scs_69_2, scs_69_3, sca_70, sca_71, sca_72, sc_st0, sc_st1, sc_st2, sc_sv0, sc_sv1, sc_sv2, e0, e1, e1a, x0]
      refine ⟨by omega, by omega, fun z => absurd z (by omega), fun _ => ⟨by omega, by omega, fun _ => ⟨by omega, by omega, fun z => absurd z (by omega), fun _ => ?_⟩, fun z => absurd z (by omega)⟩⟩
      refine vX7_workDone_59 (Nat.le_of_ble_eq_true rfl) (scWo hw) (o_push hg hw hr (by omega) hd) ?_
      simp only [sX7_workDone_0, sX7_workDone_1, sX7_workDone_3, sX7_workDone_4, sX7_workDone_6, sX7_workDone_7, sX7_workDone_11, sX7_workDone_12, sX7_workDone_15, sX7_workDone_18, sX7_workDone_20, sX7_workDone_21, sX7_workDone_22, sX7_workDone_23, sX7_workDone_26, sX7_workDone_29, sX7_workDone_30, sX7_workDone_33, sX7_workDone_35, sX7_workDone_36, sX7_workDone_37, sX7_workDone_38, sX7_workDone_41, sX7_workDone_43, sX7_workDone_45, sX7_workDone_47, sX7_workDone_49, sX7_workDone_52, sX7_workDone_53, sX7_workDone_55, sX7_workDone_56, sX7_workDone_58, sX7_workDone_62, sX7_workDone_63, sX7_workDone_65, sX7_workDone_66, sX7_workDone_69, sX7_workDone_71, sX7_workDone_73, sX7_workDone_75, sX7_workDone_77, sX7_workDone_78, sX7_workDone_79, sX7_workDone_81, sX7_workDone_83, sX7_workDone_85, sX7_workDone_88, sX7_workDone_90, sX7_workDone_92, sX7_workDone_94, sX7_workDone_95, sX7_workDone_96, sX7_workDone_97, sX7_workDone_99, sX7_workDone_100, sX7_workDone_101, sX7_workDone_102, sX7_workDone_104, sX7_workDone_106, sX7_workDone_107, sX7_workDone_109, sX7_workDone_111, sX7_workDone_113, sX7_workDone_116, sX7_workDone_119, sX7_workDone_121, onI_i, onR_r, onS_s, slotA_i, slotA_b, slotA_l, slotA_r, ptk_i, ptk_b, ptk_l, aldP_s, aldP_n, uc_s, uc_n, uc_uc, ua_s, ua_n, Nat.reduceEqDiff, not_false_eq_true, true_or, or_true, true_and, and_true, implies_true, Option.some.injEq, Sum.inl.injEq, Int.toNat_natCast, true_implies, not_true_eq_false, false_implies, Int.reduceEq, Int.reduceLT, Int.reduceLE, Int.reduceNeg, Int.reduceAdd, Int.reduceSub, Int.reduceMul, Int.reduceToNat, lg_0, lg_1, lg_2, lg_3, lg_4, lg_5, lg_6, lg_7, lg_8, lg_9, lg_10, lz_0, lz_1, lz_2, lz_3, lz_4, lz_5, lz_6, lz_7, lz_8, lz_9, lz_10, scs_0_0, scs_0_1, scs_0_2, scs_0_3, scs_0_4, scs_0_5, scs_0_6, scs_0_7, scs_0_8, scs_0_9, scs_1_0, scs_1_1, scs_1_2, scs_1_3, scs_1_4, scs_1_5, scs_1_6, scs_1_7, scs_1_8, scs_1_9, scs_1_10, scs_1_11, scs_1_12, scs_1_13, scs_1_14, scs_1_15, scs_1_16, scs_1_17, scs_1_18, scr_2, scr_3, scs_4_0, scs_4_1, scs_5_0, scs_5_1, scs_5_2, scs_5_3, scs_5_4, scs_6_0, scs_6_1, scs_6_2, scs_6_3, scs_7_0, scs_7_1, scs_7_2, scs_7_3, scs_8_0, scs_8_1, scs_8_2, sca_9, sca_10, sca_11, sca_12, sca_13, sca_14, sca_15, sca_16, sca_17, sca_18, sca_19, sca_20, sca_21, sca_22, sca_23, sca_24, sca_25, sca_26, sca_27, sca_28, sca_29, sca_30, sca_31, sca_32, sca_33, sca_34, sca_35, sca_36, scs_37_0, scs_37_1, scs_37_2, scs_37_3, sca_38, sca_39, sca_40, scs_41_0, scs_41_1, scs_41_2, scs_41_3, sca_42, sca_43, sca_44, scs_45_0, scs_45_1, scs_45_2, scs_45_3, sca_46, sca_47, sca_48, scs_49_0, scs_49_1, scs_49_2, scs_49_3, sca_50, sca_51, sca_52, scs_53_0, scs_53_1, scs_53_2, scs_53_3, sca_54, sca_55, sca_56, scs_57_0, scs_57_1, scs_57_2, scs_57_3, sca_58, sca_59, sca_60, scs_61_0, scs_61_1, scs_61_2, scs_61_3, sca_62, sca_63, sca_64, scs_65_0, scs_65_1, scs_65_2, scs_65_3, sca_66, sca_67, sca_68, scs_69_0, scs_69_1, scs_69_2, scs_69_3, sca_70, sca_71, sca_72, sc_st0, sc_st1, sc_st2, sc_sv0, sc_sv1, sc_sv2, e0, e1, e1a, x0, one_mx]
      generalize one (10 + pshI g w ((k : Int) - 1) d + ss) = v at *
      have p0 : 0 ≤ (v - 1) * (1000000 - mi) := Int.mul_nonneg (by omega) (by omega)
      have p1 : v * (1000000 - mi) ≤ 91 * (1000000 - mi) := Int.mul_le_mul_of_nonneg_right sr.2 (by omega)
      have p2 : (v - 1) * (1000000 - mi) = v * (1000000 - mi) - (1000000 - mi) := by rw [Int.sub_mul, Int.one_mul]
      have p3 : (((1000000 - mi).toNat : Nat) : Int) = 1000000 - mi := by omega
      rw [p3] at wi
      generalize v * (1000000 - mi) = P at *
      have td : (le + v - 1).tdiv v = (le + v - 1) / v := Int.tdiv_eq_ediv_of_nonneg (by omega)
      rw [td]
      refine ⟨by simp, by omega, by omega, by omega, by omega, fun z => absurd z (by omega), fun z => ⟨by omega, by omega, by omega, ?_⟩⟩
      rw [← hE, wi (by omega) (by omega)]
    | succ j ih =>
      intro k K mi le i v8 v9 v10 hk hi hE hl hm hq
      subst hi
      have pr := pshI_r hg hw (i := (k : Int) - 1) (d := d) (by omega)
      have sr := one_r (b := 10 + pshI g w ((k : Int) - 1) d + ss) (by omega)
      have gw := hg.2.2.2.2.1 w k hw (by omega)
      have xk := (hr.2 k (by omega)).1
      have ek : ((k : Int) - 1 + 1).toNat = k := by omega
      have seg := fun (t : Int) (ht : mi ≤ t) (ht2 : t < g 11 (8 * w + k)) => spd_seg hg hw hsp (k := k) (t := t) (by omega) (fun q e => by have := hq q e; omega) (fun z => ht2)
      have wi := wdn_in (sp := sp) sr.1 (g 11 (8 * w + k) - mi).toNat K le mi (fun t t1 t2 => seg t t1 (by omega)) hl.1
      have wo := wdn_over (sp := sp) sr.1 (g 11 (8 * w + k) - mi).toNat (K - (g 11 (8 * w + k) - mi).toNat) le mi (fun t t1 t2 => seg t t1 (by omega))
      rw [sX7_workDone_9]
      simp only [sX7_workDone_0, sX7_workDone_1, sX7_workDone_3, sX7_workDone_4, sX7_workDone_6, sX7_workDone_7, sX7_workDone_11, sX7_workDone_12, sX7_workDone_15, sX7_workDone_18, sX7_workDone_20, sX7_workDone_21, sX7_workDone_22, sX7_workDone_23, sX7_workDone_26, sX7_workDone_29, sX7_workDone_30, sX7_workDone_33, sX7_workDone_35, sX7_workDone_36, sX7_workDone_37, sX7_workDone_38, sX7_workDone_41, sX7_workDone_43, sX7_workDone_45, sX7_workDone_47, sX7_workDone_49, sX7_workDone_52, sX7_workDone_53, sX7_workDone_55, sX7_workDone_56, sX7_workDone_58, sX7_workDone_62, sX7_workDone_63, sX7_workDone_65, sX7_workDone_66, sX7_workDone_69, sX7_workDone_71, sX7_workDone_73, sX7_workDone_75, sX7_workDone_77, sX7_workDone_78, sX7_workDone_79, sX7_workDone_81, sX7_workDone_83, sX7_workDone_85, sX7_workDone_88, sX7_workDone_90, sX7_workDone_92, sX7_workDone_94, sX7_workDone_95, sX7_workDone_96, sX7_workDone_97, sX7_workDone_99, sX7_workDone_100, sX7_workDone_101, sX7_workDone_102, sX7_workDone_104, sX7_workDone_106, sX7_workDone_107, sX7_workDone_109, sX7_workDone_111, sX7_workDone_113, sX7_workDone_116, sX7_workDone_119, sX7_workDone_121, onI_i, onR_r, onS_s, slotA_i, slotA_b, slotA_l, slotA_r, ptk_i, ptk_b, ptk_l, aldP_s, aldP_n, uc_s, uc_n, uc_uc, ua_s, ua_n, Nat.reduceEqDiff, not_false_eq_true, true_or, or_true, true_and, and_true, implies_true, Option.some.injEq, Sum.inl.injEq, Int.toNat_natCast, true_implies, not_true_eq_false, false_implies, Int.reduceEq, Int.reduceLT, Int.reduceLE, Int.reduceNeg, Int.reduceAdd, Int.reduceSub, Int.reduceMul, Int.reduceToNat, lg_0, lg_1, lg_2, lg_3, lg_4, lg_5, lg_6, lg_7, lg_8, lg_9, lg_10, lz_0, lz_1, lz_2, lz_3, lz_4, lz_5, lz_6, lz_7, lz_8, lz_9, lz_10, scs_0_0, scs_0_1, scs_0_2, scs_0_3, scs_0_4, scs_0_5, scs_0_6, scs_0_7, scs_0_8, scs_0_9, scs_1_0, scs_1_1, scs_1_2, scs_1_3, scs_1_4, scs_1_5, scs_1_6, scs_1_7, scs_1_8, scs_1_9, scs_1_10, scs_1_11, scs_1_12, scs_1_13, scs_1_14, scs_1_15, scs_1_16, scs_1_17, scs_1_18, scr_2, scr_3, scs_4_0, scs_4_1, scs_5_0, scs_5_1, scs_5_2, scs_5_3, scs_5_4, scs_6_0, scs_6_1, scs_6_2, scs_6_3, scs_7_0, scs_7_1, scs_7_2, scs_7_3, scs_8_0, scs_8_1, scs_8_2, sca_9, sca_10, sca_11, sca_12, sca_13, sca_14, sca_15, sca_16, sca_17, sca_18, sca_19, sca_20, sca_21, sca_22, sca_23, sca_24, sca_25, sca_26, sca_27, sca_28, sca_29, sca_30, sca_31, sca_32, sca_33, sca_34, sca_35, sca_36, scs_37_0, scs_37_1, scs_37_2, scs_37_3, sca_38, sca_39, sca_40, scs_41_0, scs_41_1, scs_41_2, scs_41_3, sca_42, sca_43, sca_44, scs_45_0, scs_45_1, scs_45_2, scs_45_3, sca_46, sca_47, sca_48, scs_49_0, scs_49_1, scs_49_2, scs_49_3, sca_50, sca_51, sca_52, scs_53_0, scs_53_1, scs_53_2, scs_53_3, sca_54, sca_55, sca_56, scs_57_0, scs_57_1, scs_57_2, scs_57_3, sca_58, sca_59, sca_60, scs_61_0, scs_61_1, scs_61_2, scs_61_3, sca_62, sca_63, sca_64, scs_65_0, scs_65_1, scs_65_2, scs_65_3, sca_66, sca_67, sca_68, scs_69_0, scs_69_1, scs_69_2, scs_69_3, sca_70, sca_71, sca_72, sc_st0, sc_st1, sc_st2, sc_sv0, sc_sv1, sc_sv2, e0, e1, e1a, x0, ek, xk]
      refine ⟨by omega, by omega, fun z => absurd z (by omega), fun _ => ⟨by omega, by omega, fun z => absurd z (by omega), fun _ => ⟨by omega, by omega, by omega, fun z => ?_, fun z => ?_⟩⟩⟩
      · refine ih (k + 1) K mi le _ _ _ _ (by omega) (by omega) hE hl hm (fun q e => ?_)
        have : q = k := by omega
        subst this; exact z
      · refine vX7_workDone_59 (Nat.le_of_ble_eq_true rfl) (scWo hw) (o_push hg hw hr (by omega) hd) ?_
        simp only [sX7_workDone_0, sX7_workDone_1, sX7_workDone_3, sX7_workDone_4, sX7_workDone_6, sX7_workDone_7, sX7_workDone_11, sX7_workDone_12, sX7_workDone_15, sX7_workDone_18, sX7_workDone_20, sX7_workDone_21, sX7_workDone_22, sX7_workDone_23, sX7_workDone_26, sX7_workDone_29, sX7_workDone_30, sX7_workDone_33, sX7_workDone_35, sX7_workDone_36, sX7_workDone_37, sX7_workDone_38, sX7_workDone_41, sX7_workDone_43, sX7_workDone_45, sX7_workDone_47, sX7_workDone_49, sX7_workDone_52, sX7_workDone_53, sX7_workDone_55, sX7_workDone_56, sX7_workDone_58, sX7_workDone_62, sX7_workDone_63, sX7_workDone_65, sX7_workDone_66, sX7_workDone_69, sX7_workDone_71, sX7_workDone_73, sX7_workDone_75, sX7_workDone_77, sX7_workDone_78, sX7_workDone_79, sX7_workDone_81, sX7_workDone_83, sX7_workDone_85, sX7_workDone_88, sX7_workDone_90, sX7_workDone_92, sX7_workDone_94, sX7_workDone_95, sX7_workDone_96, sX7_workDone_97, sX7_workDone_99, sX7_workDone_100, sX7_workDone_101, sX7_workDone_102, sX7_workDone_104, sX7_workDone_106, sX7_workDone_107, sX7_workDone_109, sX7_workDone_111, sX7_workDone_113, sX7_workDone_116, sX7_workDone_119, sX7_workDone_121, onI_i, onR_r, onS_s, slotA_i, slotA_b, slotA_l, slotA_r, ptk_i, ptk_b, ptk_l, aldP_s, aldP_n, uc_s, uc_n, uc_uc, ua_s, ua_n, Nat.reduceEqDiff, not_false_eq_true, true_or, or_true, true_and, and_true, implies_true, Option.some.injEq, Sum.inl.injEq, Int.toNat_natCast, true_implies, not_true_eq_false, false_implies, Int.reduceEq, Int.reduceLT, Int.reduceLE, Int.reduceNeg, Int.reduceAdd, Int.reduceSub, Int.reduceMul, Int.reduceToNat, lg_0, lg_1, lg_2, lg_3, lg_4, lg_5, lg_6, lg_7, lg_8, lg_9, lg_10, lz_0, lz_1, lz_2, lz_3, lz_4, lz_5, lz_6, lz_7, lz_8, lz_9, lz_10, scs_0_0, scs_0_1, scs_0_2, scs_0_3, scs_0_4, scs_0_5, scs_0_6, scs_0_7, scs_0_8, scs_0_9, scs_1_0, scs_1_1, scs_1_2, scs_1_3, scs_1_4, scs_1_5, scs_1_6, scs_1_7, scs_1_8, scs_1_9, scs_1_10, scs_1_11, scs_1_12, scs_1_13, scs_1_14, scs_1_15, scs_1_16, scs_1_17, scs_1_18, scr_2, scr_3, scs_4_0, scs_4_1, scs_5_0, scs_5_1, scs_5_2, scs_5_3, scs_5_4, scs_6_0, scs_6_1, scs_6_2, scs_6_3, scs_7_0, scs_7_1, scs_7_2, scs_7_3, scs_8_0, scs_8_1, scs_8_2, sca_9, sca_10, sca_11, sca_12, sca_13, sca_14, sca_15, sca_16, sca_17, sca_18, sca_19, sca_20, sca_21, sca_22, sca_23, sca_24, sca_25, sca_26, sca_27, sca_28, sca_29, sca_30, sca_31, sca_32, sca_33, sca_34, sca_35, sca_36, scs_37_0, scs_37_1, scs_37_2, scs_37_3, sca_38, sca_39, sca_40, scs_41_0, scs_41_1, scs_41_2, scs_41_3, sca_42, sca_43, sca_44, scs_45_0, scs_45_1, scs_45_2, scs_45_3, sca_46, sca_47, sca_48, scs_49_0, scs_49_1, scs_49_2, scs_49_3, sca_50, sca_51, sca_52, scs_53_0, scs_53_1, scs_53_2, scs_53_3, sca_54, sca_55, sca_56, scs_57_0, scs_57_1, scs_57_2, scs_57_3, sca_58, sca_59, sca_60, scs_61_0, scs_61_1, scs_61_2, scs_61_3, sca_62, sca_63, sca_64, scs_65_0, scs_65_1, scs_65_2, scs_65_3, sca_66, sca_67, sca_68, scs_69_0, scs_69_1, scs_69_2, scs_69_3, sca_70, sca_71, sca_72, sc_st0, sc_st1, sc_st2, sc_sv0, sc_sv1, sc_sv2, e0, e1, e1a, x0, one_mx]
        generalize one (10 + pshI g w ((k : Int) - 1) d + ss) = v at *
        generalize hu : g 11 (8 * w + k) = u at *
        have p0 : 0 ≤ (v - 1) * (u - mi) := Int.mul_nonneg (by omega) (by omega)
        have p1 : v * (u - mi) ≤ 91 * (u - mi) := Int.mul_le_mul_of_nonneg_right sr.2 (by omega)
        have p2 : (v - 1) * (u - mi) = v * (u - mi) - (u - mi) := by rw [Int.sub_mul, Int.one_mul]
        have p3 : (((u - mi).toNat : Nat) : Int) = u - mi := by omega
        rw [p3] at wi wo
        generalize v * (u - mi) = P at *
        have td : (le + v - 1).tdiv v = (le + v - 1) / v := Int.tdiv_eq_ediv_of_nonneg (by omega)
        rw [td]
        refine ⟨by simp, by omega, by omega, by omega, by omega, fun z => ?_, fun z => ⟨by omega, by omega, by omega, ?_⟩⟩
        · refine ih (k + 1) (K - (u - mi).toNat) u (le - P) _ _ _ _ (by omega) (by omega) ?_ (by omega) (by omega) (fun q e => ?_)
          · have := wo (by omega)
            rw [show K - (u - mi).toNat + (u - mi).toNat = K by omega, hE, show mi + (u - mi) = u by omega] at this
            exact this.symm
          · have : q = k := by omega
            subst this; omega
        · rw [← hE, wi (by omega) (by omega)]
  refine Ok_of SC_ok (by decide +kernel) rfl (Nat.le_of_ble_eq_true rfl) ?_
  show SG SC mX7_workDone _ 0 [ar (37 + 4 * w), ai b, ai wk, ai d, ai ss, au, au, au, au, au, au] [] _
  simp only [sX7_workDone_0, sX7_workDone_1, sX7_workDone_3, sX7_workDone_4, sX7_workDone_6, sX7_workDone_7, sX7_workDone_11, sX7_workDone_12, sX7_workDone_15, sX7_workDone_18, sX7_workDone_20, sX7_workDone_21, sX7_workDone_22, sX7_workDone_23, sX7_workDone_26, sX7_workDone_29, sX7_workDone_30, sX7_workDone_33, sX7_workDone_35, sX7_workDone_36, sX7_workDone_37, sX7_workDone_38, sX7_workDone_41, sX7_workDone_43, sX7_workDone_45, sX7_workDone_47, sX7_workDone_49, sX7_workDone_52, sX7_workDone_53, sX7_workDone_55, sX7_workDone_56, sX7_workDone_58, sX7_workDone_62, sX7_workDone_63, sX7_workDone_65, sX7_workDone_66, sX7_workDone_69, sX7_workDone_71, sX7_workDone_73, sX7_workDone_75, sX7_workDone_77, sX7_workDone_78, sX7_workDone_79, sX7_workDone_81, sX7_workDone_83, sX7_workDone_85, sX7_workDone_88, sX7_workDone_90, sX7_workDone_92, sX7_workDone_94, sX7_workDone_95, sX7_workDone_96, sX7_workDone_97, sX7_workDone_99, sX7_workDone_100, sX7_workDone_101, sX7_workDone_102, sX7_workDone_104, sX7_workDone_106, sX7_workDone_107, sX7_workDone_109, sX7_workDone_111, sX7_workDone_113, sX7_workDone_116, sX7_workDone_119, sX7_workDone_121, onI_i, onR_r, onS_s, slotA_i, slotA_b, slotA_l, slotA_r, ptk_i, ptk_b, ptk_l, aldP_s, aldP_n, uc_s, uc_n, uc_uc, ua_s, ua_n, Nat.reduceEqDiff, not_false_eq_true, true_or, or_true, true_and, and_true, implies_true, Option.some.injEq, Sum.inl.injEq, Int.toNat_natCast, true_implies, not_true_eq_false, false_implies, Int.reduceEq, Int.reduceLT, Int.reduceLE, Int.reduceNeg, Int.reduceAdd, Int.reduceSub, Int.reduceMul, Int.reduceToNat, lg_0, lg_1, lg_2, lg_3, lg_4, lg_5, lg_6, lg_7, lg_8, lg_9, lg_10, lz_0, lz_1, lz_2, lz_3, lz_4, lz_5, lz_6, lz_7, lz_8, lz_9, lz_10, scs_0_0, scs_0_1, scs_0_2, scs_0_3, scs_0_4, scs_0_5, scs_0_6, scs_0_7, scs_0_8, scs_0_9, scs_1_0, scs_1_1, scs_1_2, scs_1_3, scs_1_4, scs_1_5, scs_1_6, scs_1_7, scs_1_8, scs_1_9, scs_1_10, scs_1_11, scs_1_12, scs_1_13, scs_1_14, scs_1_15, scs_1_16, scs_1_17, scs_1_18, scr_2, scr_3, scs_4_0, scs_4_1, scs_5_0, scs_5_1, scs_5_2, scs_5_3, scs_5_4, scs_6_0, scs_6_1, scs_6_2, scs_6_3, scs_7_0, scs_7_1, scs_7_2, scs_7_3, scs_8_0, scs_8_1, scs_8_2, sca_9, sca_10, sca_11, sca_12, sca_13, sca_14, sca_15, sca_16, sca_17, sca_18, sca_19, sca_20, sca_21, sca_22, sca_23, sca_24, sca_25, sca_26, sca_27, sca_28, sca_29, sca_30, sca_31, sca_32, sca_33, sca_34, sca_35, sca_36, scs_37_0, scs_37_1, scs_37_2, scs_37_3, sca_38, sca_39, sca_40, scs_41_0, scs_41_1, scs_41_2, scs_41_3, sca_42, sca_43, sca_44, scs_45_0, scs_45_1, scs_45_2, scs_45_3, sca_46, sca_47, sca_48, scs_49_0, scs_49_1, scs_49_2, scs_49_3, sca_50, sca_51, sca_52, scs_53_0, scs_53_1, scs_53_2, scs_53_3, sca_54, sca_55, sca_56, scs_57_0, scs_57_1, scs_57_2, scs_57_3, sca_58, sca_59, sca_60, scs_61_0, scs_61_1, scs_61_2, scs_61_3, sca_62, sca_63, sca_64, scs_65_0, scs_65_1, scs_65_2, scs_65_3, sca_66, sca_67, sca_68, scs_69_0, scs_69_1, scs_69_2, scs_69_3, sca_70, sca_71, sca_72, sc_st0, sc_st1, sc_st2, sc_sv0, sc_sv1, sc_sv2]
  exact lp (g 10 w).toNat 0 20000 b wk (-1) _ _ _ (by omega) rfl rfl (by omega) hb (fun q e => by omega)
def dcm (g : AH) (c m : Int) : Nat → Int
  | 0 => 0
  | k + 1 => dcm g c m k + (if g 14 k = c ∧ g 15 k ≤ m then 1 else 0)
theorem dcm_t (g : AH) (c m : Int) : ∀ k, dct g c m k = 150 * dcm g c m k
  | 0 => rfl
  | k + 1 => by
    unfold dct dcm
    rw [dcm_t g c m k]
    split <;> omega
theorem dcm_r (g : AH) (c m : Int) : ∀ k : Nat, 0 ≤ dcm g c m k ∧ dcm g c m k ≤ k
  | 0 => by simp [dcm]
  | k + 1 => by
    have := dcm_r g c m k
    unfold dcm
    split <;> omega
theorem dcn_r (g : AH) (c : Int) : ∀ k : Nat, 0 ≤ dcn g c k ∧ dcn g c k ≤ k
  | 0 => by simp [dcn]
  | k + 1 => by
    have := dcn_r g c k
    unfold dcn
    split <;> omega
theorem lsD_s (g : AH) (c m : Int) : ∀ k : Nat, (lsD g c k = -1 ∧ dcn g c k = 0 ∧ dcm g c m k = 0) ∨ ∃ j : Nat, j < k ∧ lsD g c k = j ∧ g 14 j = c ∧ dcn g c k = dcn g c j + 1 ∧ dcm g c m k = dcm g c m j + (if g 15 j ≤ m then 1 else 0)
  | 0 => Or.inl ⟨rfl, rfl, rfl⟩
  | k + 1 => by
    have e1 : lsD g c (k + 1) = if g 14 k = c then (k : Int) else lsD g c k := rfl
    have e2 : dcn g c (k + 1) = dcn g c k + (if g 14 k = c then 1 else 0) := rfl
    have e3 : dcm g c m (k + 1) = dcm g c m k + (if g 14 k = c ∧ g 15 k ≤ m then 1 else 0) := rfl
    rw [e1, e2, e3]
    by_cases q : g 14 k = c
    · right
      refine ⟨k, by omega, if_pos q, q, by rw [if_pos q], ?_⟩
      by_cases z : g 15 k ≤ m
      · rw [if_pos ⟨q, z⟩, if_pos z]
      · rw [if_neg (fun y => z y.2), if_neg z]
    · rw [if_neg q, if_neg q, if_neg (fun y => q y.1)]
      rcases lsD_s g c m k with ⟨a, b, e⟩ | ⟨j, a, b, e, f, h⟩
      · exact Or.inl ⟨a, by omega, by omega⟩
      · exact Or.inr ⟨j, by omega, b, e, by omega, by omega⟩
theorem o_dropsBy {x g : AH} (hg : gi g) (hr : rD x g) {m : Int} (hm : 0 ≤ m ∧ m ≤ 5000) {c : Nat} (hc : c < 64) : Ok SC mX3_dropsBy [ar 1, ai m, ai c] x (fun r h2 => r = some (ai (dcm g c m (g 0 3).toNat)) ∧ h2 = x) := by
  have g3 := hg.2.2.2.2.2.1
  have g14 := hg.2.2.2.2.2.2.1
  have xc := hr.2.1 c hc
  have x1 := xc.1
  have x2 := xc.2
  obtain ⟨n, hn⟩ : ∃ z : Nat, g 0 3 = z := ⟨(g 0 3).toNat, by omega⟩
  rw [hn, Int.toNat_natCast] at x1 x2
  rw [hn, Int.toNat_natCast]
  have nr := dcn_r g c n
  have lp : ∀ (k : Nat), k ≤ n → ∀ (f dr i : Int), dr = lsD g c k → i + dcn g c k = dcn g c n → f + dcm g c m k = dcm g c m n → SG SC mX3_dropsBy (fun r h2 => r = some (ai (dcm g c m n)) ∧ h2 = x) 13 [ar 1, ai m, ai c, ai f, ai dr, ai i] [] x := by
    intro k
    induction k using Nat.strongRecOn with
    | ind k ih =>
      intro hk f dr i h1 h2 h3
      have kr := dcn_r g c k
      rw [sX3_dropsBy_13]
      rcases lsD_s g c m k with ⟨a, b, e⟩ | ⟨j, a, b, e, q, p⟩
      · simp only [sX3_dropsBy_0, sX3_dropsBy_1, sX3_dropsBy_2, sX3_dropsBy_3, sX3_dropsBy_6, sX3_dropsBy_7, sX3_dropsBy_8, sX3_dropsBy_10, sX3_dropsBy_11, sX3_dropsBy_15, sX3_dropsBy_16, sX3_dropsBy_19, sX3_dropsBy_20, sX3_dropsBy_21, sX3_dropsBy_24, sX3_dropsBy_26, sX3_dropsBy_27, sX3_dropsBy_30, sX3_dropsBy_31, sX3_dropsBy_34, sX3_dropsBy_36, sX3_dropsBy_37, sX3_dropsBy_38, sX3_dropsBy_41, sX3_dropsBy_44, sX3_dropsBy_45, sX3_dropsBy_48, sX3_dropsBy_50, sX3_dropsBy_51, sX3_dropsBy_53, sX3_dropsBy_56, sX3_dropsBy_59, sX3_dropsBy_60, onI_i, onR_r, onS_s, slotA_i, slotA_b, slotA_l, slotA_r, ptk_i, ptk_b, ptk_l, aldP_s, aldP_n, uc_s, uc_n, uc_uc, ua_s, ua_n, Nat.reduceEqDiff, not_false_eq_true, true_or, or_true, true_and, and_true, implies_true, Option.some.injEq, Sum.inl.injEq, Int.toNat_natCast, true_implies, not_true_eq_false, false_implies, Int.reduceEq, Int.reduceLT, Int.reduceLE, Int.reduceNeg, Int.reduceAdd, Int.reduceSub, Int.reduceMul, Int.reduceToNat, lg_0, lg_1, lg_2, lg_3, lg_4, lg_5, lz_0, lz_1, lz_2, lz_3, lz_4, lz_5, scs_0_0, scs_0_1, scs_0_2, scs_0_3, scs_0_4, scs_0_5, scs_0_6, scs_0_7, scs_0_8, scs_0_9, scs_1_0, scs_1_1, scs_1_2, scs_1_3, scs_1_4, scs_1_5, scs_1_6, scs_1_7, scs_1_8, scs_1_9, scs_1_10, scs_1_11, scs_1_12, scs_1_13, scs_1_14, scs_1_15, scs_1_16, scs_1_17, scs_1_18, scr_2, scr_3, scs_4_0, scs_4_1, scs_5_0, scs_5_1, scs_5_2, scs_5_3, scs_5_4, scs_6_0, scs_6_1, scs_6_2, scs_6_3, scs_7_0, scs_7_1, scs_7_2, scs_7_3, scs_8_0, scs_8_1, scs_8_2, sca_9, sca_10, sca_11, sca_12, sca_13, sca_14, sca_15, sca_16, sca_17, sca_18, sca_19, sca_20, sca_21, sca_22, sca_23, sca_24, sca_25, sca_26, sca_27, sca_28, sca_29, sca_30, sca_31, sca_32, sca_33, sca_34, sca_35, sca_36, scs_37_0, scs_37_1, scs_37_2, scs_37_3, sca_38, sca_39, sca_40, scs_41_0, scs_41_1, scs_41_2, scs_41_3, sca_42, sca_43, sca_44, scs_45_0, scs_45_1, scs_45_2, scs_45_3, sca_46, sca_47, sca_48, scs_49_0, scs_49_1, scs_49_2, scs_49_3, sca_50, sca_51, sca_52, scs_53_0, scs_53_1, scs_53_2, scs_53_3, sca_54, sca_55, sca_56, scs_57_0, scs_57_1, scs_57_2, scs_57_3, sca_58, sca_59, sca_60, scs_61_0, scs_61_1, scs_61_2, scs_61_3, sca_62, sca_63, sca_64, scs_65_0, scs_65_1, scs_65_2, scs_65_3, sca_66, sca_67, sca_68, scs_69_0, scs_69_1, scs_69_2, scs_69_3, sca_70, sca_71, sca_72, sc_st0, sc_st1, sc_st2, sc_sv0, sc_sv1, sc_sv2, x1]
        refine ⟨by omega, by omega, by omega, fun _ => by omega, fun z => absurd z (by omega)⟩
      · rw [h1, b]
        have xj := hr.2.2 j (by omega)
        have xj1 := xj.1
        have xj2 := xj.2
        rw [e] at xj1
        have gj := g14 j (by omega)
        have jr := dcn_r g c j
        simp only [sX3_dropsBy_0, sX3_dropsBy_1, sX3_dropsBy_2, sX3_dropsBy_3, sX3_dropsBy_6, sX3_dropsBy_7, sX3_dropsBy_8, sX3_dropsBy_10, sX3_dropsBy_11, sX3_dropsBy_15, sX3_dropsBy_16, sX3_dropsBy_19, sX3_dropsBy_20, sX3_dropsBy_21, sX3_dropsBy_24, sX3_dropsBy_26, sX3_dropsBy_27, sX3_dropsBy_30, sX3_dropsBy_31, sX3_dropsBy_34, sX3_dropsBy_36, sX3_dropsBy_37, sX3_dropsBy_38, sX3_dropsBy_41, sX3_dropsBy_44, sX3_dropsBy_45, sX3_dropsBy_48, sX3_dropsBy_50, sX3_dropsBy_51, sX3_dropsBy_53, sX3_dropsBy_56, sX3_dropsBy_59, sX3_dropsBy_60, onI_i, onR_r, onS_s, slotA_i, slotA_b, slotA_l, slotA_r, ptk_i, ptk_b, ptk_l, aldP_s, aldP_n, uc_s, uc_n, uc_uc, ua_s, ua_n, Nat.reduceEqDiff, not_false_eq_true, true_or, or_true, true_and, and_true, implies_true, Option.some.injEq, Sum.inl.injEq, Int.toNat_natCast, true_implies, not_true_eq_false, false_implies, Int.reduceEq, Int.reduceLT, Int.reduceLE, Int.reduceNeg, Int.reduceAdd, Int.reduceSub, Int.reduceMul, Int.reduceToNat, lg_0, lg_1, lg_2, lg_3, lg_4, lg_5, lz_0, lz_1, lz_2, lz_3, lz_4, lz_5, scs_0_0, scs_0_1, scs_0_2, scs_0_3, scs_0_4, scs_0_5, scs_0_6, scs_0_7, scs_0_8, scs_0_9, scs_1_0, scs_1_1, scs_1_2, scs_1_3, scs_1_4, scs_1_5, scs_1_6, scs_1_7, scs_1_8, scs_1_9, scs_1_10, scs_1_11, scs_1_12, scs_1_13, scs_1_14, scs_1_15, scs_1_16, scs_1_17, scs_1_18, scr_2, scr_3, scs_4_0, scs_4_1, scs_5_0, scs_5_1, scs_5_2, scs_5_3, scs_5_4, scs_6_0, scs_6_1, scs_6_2, scs_6_3, scs_7_0, scs_7_1, scs_7_2, scs_7_3, scs_8_0, scs_8_1, scs_8_2, sca_9, sca_10, sca_11, sca_12, sca_13, sca_14, sca_15, sca_16, sca_17, sca_18, sca_19, sca_20, sca_21, sca_22, sca_23, sca_24, sca_25, sca_26, sca_27, sca_28, sca_29, sca_30, sca_31, sca_32, sca_33, sca_34, sca_35, sca_36, scs_37_0, scs_37_1, scs_37_2, scs_37_3, sca_38, sca_39, sca_40, scs_41_0, scs_41_1, scs_41_2, scs_41_3, sca_42, sca_43, sca_44, scs_45_0, scs_45_1, scs_45_2, scs_45_3, sca_46, sca_47, sca_48, scs_49_0, scs_49_1, scs_49_2, scs_49_3, sca_50, sca_51, sca_52, scs_53_0, scs_53_1, scs_53_2, scs_53_3, sca_54, sca_55, sca_56, scs_57_0, scs_57_1, scs_57_2, scs_57_3, sca_58, sca_59, sca_60, scs_61_0, scs_61_1, scs_61_2, scs_61_3, sca_62, sca_63, sca_64, scs_65_0, scs_65_1, scs_65_2, scs_65_3, sca_66, sca_67, sca_68, scs_69_0, scs_69_1, scs_69_2, scs_69_3, sca_70, sca_71, sca_72, sc_st0, sc_st1, sc_st2, sc_sv0, sc_sv1, sc_sv2, x1, xj1, xj2]
        refine ⟨by omega, by omega, by omega, fun z => absurd z (by omega), fun _ => ⟨by omega, by omega, fun z => absurd z (by omega), fun _ => ⟨by omega, by omega, by omega, fun z => ?_, fun z => ?_⟩⟩⟩
        · rw [if_neg (by omega)] at p
          exact ⟨by omega, ih j a (by omega) f _ _ rfl (by omega) (by omega)⟩
        · rw [if_pos (by omega)] at p
          exact ⟨by omega, ih j a (by omega) _ _ _ rfl (by omega) (by omega)⟩
  refine Ok_of SC_ok (by decide +kernel) rfl (Nat.le_of_ble_eq_true rfl) ?_
  show SG SC mX3_dropsBy _ 0 [ar 1, ai m, ai c, au, au, au] [] _
  simp only [sX3_dropsBy_0, sX3_dropsBy_1, sX3_dropsBy_2, sX3_dropsBy_3, sX3_dropsBy_6, sX3_dropsBy_7, sX3_dropsBy_8, sX3_dropsBy_10, sX3_dropsBy_11, sX3_dropsBy_15, sX3_dropsBy_16, sX3_dropsBy_19, sX3_dropsBy_20, sX3_dropsBy_21, sX3_dropsBy_24, sX3_dropsBy_26, sX3_dropsBy_27, sX3_dropsBy_30, sX3_dropsBy_31, sX3_dropsBy_34, sX3_dropsBy_36, sX3_dropsBy_37, sX3_dropsBy_38, sX3_dropsBy_41, sX3_dropsBy_44, sX3_dropsBy_45, sX3_dropsBy_48, sX3_dropsBy_50, sX3_dropsBy_51, sX3_dropsBy_53, sX3_dropsBy_56, sX3_dropsBy_59, sX3_dropsBy_60, onI_i, onR_r, onS_s, slotA_i, slotA_b, slotA_l, slotA_r, ptk_i, ptk_b, ptk_l, aldP_s, aldP_n, uc_s, uc_n, uc_uc, ua_s, ua_n, Nat.reduceEqDiff, not_false_eq_true, true_or, or_true, true_and, and_true, implies_true, Option.some.injEq, Sum.inl.injEq, Int.toNat_natCast, true_implies, not_true_eq_false, false_implies, Int.reduceEq, Int.reduceLT, Int.reduceLE, Int.reduceNeg, Int.reduceAdd, Int.reduceSub, Int.reduceMul, Int.reduceToNat, lg_0, lg_1, lg_2, lg_3, lg_4, lg_5, lz_0, lz_1, lz_2, lz_3, lz_4, lz_5, scs_0_0, scs_0_1, scs_0_2, scs_0_3, scs_0_4, scs_0_5, scs_0_6, scs_0_7, scs_0_8, scs_0_9, scs_1_0, scs_1_1, scs_1_2, scs_1_3, scs_1_4, scs_1_5, scs_1_6, scs_1_7, scs_1_8, scs_1_9, scs_1_10, scs_1_11, scs_1_12, scs_1_13, scs_1_14, scs_1_15, scs_1_16, scs_1_17, scs_1_18, scr_2, scr_3, scs_4_0, scs_4_1, scs_5_0, scs_5_1, scs_5_2, scs_5_3, scs_5_4, scs_6_0, scs_6_1, scs_6_2, scs_6_3, scs_7_0, scs_7_1, scs_7_2, scs_7_3, scs_8_0, scs_8_1, scs_8_2, sca_9, sca_10, sca_11, sca_12, sca_13, sca_14, sca_15, sca_16, sca_17, sca_18, sca_19, sca_20, sca_21, sca_22, sca_23, sca_24, sca_25, sca_26, sca_27, sca_28, sca_29, sca_30, sca_31, sca_32, sca_33, sca_34, sca_35, sca_36, scs_37_0, scs_37_1, scs_37_2, scs_37_3, sca_38, sca_39, sca_40, scs_41_0, scs_41_1, scs_41_2, scs_41_3, sca_42, sca_43, sca_44, scs_45_0, scs_45_1, scs_45_2, scs_45_3, sca_46, sca_47, sca_48, scs_49_0, scs_49_1, scs_49_2, scs_49_3, sca_50, sca_51, sca_52, scs_53_0, scs_53_1, scs_53_2, scs_53_3, sca_54, sca_55, sca_56, scs_57_0, scs_57_1, scs_57_2, scs_57_3, sca_58, sca_59, sca_60, scs_61_0, scs_61_1, scs_61_2, scs_61_3, sca_62, sca_63, sca_64, scs_65_0, scs_65_1, scs_65_2, scs_65_3, sca_66, sca_67, sca_68, scs_69_0, scs_69_1, scs_69_2, scs_69_3, sca_70, sca_71, sca_72, sc_st0, sc_st1, sc_st2, sc_sv0, sc_sv1, sc_sv2, x2]
  exact ⟨by omega, lp n (Nat.le_refl n) 0 _ 0 rfl (by omega) (by omega)⟩
theorem and1 : ∀ a : Fin 8, (Int32.ofInt (a.val : Int) &&& Int32.ofInt 1).toInt = (a.val : Int) % 2 := by decide +kernel
theorem and1i {a : Int} (ha : 0 ≤ a ∧ a ≤ 7) : (Int32.ofInt a &&& Int32.ofInt 1).toInt = a % 2 := by
  have := and1 ⟨a.toNat, by omega⟩
  dsimp only at this
  rw [Int.toNat_of_nonneg ha.1] at this
  exact this
theorem o_workInto {x g : AH} (hg : gi g) (hG : rG x g) (hr : rD x g) {m d : Int} (hm : 0 ≤ m ∧ m ≤ 5000) (hd : 0 ≤ d ∧ d ≤ 7) {c : Nat} (hc : c < 64) : Ok SC mX3_workInto [ar 1, ai c, ai d, ai m] x (fun r h2 => r = some (ai (wrk g c d m)) ∧ h2 = x) := by
  have x9 := (hG.2.2.2.2.1 c hc).1
  have x11 := (hG.2.2.2.2.1 c hc).2.2.1
  have gc := hg.2.1 c hc
  have g3 := hg.2.2.2.2.2.1
  have dr := dcm_r g c m (g 0 3).toNat
  refine Ok_of SC_ok (by decide +kernel) rfl (Nat.le_of_ble_eq_true rfl) ?_
  show SG SC mX3_workInto _ 0 [ar 1, ai c, ai d, ai m, au, au] [] _
  simp only [sX3_workInto_0, sX3_workInto_2, sX3_workInto_3, sX3_workInto_6, sX3_workInto_7, sX3_workInto_8, sX3_workInto_9, sX3_workInto_11, sX3_workInto_12, sX3_workInto_15, sX3_workInto_16, sX3_workInto_17, sX3_workInto_18, sX3_workInto_19, sX3_workInto_22, sX3_workInto_23, sX3_workInto_24, sX3_workInto_28, sX3_workInto_29, sX3_workInto_30, sX3_workInto_32, sX3_workInto_33, sX3_workInto_34, sX3_workInto_35, sX3_workInto_36, sX3_workInto_39, sX3_workInto_40, sX3_workInto_43, sX3_workInto_44, sX3_workInto_46, sX3_workInto_48, sX3_workInto_51, sX3_workInto_53, sX3_workInto_55, sX3_workInto_56, sX3_workInto_57, sX3_workInto_58, sX3_workInto_61, sX3_workInto_63, onI_i, onR_r, onS_s, slotA_i, slotA_b, slotA_l, slotA_r, ptk_i, ptk_b, ptk_l, aldP_s, aldP_n, uc_s, uc_n, uc_uc, ua_s, ua_n, Nat.reduceEqDiff, not_false_eq_true, true_or, or_true, true_and, and_true, implies_true, Option.some.injEq, Sum.inl.injEq, Int.toNat_natCast, true_implies, not_true_eq_false, false_implies, Int.reduceEq, Int.reduceLT, Int.reduceLE, Int.reduceNeg, Int.reduceAdd, Int.reduceSub, Int.reduceMul, Int.reduceToNat, lg_0, lg_1, lg_2, lg_3, lg_4, lg_5, lz_0, lz_1, lz_2, lz_3, lz_4, lz_5, scs_0_0, scs_0_1, scs_0_2, scs_0_3, scs_0_4, scs_0_5, scs_0_6, scs_0_7, scs_0_8, scs_0_9, scs_1_0, scs_1_1, scs_1_2, scs_1_3, scs_1_4, scs_1_5, scs_1_6, scs_1_7, scs_1_8, scs_1_9, scs_1_10, scs_1_11, scs_1_12, scs_1_13, scs_1_14, scs_1_15, scs_1_16, scs_1_17, scs_1_18, scr_2, scr_3, scs_4_0, scs_4_1, scs_5_0, scs_5_1, scs_5_2, scs_5_3, scs_5_4, scs_6_0, scs_6_1, scs_6_2, scs_6_3, scs_7_0, scs_7_1, scs_7_2, scs_7_3, scs_8_0, scs_8_1, scs_8_2, sca_9, sca_10, sca_11, sca_12, sca_13, sca_14, sca_15, sca_16, sca_17, sca_18, sca_19, sca_20, sca_21, sca_22, sca_23, sca_24, sca_25, sca_26, sca_27, sca_28, sca_29, sca_30, sca_31, sca_32, sca_33, sca_34, sca_35, sca_36, scs_37_0, scs_37_1, scs_37_2, scs_37_3, sca_38, sca_39, sca_40, scs_41_0, scs_41_1, scs_41_2, scs_41_3, sca_42, sca_43, sca_44, scs_45_0, scs_45_1, scs_45_2, scs_45_3, sca_46, sca_47, sca_48, scs_49_0, scs_49_1, scs_49_2, scs_49_3, sca_50, sca_51, sca_52, scs_53_0, scs_53_1, scs_53_2, scs_53_3, sca_54, sca_55, sca_56, scs_57_0, scs_57_1, scs_57_2, scs_57_3, sca_58, sca_59, sca_60, scs_61_0, scs_61_1, scs_61_2, scs_61_3, sca_62, sca_63, sca_64, scs_65_0, scs_65_1, scs_65_2, scs_65_3, sca_66, sca_67, sca_68, scs_69_0, scs_69_1, scs_69_2, scs_69_3, sca_70, sca_71, sca_72, sc_st0, sc_st1, sc_st2, sc_sv0, sc_sv1, sc_sv2, x9, x11]
  refine ⟨by omega, by omega, ?_⟩
  refine vX3_workInto_25 (Nat.le_of_ble_eq_true rfl) rfl (o_dropsBy hg hr hm hc) ?_
  have a1 := and1i hd
  simp only [sX3_workInto_0, sX3_workInto_2, sX3_workInto_3, sX3_workInto_6, sX3_workInto_7, sX3_workInto_8, sX3_workInto_9, sX3_workInto_11, sX3_workInto_12, sX3_workInto_15, sX3_workInto_16, sX3_workInto_17, sX3_workInto_18, sX3_workInto_19, sX3_workInto_22, sX3_workInto_23, sX3_workInto_24, sX3_workInto_28, sX3_workInto_29, sX3_workInto_30, sX3_workInto_32, sX3_workInto_33, sX3_workInto_34, sX3_workInto_35, sX3_workInto_36, sX3_workInto_39, sX3_workInto_40, sX3_workInto_43, sX3_workInto_44, sX3_workInto_46, sX3_workInto_48, sX3_workInto_51, sX3_workInto_53, sX3_workInto_55, sX3_workInto_56, sX3_workInto_57, sX3_workInto_58, sX3_workInto_61, sX3_workInto_63, onI_i, onR_r, onS_s, slotA_i, slotA_b, slotA_l, slotA_r, ptk_i, ptk_b, ptk_l, aldP_s, aldP_n, uc_s, uc_n, uc_uc, ua_s, ua_n, Nat.reduceEqDiff, not_false_eq_true, true_or, or_true, true_and, and_true, implies_true, Option.some.injEq, Sum.inl.injEq, Int.toNat_natCast, true_implies, not_true_eq_false, false_implies, Int.reduceEq, Int.reduceLT, Int.reduceLE, Int.reduceNeg, Int.reduceAdd, Int.reduceSub, Int.reduceMul, Int.reduceToNat, lg_0, lg_1, lg_2, lg_3, lg_4, lg_5, lz_0, lz_1, lz_2, lz_3, lz_4, lz_5, scs_0_0, scs_0_1, scs_0_2, scs_0_3, scs_0_4, scs_0_5, scs_0_6, scs_0_7, scs_0_8, scs_0_9, scs_1_0, scs_1_1, scs_1_2, scs_1_3, scs_1_4, scs_1_5, scs_1_6, scs_1_7, scs_1_8, scs_1_9, scs_1_10, scs_1_11, scs_1_12, scs_1_13, scs_1_14, scs_1_15, scs_1_16, scs_1_17, scs_1_18, scr_2, scr_3, scs_4_0, scs_4_1, scs_5_0, scs_5_1, scs_5_2, scs_5_3, scs_5_4, scs_6_0, scs_6_1, scs_6_2, scs_6_3, scs_7_0, scs_7_1, scs_7_2, scs_7_3, scs_8_0, scs_8_1, scs_8_2, sca_9, sca_10, sca_11, sca_12, sca_13, sca_14, sca_15, sca_16, sca_17, sca_18, sca_19, sca_20, sca_21, sca_22, sca_23, sca_24, sca_25, sca_26, sca_27, sca_28, sca_29, sca_30, sca_31, sca_32, sca_33, sca_34, sca_35, sca_36, scs_37_0, scs_37_1, scs_37_2, scs_37_3, sca_38, sca_39, sca_40, scs_41_0, scs_41_1, scs_41_2, scs_41_3, sca_42, sca_43, sca_44, scs_45_0, scs_45_1, scs_45_2, scs_45_3, sca_46, sca_47, sca_48, scs_49_0, scs_49_1, scs_49_2, scs_49_3, sca_50, sca_51, sca_52, scs_53_0, scs_53_1, scs_53_2, scs_53_3, sca_54, sca_55, sca_56, scs_57_0, scs_57_1, scs_57_2, scs_57_3, sca_58, sca_59, sca_60, scs_61_0, scs_61_1, scs_61_2, scs_61_3, sca_62, sca_63, sca_64, scs_65_0, scs_65_1, scs_65_2, scs_65_3, sca_66, sca_67, sca_68, scs_69_0, scs_69_1, scs_69_2, scs_69_3, sca_70, sca_71, sca_72, sc_st0, sc_st1, sc_st2, sc_sv0, sc_sv1, sc_sv2, a1]
  have we : wrk g c d m = slant d (100 * g 1 c + 10 * g 3 c + 150 * dcm g c m (g 0 3).toNat) := by unfold wrk; rw [dcm_t]
  rw [we]
  have td : ((100 * g 1 c + 10 * g 3 c + 150 * dcm g c m (g 0 3).toNat) * 7).tdiv 5 = (100 * g 1 c + 10 * g 3 c + 150 * dcm g c m (g 0 3).toNat) * 7 / 5 := Int.tdiv_eq_ediv_of_nonneg (by omega)
  rw [td]
  unfold slant
  refine ⟨by omega, by omega, fun z => ?_, fun z => ?_⟩
  · rw [if_neg (by omega)]
    (repeat' (first | apply And.intro | intro _)) <;> first | omega | (split <;> omega)
  · rw [if_pos (by omega)]
    (repeat' (first | apply And.intro | intro _)) <;> first | omega | (split <;> omega)
