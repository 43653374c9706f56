/-! the class's fire -/
def hX (x : AH) (f : Nat) (s : FS) : AH := updC (updC (updC x (54 + 4 * f) s.1) (55 + 4 * f) s.2.1) (56 + 4 * f) s.2.2
theorem hX_1 {x : AH} {f : Nat} {s : FS} : hX x f s (54 + 4 * f) = s.1 := by
  unfold hX; rw [uc_n (by omega), uc_n (by omega), uc_s]
theorem hX_2 {x : AH} {f : Nat} {s : FS} : hX x f s (55 + 4 * f) = s.2.1 := by
  unfold hX; rw [uc_n (by omega), uc_s]
theorem hX_3 {x : AH} {f : Nat} {s : FS} : hX x f s (56 + 4 * f) = s.2.2 := by
  unfold hX; rw [uc_s]
theorem hX_o {x : AH} {f : Nat} {s : FS} {k : Nat} (h1 : ¬ k = 54 + 4 * f) (h2 : ¬ k = 55 + 4 * f) (h3 : ¬ k = 56 + 4 * f) : hX x f s k = x k := by
  unfold hX; rw [uc_n h3, uc_n h2, uc_n h1]
theorem hX_e {x : AH} {f : Nat} {s : FS} (h1 : x (54 + 4 * f) = s.1) (h2 : x (55 + 4 * f) = s.2.1) (h3 : x (56 + 4 * f) = s.2.2) : hX x f s = x := by
  funext k
  by_cases e1 : k = 54 + 4 * f
  · subst e1; rw [hX_1, h1]
  by_cases e2 : k = 55 + 4 * f
  · subst e2; rw [hX_2, h2]
  by_cases e3 : k = 56 + 4 * f
  · subst e3; rw [hX_3, h3]
  exact hX_o e1 e2 e3
theorem hX_u1 {x : AH} {f : Nat} {s : FS} {b : Nat → Int} : updC (hX x f s) (54 + 4 * f) b = hX x f (b, s.2.1, s.2.2) := by
  funext k
  by_cases e1 : k = 54 + 4 * f
  · subst e1; rw [uc_s, hX_1]
  rw [uc_n e1]
  by_cases e2 : k = 55 + 4 * f
  · subst e2; rw [hX_2, hX_2]
  by_cases e3 : k = 56 + 4 * f
  · subst e3; rw [hX_3, hX_3]
  rw [hX_o e1 e2 e3, hX_o e1 e2 e3]
theorem hX_u2 {x : AH} {f : Nat} {s : FS} {b : Nat → Int} : updC (hX x f s) (55 + 4 * f) b = hX x f (s.1, b, s.2.2) := by
  funext k
  by_cases e2 : k = 55 + 4 * f
  · subst e2; rw [uc_s, hX_2]
  rw [uc_n e2]
  by_cases e1 : k = 54 + 4 * f
  · subst e1; rw [hX_1, hX_1]
  by_cases e3 : k = 56 + 4 * f
  · subst e3; rw [hX_3, hX_3]
  rw [hX_o e1 e2 e3, hX_o e1 e2 e3]
theorem hX_u3 {x : AH} {f : Nat} {s : FS} {b : Nat → Int} : updC (hX x f s) (56 + 4 * f) b = hX x f (s.1, s.2.1, b) := by
  funext k
  by_cases e3 : k = 56 + 4 * f
  · subst e3; rw [uc_s, hX_3]
  rw [uc_n e3]
  by_cases e1 : k = 54 + 4 * f
  · subst e1; rw [hX_1, hX_1]
  by_cases e2 : k = 55 + 4 * f
  · subst e2; rw [hX_2, hX_2]
  rw [hX_o e1 e2 e3, hX_o e1 e2 e3]
theorem hX_53 {x : AH} {f : Nat} {s : FS} {k : Nat} (h : k < 54) : hX x f s k = x k := hX_o (by omega) (by omega) (by omega)
theorem rG_o {x y g : AH} (e : ∀ k, k < 53 → ¬ k = 14 → y k = x k) (h : rG x g) : rG y g := by
  unfold rG at *
  simp only [e 0 (by omega) (by omega), e 1 (by omega) (by omega), e 9 (by omega) (by omega), e 10 (by omega) (by omega), e 11 (by omega) (by omega), e 12 (by omega) (by omega), e 13 (by omega) (by omega), e 15 (by omega) (by omega), e 16 (by omega) (by omega), e 17 (by omega) (by omega), e 18 (by omega) (by omega), e 19 (by omega) (by omega)]
  exact h
theorem rD_o {x y g : AH} (e : ∀ k, k < 53 → ¬ k = 14 → y k = x k) (h : rD x g) : rD y g := by
  unfold rD at *
  simp only [e 1 (by omega) (by omega), e 20 (by omega) (by omega), e 21 (by omega) (by omega), e 22 (by omega) (by omega), e 23 (by omega) (by omega)]
  exact h
theorem rW1_o {x y g : AH} (e : ∀ k, k < 53 → ¬ k = 14 → y k = x k) {w : Nat} (hw : w < 4) (h : rW1 x g w) : rW1 y g w := by
  unfold rW1 at *
  simp only [e (37 + 4 * w) (by omega) (by omega), e (38 + 4 * w) (by omega) (by omega), e (39 + 4 * w) (by omega) (by omega), e (40 + 4 * w) (by omega) (by omega)]
  exact h
theorem o_next {x : AH} {f : Nat} (hf : f < 5) {s : FS} {n : Nat} (hn : n ≤ 64) (hs : FR n s) : Ok SC mX2_nextToGo [ar (53 + 4 * f), ai n] (hX x f s) (fun r h2 => r = some (ai (pk s n)) ∧ h2 = hX x f s) := by
  have e1 := scF_1 hf
  have e3 := scF_3 hf
  have e4 := scFa_1 hf
  have e6 := scFa_3 hf
  have y1 : hX x f s (54 + 4 * f) = s.1 := hX_1
  have y3 : hX x f s (56 + 4 * f) = s.2.2 := hX_3
  have lp : ∀ (j k : Nat) (a b i : Int), k + j = n → i = k → a = pk s k → b = (if pk s k = -1 then 1000000 else s.1 (pk s k).toNat) → SG SC mX2_nextToGo (fun r h2 => r = some (ai (pk s n)) ∧ h2 = hX x f s) 8 [ar (53 + 4 * f), ai n, ai a, ai b, ai i] [] (hX x f s) := by
    intro j
    induction j with
    | zero =>
      intro k a b i hk hi ha hb
      have e : k = n := by omega
      subst e
      rw [sX2_nextToGo_8]
      simp only [sX2_nextToGo_0, sX2_nextToGo_1, sX2_nextToGo_2, sX2_nextToGo_4, sX2_nextToGo_5, sX2_nextToGo_6, sX2_nextToGo_10, sX2_nextToGo_11, sX2_nextToGo_14, sX2_nextToGo_15, sX2_nextToGo_18, sX2_nextToGo_20, sX2_nextToGo_21, sX2_nextToGo_22, sX2_nextToGo_25, sX2_nextToGo_26, sX2_nextToGo_29, sX2_nextToGo_31, sX2_nextToGo_32, sX2_nextToGo_35, sX2_nextToGo_36, sX2_nextToGo_39, sX2_nextToGo_41, sX2_nextToGo_42, sX2_nextToGo_43, sX2_nextToGo_45, sX2_nextToGo_46, sX2_nextToGo_49, sX2_nextToGo_52, sX2_nextToGo_53, onI_i, onR_r, onS_s, slotA_i, slotA_b, slotA_l, slotA_r, ptk_i, ptk_b, ptk_l, aldP_s, aldP_n, uc_s, uc_n, uc_uc, ua_s, ua_n, Nat.reduceEqDiff, not_false_eq_true, true_or, or_true, true_and, and_true, implies_true, Option.some.injEq, Sum.inl.injEq, Int.toNat_natCast, true_implies, not_true_eq_false, false_implies, Int.reduceEq, Int.reduceLT, Int.reduceLE, Int.reduceNeg, Int.reduceAdd, Int.reduceSub, Int.reduceMul, Int.reduceToNat, lg_0, lg_1, lg_2, lg_3, lg_4, lz_0, lz_1, lz_2, lz_3, lz_4, scs_0_0, scs_0_1, scs_0_2, scs_0_3, scs_0_4, scs_0_5, scs_0_6, scs_0_7, scs_0_8, scs_0_9, scs_1_0, scs_1_1, scs_1_2, scs_1_3, scs_1_4, scs_1_5, scs_1_6, scs_1_7, scs_1_8, scs_1_9, scs_1_10, scs_1_11, scs_1_12, scs_1_13, scs_1_14, scs_1_15, scs_1_16, scs_1_17, scs_1_18, scr_2, scr_3, scs_4_0, scs_4_1, scs_5_0, scs_5_1, scs_5_2, scs_5_3, scs_5_4, scs_6_0, scs_6_1, scs_6_2, scs_6_3, scs_7_0, scs_7_1, scs_7_2, scs_7_3, scs_8_0, scs_8_1, scs_8_2, sca_9, sca_10, sca_11, sca_12, sca_13, sca_14, sca_15, sca_16, sca_17, sca_18, sca_19, sca_20, sca_21, sca_22, sca_23, sca_24, sca_25, sca_26, sca_27, sca_28, sca_29, sca_30, sca_31, sca_32, sca_33, sca_34, sca_35, sca_36, scs_37_0, scs_37_1, scs_37_2, scs_37_3, sca_38, sca_39, sca_40, scs_41_0, scs_41_1, scs_41_2, scs_41_3, sca_42, sca_43, sca_44, scs_45_0, scs_45_1, scs_45_2, scs_45_3, sca_46, sca_47, sca_48, scs_49_0, scs_49_1, scs_49_2, scs_49_3, sca_50, sca_51, sca_52, scs_53_0, scs_53_1, scs_53_2, scs_53_3, sca_54, sca_55, sca_56, scs_57_0, scs_57_1, scs_57_2, scs_57_3, sca_58, sca_59, sca_60, scs_61_0, scs_61_1, scs_61_2, scs_61_3, sca_62, sca_63, sca_64, scs_65_0, scs_65_1, scs_65_2, scs_65_3, sca_66, sca_67, sca_68, scs_69_0, scs_69_1, scs_69_2, scs_69_3, sca_70, sca_71, sca_72, sc_st0, sc_st1, sc_st2, sc_sv0, sc_sv1, sc_sv2, e1, e3, e4, e6]
      exact ⟨by omega, by omega, fun _ => ha, fun z => absurd z (by omega)⟩
    | succ j ih =>
      intro k a b i hk hi ha hb
      subst hi
      have sk := hs k (by omega)
      have pr := pk_r s k
      have br : (b = 1000000 ∧ pk s k = -1) ∨ (b = s.1 (pk s k).toNat ∧ ¬ pk s k = -1 ∧ 0 ≤ b ∧ b < 1000000) := by
        rcases pr with z | ⟨c, c1, c2, c3, c4⟩
        · left; rw [hb, if_pos z]; exact ⟨rfl, z⟩
        · right
          have sc := hs c (by omega)
          rw [if_neg (by omega), c2, Int.toNat_natCast] at hb
          rw [c2, Int.toNat_natCast]
          exact ⟨hb, by omega, by omega, by omega⟩
      have pe : pk s (k + 1) = if s.2.2 k = 0 ∧ s.1 k < 1000000 ∧ (pk s k = -1 ∨ s.1 k < s.1 (pk s k).toNat) then (k : Int) else pk s k := rfl
      have no : ¬ (s.2.2 k = 0 ∧ s.1 k < b) → SG SC mX2_nextToGo (fun r h2 => r = some (ai (pk s n)) ∧ h2 = hX x f s) 8 [ar (53 + 4 * f), ai n, ai a, ai b, ai ((k : Int) + 1)] [] (hX x f s) := by
        intro z
        have q : pk s (k + 1) = pk s k := by
          rw [pe, if_neg]
          rintro ⟨z1, z2, z3⟩
          rcases br with y | y <;> omega
        exact ih (k + 1) a b _ (by omega) rfl (by rw [q]; exact ha) (by rw [q]; exact hb)
      have yes : s.2.2 k = 0 ∧ s.1 k < b → SG SC mX2_nextToGo (fun r h2 => r = some (ai (pk s n)) ∧ h2 = hX x f s) 8 [ar (53 + 4 * f), ai n, ai k, ai (s.1 k), ai ((k : Int) + 1)] [] (hX x f s) := by
        intro z
        have q : pk s (k + 1) = k := by
          rw [pe, if_pos]
          rcases br with y | y
          · exact ⟨z.1, by omega, Or.inl y.2⟩
          · exact ⟨z.1, by omega, Or.inr (by omega)⟩
        exact ih (k + 1) _ _ _ (by omega) rfl q.symm (by rw [q, if_neg (by omega), Int.toNat_natCast])
      clear pe pr hb
      rw [sX2_nextToGo_8]
      simp only [sX2_nextToGo_0, sX2_nextToGo_1, sX2_nextToGo_2, sX2_nextToGo_4, sX2_nextToGo_5, sX2_nextToGo_6, sX2_nextToGo_10, sX2_nextToGo_11, sX2_nextToGo_14, sX2_nextToGo_15, sX2_nextToGo_18, sX2_nextToGo_20, sX2_nextToGo_21, sX2_nextToGo_22, sX2_nextToGo_25, sX2_nextToGo_26, sX2_nextToGo_29, sX2_nextToGo_31, sX2_nextToGo_32, sX2_nextToGo_35, sX2_nextToGo_36, sX2_nextToGo_39, sX2_nextToGo_41, sX2_nextToGo_42, sX2_nextToGo_43, sX2_nextToGo_45, sX2_nextToGo_46, sX2_nextToGo_49, sX2_nextToGo_52, sX2_nextToGo_53, onI_i, onR_r, onS_s, slotA_i, slotA_b, slotA_l, slotA_r, ptk_i, ptk_b, ptk_l, aldP_s, aldP_n, uc_s, uc_n, uc_uc, ua_s, ua_n, Nat.reduceEqDiff, not_false_eq_true, true_or, or_true, true_and, and_true, implies_true, Option.some.injEq, Sum.inl.injEq, Int.toNat_natCast, true_implies, not_true_eq_false, false_implies, Int.reduceEq, Int.reduceLT, Int.reduceLE, Int.reduceNeg, Int.reduceAdd, Int.reduceSub, Int.reduceMul, Int.reduceToNat, lg_0, lg_1, lg_2, lg_3, lg_4, lz_0, lz_1, lz_2, lz_3, lz_4, scs_0_0, scs_0_1, scs_0_2, scs_0_3, scs_0_4, scs_0_5, scs_0_6, scs_0_7, scs_0_8, scs_0_9, scs_1_0, scs_1_1, scs_1_2, scs_1_3, scs_1_4, scs_1_5, scs_1_6, scs_1_7, scs_1_8, scs_1_9, scs_1_10, scs_1_11, scs_1_12, scs_1_13, scs_1_14, scs_1_15, scs_1_16, scs_1_17, scs_1_18, scr_2, scr_3, scs_4_0, scs_4_1, scs_5_0, scs_5_1, scs_5_2, scs_5_3, scs_5_4, scs_6_0, scs_6_1, scs_6_2, scs_6_3, scs_7_0, scs_7_1, scs_7_2, scs_7_3, scs_8_0, scs_8_1, scs_8_2, sca_9, sca_10, sca_11, sca_12, sca_13, sca_14, sca_15, sca_16, sca_17, sca_18, sca_19, sca_20, sca_21, sca_22, sca_23, sca_24, sca_25, sca_26, sca_27, sca_28, sca_29, sca_30, sca_31, sca_32, sca_33, sca_34, sca_35, sca_36, scs_37_0, scs_37_1, scs_37_2, scs_37_3, sca_38, sca_39, sca_40, scs_41_0, scs_41_1, scs_41_2, scs_41_3, sca_42, sca_43, sca_44, scs_45_0, scs_45_1, scs_45_2, scs_45_3, sca_46, sca_47, sca_48, scs_49_0, scs_49_1, scs_49_2, scs_49_3, sca_50, sca_51, sca_52, scs_53_0, scs_53_1, scs_53_2, scs_53_3, sca_54, sca_55, sca_56, scs_57_0, scs_57_1, scs_57_2, scs_57_3, sca_58, sca_59, sca_60, scs_61_0, scs_61_1, scs_61_2, scs_61_3, sca_62, sca_63, sca_64, scs_65_0, scs_65_1, scs_65_2, scs_65_3, sca_66, sca_67, sca_68, scs_69_0, scs_69_1, scs_69_2, scs_69_3, sca_70, sca_71, sca_72, sc_st0, sc_st1, sc_st2, sc_sv0, sc_sv1, sc_sv2, e1, e3, e4, e6, y1, y3]
      refine ⟨by omega, by omega, fun z => absurd z (by omega), fun _ => ⟨by omega, by omega, by omega, fun z => no (by omega), fun z => ⟨by omega, by omega, fun z2 => no (by omega), fun z2 => ⟨by omega, yes (by omega)⟩⟩⟩⟩
  refine Ok_of SC_ok (by decide +kernel) rfl (Nat.le_of_ble_eq_true rfl) ?_
  show SG SC mX2_nextToGo _ 0 [ar (53 + 4 * f), ai n, au, au, au] [] _
  simp only [sX2_nextToGo_0, sX2_nextToGo_1, sX2_nextToGo_2, sX2_nextToGo_4, sX2_nextToGo_5, sX2_nextToGo_6, sX2_nextToGo_10, sX2_nextToGo_11, sX2_nextToGo_14, sX2_nextToGo_15, sX2_nextToGo_18, sX2_nextToGo_20, sX2_nextToGo_21, sX2_nextToGo_22, sX2_nextToGo_25, sX2_nextToGo_26, sX2_nextToGo_29, sX2_nextToGo_31, sX2_nextToGo_32, sX2_nextToGo_35, sX2_nextToGo_36, sX2_nextToGo_39, sX2_nextToGo_41, sX2_nextToGo_42, sX2_nextToGo_43, sX2_nextToGo_45, sX2_nextToGo_46, sX2_nextToGo_49, sX2_nextToGo_52, sX2_nextToGo_53, onI_i, onR_r, onS_s, slotA_i, slotA_b, slotA_l, slotA_r, ptk_i, ptk_b, ptk_l, aldP_s, aldP_n, uc_s, uc_n, uc_uc, ua_s, ua_n, Nat.reduceEqDiff, not_false_eq_true, true_or, or_true, true_and, and_true, implies_true, Option.some.injEq, Sum.inl.injEq, Int.toNat_natCast, true_implies, not_true_eq_false, false_implies, Int.reduceEq, Int.reduceLT, Int.reduceLE, Int.reduceNeg, Int.reduceAdd, Int.reduceSub, Int.reduceMul, Int.reduceToNat, lg_0, lg_1, lg_2, lg_3, lg_4, lz_0, lz_1, lz_2, lz_3, lz_4, scs_0_0, scs_0_1, scs_0_2, scs_0_3, scs_0_4, scs_0_5, scs_0_6, scs_0_7, scs_0_8, scs_0_9, scs_1_0, scs_1_1, scs_1_2, scs_1_3, scs_1_4, scs_1_5, scs_1_6, scs_1_7, scs_1_8, scs_1_9, scs_1_10, scs_1_11, scs_1_12, scs_1_13, scs_1_14, scs_1_15, scs_1_16, scs_1_17, scs_1_18, scr_2, scr_3, scs_4_0, scs_4_1, scs_5_0, scs_5_1, scs_5_2, scs_5_3, scs_5_4, scs_6_0, scs_6_1, scs_6_2, scs_6_3, scs_7_0, scs_7_1, scs_7_2, scs_7_3, scs_8_0, scs_8_1, scs_8_2, sca_9, sca_10, sca_11, sca_12, sca_13, sca_14, sca_15, sca_16, sca_17, sca_18, sca_19, sca_20, sca_21, sca_22, sca_23, sca_24, sca_25, sca_26, sca_27, sca_28, sca_29, sca_30, sca_31, sca_32, sca_33, sca_34, sca_35, sca_36, scs_37_0, scs_37_1, scs_37_2, scs_37_3, sca_38, sca_39, sca_40, scs_41_0, scs_41_1, scs_41_2, scs_41_3, sca_42, sca_43, sca_44, scs_45_0, scs_45_1, scs_45_2, scs_45_3, sca_46, sca_47, sca_48, scs_49_0, scs_49_1, scs_49_2, scs_49_3, sca_50, sca_51, sca_52, scs_53_0, scs_53_1, scs_53_2, scs_53_3, sca_54, sca_55, sca_56, scs_57_0, scs_57_1, scs_57_2, scs_57_3, sca_58, sca_59, sca_60, scs_61_0, scs_61_1, scs_61_2, scs_61_3, sca_62, sca_63, sca_64, scs_65_0, scs_65_1, scs_65_2, scs_65_3, sca_66, sca_67, sca_68, scs_69_0, scs_69_1, scs_69_2, scs_69_3, sca_70, sca_71, sca_72, sc_st0, sc_st1, sc_st2, sc_sv0, sc_sv1, sc_sv2]
  exact lp n 0 _ _ 0 (by omega) rfl rfl rfl
/-- while cell c goes on -/
def goI (n c : Nat) (t : FS) : Prop := FR n t ∧ t.1 c ≤ 5000 ∧ t.2.2 c = 1 ∧ ∀ to, to < n → t.2.2 to = 1 → t.1 to ≤ t.1 c
theorem rl1_o {m : Int} {c to : Nat} {s : FS} {y : Nat} (h : ¬ y = to) : (rl1 m c to s).1 y = s.1 y := by
  unfold rl1
  split
  · rfl
  · split
    · exact ua_n h
    · split <;> rfl
theorem rl1_v (m : Int) (c to : Nat) (s : FS) : (rl1 m c to s).1 to = s.1 to ∨ (rl1 m c to s).1 to = m := by
  unfold rl1
  split
  · exact Or.inl rfl
  · split
    · exact Or.inr ua_s
    · split <;> exact Or.inl rfl
theorem rl1_n {m : Int} {c to : Nat} {s : FS} (h : m = 1000000 ∨ s.1 to < m) : rl1 m c to s = s := by
  unfold rl1
  by_cases q : m = 1000000
  · rw [if_pos q]
  · rw [if_neg q, if_neg (by omega), if_neg (by omega)]
theorem rlx_no {nb : Nat → Nat → Int} {av : Nat → Nat → Nat → Int → Int} {c d : Nat} {s : FS} (h : nb c d = -1) : rlx nb av c s d = s := if_pos h
theorem rlx_to {nb : Nat → Nat → Int} {av : Nat → Nat → Nat → Int → Int} {c d : Nat} {s : FS} {to : Nat} (h : nb c d = to) : rlx nb av c s d = rl1 (av c to d (s.1 c)) c to s := by
  unfold rlx
  rw [if_neg (by omega), h, Int.toNat_natCast]
theorem rlx_gone {g : AH} (hg : gi g) {ct : Nat → Int} {w : Nat} (hw : w < 4) {c d : Nat} (hc : c < nG g) (hd : d < 8) {s : FS} (h : goI (nG g) c s) {to : Nat} (ht : to < nG g) (e : nbF g c d = to) (h1 : s.2.2 to = 1) : rlx (nbF g) (avF g ct w) c s d = s := by
  rw [rlx_to e]
  have a := avF_r hg (ct := ct) hw hc ht hd (show 0 ≤ s.1 c ∧ s.1 c ≤ 5000 from ⟨(h.1 c hc).1.1, h.2.1⟩)
  have b := h.2.2.2 to ht h1
  exact rl1_n (by omega)
theorem rlx_I {g : AH} (hg : gi g) {ct : Nat → Int} {w : Nat} (hw : w < 4) {c d : Nat} (hc : c < nG g) (hd : d < 8) {s : FS} (h : goI (nG g) c s) : goI (nG g) c (rlx (nbF g) (avF g ct w) c s d) ∧ (∀ b, s.2.2 b = 1 → b < nG g → (rlx (nbF g) (avF g ct w) c s d).1 b = s.1 b) ∧ ∀ b, s.1 c ≤ s.1 b → s.1 c ≤ (rlx (nbF g) (avF g ct w) c s d).1 b := by
  rcases nbF_r hg c d with z | z
  · rw [rlx_no z]; exact ⟨h, fun b _ _ => rfl, fun b hb => hb⟩
  · obtain ⟨to, e⟩ : ∃ z : Nat, nbF g c d = z := ⟨(nbF g c d).toNat, by omega⟩
    have ht : to < nG g := by omega
    have tr := h.1 to ht
    by_cases q : s.2.2 to = 1
    · rw [rlx_gone hg hw hc hd h ht e q]; exact ⟨h, fun b _ _ => rfl, fun b hb => hb⟩
    · have r := rlx_r hg (ct := ct) hw hc hd h.1 h.2.1
      have dd := rlx_d (nbF g) (avF g ct w) c s d
      have a := avF_r hg (ct := ct) hw hc ht hd (show 0 ≤ s.1 c ∧ s.1 c ≤ 5000 from ⟨(h.1 c hc).1.1, h.2.1⟩)
      have same : ∀ b, s.2.2 b = 1 → b < nG g → (rlx (nbF g) (avF g ct w) c s d).1 b = s.1 b := by
        intro b hb _
        rw [rlx_to e]
        exact rl1_o (fun z => q (by rw [← z]; exact hb))
      have sc := same c h.2.2.1 hc
      refine ⟨⟨r, by rw [sc]; exact h.2.1, by rw [dd]; exact h.2.2.1, fun b hb h1 => ?_⟩, same, fun b hb => ?_⟩
      · rw [dd] at h1
        rw [same b h1 hb, sc]
        exact h.2.2.2 b hb h1
      · rw [rlx_to e]
        by_cases y : b = to
        · subst y
          have v := rl1_v (avF g ct w c b d (s.1 c)) c b s
          have sb := h.1 b ht
          have s5 := h.2.1
          omega
        · rw [rl1_o y]; exact hb
theorem rlK_I {g : AH} (hg : gi g) {ct : Nat → Int} {w : Nat} (hw : w < 4) {c : Nat} (hc : c < nG g) {s : FS} (h : goI (nG g) c s) : ∀ k, k ≤ 8 → goI (nG g) c (rlK (nbF g) (avF g ct w) c k s) ∧ (∀ b, s.2.2 b = 1 → b < nG g → (rlK (nbF g) (avF g ct w) c k s).1 b = s.1 b) ∧ ∀ b, s.1 c ≤ s.1 b → s.1 c ≤ (rlK (nbF g) (avF g ct w) c k s).1 b
  | 0, _ => ⟨h, fun _ _ _ => rfl, fun _ hb => hb⟩
  | k + 1, hk => by
    obtain ⟨a, b, e⟩ := rlK_I hg (ct := ct) hw hc h k (by omega)
    obtain ⟨a2, b2, e2⟩ := rlx_I hg (ct := ct) hw hc (show k < 8 by omega) a
    have dd := rlK_d (nbF g) (avF g ct w) c k s
    rw [dd] at b2
    refine ⟨a2, fun y h1 h2 => ?_, fun y hy => ?_⟩
    · rw [← b y h1 h2]; exact b2 y h1 h2
    · have := e y hy
      have sc := b c h.2.2.1 hc
      rw [← sc]
      exact e2 y (by rw [sc]; exact this)
set_option maxHeartbeats 1000000 in
theorem o_goOn {x g : AH} (hg : gi g) {w f : Nat} (hw : w < 4) (hf : f < 5) (hG : rG x g) (hD : rD x g) (hW : rW1 x g w) {ct : Nat → Int} (hct : ∀ c, c < nG g → x 14 c = ct c ∧ inR (ct c)) {c : Nat} (hc : c < nG g) {s : FS} (hs : goI (nG g) c s) : Ok SC mX2_goOn [ar (53 + 4 * f), ar 1, ar (37 + 4 * w), ai c] (hX x f s) (fun r h2 => r = none ∧ h2 = hX x f (rlK (nbF g) (avF g ct w) c 8 s)) := by
  have hn := gi_n hg
  have e1 := scF_1 hf
  have e3 := scF_3 hf
  have e4 := scFa_1 hf
  have e6 := scFa_3 hf
  have o9 : ∀ t, hX x f t 9 = x 9 := fun t => hX_53 (by omega)
  have o13 : ∀ t, hX x f t 13 = x 13 := fun t => hX_53 (by omega)
  have o14 : ∀ t, hX x f t 14 = x 14 := fun t => hX_53 (by omega)
  have o18 : ∀ t, hX x f t 18 = x 18 := fun t => hX_53 (by omega)
  have gG : ∀ t, rG (hX x f t) g := fun t => rG_o (fun k hk _ => hX_53 (by omega)) hG
  have gD : ∀ t, rD (hX x f t) g := fun t => rD_o (fun k hk _ => hX_53 (by omega)) hD
  have gW : ∀ t, rW1 (hX x f t) g w := fun t => rW1_o (fun k hk _ => hX_53 (by omega)) hw hW
  have b5 : 0 ≤ s.1 c ∧ s.1 c ≤ 5000 := ⟨(hs.1 c hc).1.1, hs.2.1⟩
  have lp : ∀ (j k : Nat) (i : Int) (v6 v7 v8 v9 : AV), k + j = 8 → i = k → SG SC mX2_goOn (fun r h2 => r = none ∧ h2 = hX x f (rlK (nbF g) (avF g ct w) c 8 s)) 11 [ar (53 + 4 * f), ar 1, ar (37 + 4 * w), ai c, ai (s.1 c), ai i, v6, v7, v8, v9] [] (hX x f (rlK (nbF g) (avF g ct w) c k s)) := by
    intro j
    induction j with
    | zero =>
      intro k i v6 v7 v8 v9 hk hi
      have e : k = 8 := by omega
      subst e; subst hi
      rw [sX2_goOn_11]
      simp only [sX2_goOn_0, sX2_goOn_1, sX2_goOn_4, sX2_goOn_5, sX2_goOn_6, sX2_goOn_8, sX2_goOn_9, sX2_goOn_13, sX2_goOn_15, sX2_goOn_18, sX2_goOn_19, sX2_goOn_22, sX2_goOn_23, sX2_goOn_25, sX2_goOn_26, sX2_goOn_28, sX2_goOn_29, sX2_goOn_30, sX2_goOn_32, sX2_goOn_34, sX2_goOn_35, sX2_goOn_38, sX2_goOn_39, sX2_goOn_42, sX2_goOn_44, sX2_goOn_45, sX2_goOn_48, sX2_goOn_49, sX2_goOn_52, sX2_goOn_54, sX2_goOn_55, sX2_goOn_58, sX2_goOn_59, sX2_goOn_61, sX2_goOn_63, sX2_goOn_68, sX2_goOn_70, sX2_goOn_71, sX2_goOn_73, sX2_goOn_75, sX2_goOn_77, sX2_goOn_78, sX2_goOn_79, sX2_goOn_87, sX2_goOn_89, sX2_goOn_91, sX2_goOn_92, sX2_goOn_95, sX2_goOn_97, sX2_goOn_98, sX2_goOn_99, sX2_goOn_100, sX2_goOn_103, sX2_goOn_105, sX2_goOn_107, sX2_goOn_110, sX2_goOn_113, sX2_goOn_115, sX2_goOn_116, sX2_goOn_119, sX2_goOn_121, sX2_goOn_122, sX2_goOn_125, sX2_goOn_126, sX2_goOn_128, sX2_goOn_130, sX2_goOn_134, sX2_goOn_137, sX2_goOn_140, onI_i, onR_r, onS_s, slotA_i, slotA_b, slotA_l, slotA_r, ptk_i, ptk_b, ptk_l, aldP_s, aldP_n, uc_s, uc_n, uc_uc, ua_s, ua_n, Nat.reduceEqDiff, not_false_eq_true, true_or, or_true, true_and, and_true, implies_true, Option.some.injEq, Sum.inl.injEq, Int.toNat_natCast, true_implies, not_true_eq_false, false_implies, Int.reduceEq, Int.reduceLT, Int.reduceLE, Int.reduceNeg, Int.reduceAdd, Int.reduceSub, Int.reduceMul, Int.reduceToNat, lg_0, lg_1, lg_2, lg_3, lg_4, lg_5, lg_6, lg_7, lg_8, lg_9, lz_0, lz_1, lz_2, lz_3, lz_4, lz_5, lz_6, lz_7, lz_8, lz_9, scs_0_0, scs_0_1, scs_0_2, scs_0_3, scs_0_4, scs_0_5, scs_0_6, scs_0_7, scs_0_8, scs_0_9, scs_1_0, scs_1_1, scs_1_2, scs_1_3, scs_1_4, scs_1_5, scs_1_6, scs_1_7, scs_1_8, scs_1_9, scs_1_10, scs_1_11, scs_1_12, scs_1_13, scs_1_14, scs_1_15, scs_1_16, scs_1_17, scs_1_18, scr_2, scr_3, scs_4_0, scs_4_1, scs_5_0, scs_5_1, scs_5_2, scs_5_3, scs_5_4, scs_6_0, scs_6_1, scs_6_2, scs_6_3, scs_7_0, scs_7_1, scs_7_2, scs_7_3, scs_8_0, scs_8_1, scs_8_2, sca_9, sca_10, sca_11, sca_12, sca_13, sca_14, sca_15, sca_16, sca_17, sca_18, sca_19, sca_20, sca_21, sca_22, sca_23, sca_24, sca_25, sca_26, sca_27, sca_28, sca_29, sca_30, sca_31, sca_32, sca_33, sca_34, sca_35, sca_36, scs_37_0, scs_37_1, scs_37_2, scs_37_3, sca_38, sca_39, sca_40, scs_41_0, scs_41_1, scs_41_2, scs_41_3, sca_42, sca_43, sca_44, scs_45_0, scs_45_1, scs_45_2, scs_45_3, sca_46, sca_47, sca_48, scs_49_0, scs_49_1, scs_49_2, scs_49_3, sca_50, sca_51, sca_52, scs_53_0, scs_53_1, scs_53_2, scs_53_3, sca_54, sca_55, sca_56, scs_57_0, scs_57_1, scs_57_2, scs_57_3, sca_58, sca_59, sca_60, scs_61_0, scs_61_1, scs_61_2, scs_61_3, sca_62, sca_63, sca_64, scs_65_0, scs_65_1, scs_65_2, scs_65_3, sca_66, sca_67, sca_68, scs_69_0, scs_69_1, scs_69_2, scs_69_3, sca_70, sca_71, sca_72, sc_st0, sc_st1, sc_st2, sc_sv0, sc_sv1, sc_sv2]
      exact ⟨by omega, by omega, fun z => absurd z (by omega)⟩
    | succ j ih =>
      intro k i v6 v7 v8 v9 hk hi
      subst hi
      obtain ⟨a, b, _⟩ := rlK_I hg (ct := ct) hw hc hs k (by omega)
      have sc := b c hs.2.2.1 hc
      have ih2 := fun v6 v7 v8 v9 => ih (k + 1) ((k : Int) + 1) v6 v7 v8 v9 (by omega) rfl
      have re : rlK (nbF g) (avF g ct w) c (k + 1) s = rlx (nbF g) (avF g ct w) c (rlK (nbF g) (avF g ct w) c k s) k := rfl
      rw [re] at ih2
      have x18 := hG.2.2.2.2.2.1 c k hc (by omega)
      have ei : ((c : Int) * 8 + (k : Int)).toNat = 8 * c + k := by omega
      have nr := nbF_r hg c k
      rw [sX2_goOn_11]
      generalize rlK (nbF g) (avF g ct w) c k s = t at *
      have y1 : hX x f t (54 + 4 * f) = t.1 := hX_1
      have y3 : hX x f t (56 + 4 * f) = t.2.2 := hX_3
      simp only [sX2_goOn_0, sX2_goOn_1, sX2_goOn_4, sX2_goOn_5, sX2_goOn_6, sX2_goOn_8, sX2_goOn_9, sX2_goOn_13, sX2_goOn_15, sX2_goOn_18, sX2_goOn_19, sX2_goOn_22, sX2_goOn_23, sX2_goOn_25, sX2_goOn_26, sX2_goOn_28, sX2_goOn_29, sX2_goOn_30, sX2_goOn_32, sX2_goOn_34, sX2_goOn_35, sX2_goOn_38, sX2_goOn_39, sX2_goOn_42, sX2_goOn_44, sX2_goOn_45, sX2_goOn_48, sX2_goOn_49, sX2_goOn_52, sX2_goOn_54, sX2_goOn_55, sX2_goOn_58, sX2_goOn_59, sX2_goOn_61, sX2_goOn_63, sX2_goOn_68, sX2_goOn_70, sX2_goOn_71, sX2_goOn_73, sX2_goOn_75, sX2_goOn_77, sX2_goOn_78, sX2_goOn_79, sX2_goOn_87, sX2_goOn_89, sX2_goOn_91, sX2_goOn_92, sX2_goOn_95, sX2_goOn_97, sX2_goOn_98, sX2_goOn_99, sX2_goOn_100, sX2_goOn_103, sX2_goOn_105, sX2_goOn_107, sX2_goOn_110, sX2_goOn_113, sX2_goOn_115, sX2_goOn_116, sX2_goOn_119, sX2_goOn_121, sX2_goOn_122, sX2_goOn_125, sX2_goOn_126, sX2_goOn_128, sX2_goOn_130, sX2_goOn_134, sX2_goOn_137, sX2_goOn_140, onI_i, onR_r, onS_s, slotA_i, slotA_b, slotA_l, slotA_r, ptk_i, ptk_b, ptk_l, aldP_s, aldP_n, uc_s, uc_n, uc_uc, ua_s, ua_n, Nat.reduceEqDiff, not_false_eq_true, true_or, or_true, true_and, and_true, implies_true, Option.some.injEq, Sum.inl.injEq, Int.toNat_natCast, true_implies, not_true_eq_false, false_implies, Int.reduceEq, Int.reduceLT, Int.reduceLE, Int.reduceNeg, Int.reduceAdd, Int.reduceSub, Int.reduceMul, Int.reduceToNat, lg_0, lg_1, lg_2, lg_3, lg_4, lg_5, lg_6, lg_7, lg_8, lg_9, lz_0, lz_1, lz_2, lz_3, lz_4, lz_5, lz_6, lz_7, lz_8, lz_9, scs_0_0, scs_0_1, scs_0_2, scs_0_3, scs_0_4, scs_0_5, scs_0_6, scs_0_7, scs_0_8, scs_0_9, scs_1_0, scs_1_1, scs_1_2, scs_1_3, scs_1_4, scs_1_5, scs_1_6, scs_1_7, scs_1_8, scs_1_9, scs_1_10, scs_1_11, scs_1_12, scs_1_13, scs_1_14, scs_1_15, scs_1_16, scs_1_17, scs_1_18, scr_2, scr_3, scs_4_0, scs_4_1, scs_5_0, scs_5_1, scs_5_2, scs_5_3, scs_5_4, scs_6_0, scs_6_1, scs_6_2, scs_6_3, scs_7_0, scs_7_1, scs_7_2, scs_7_3, scs_8_0, scs_8_1, scs_8_2, sca_9, sca_10, sca_11, sca_12, sca_13, sca_14, sca_15, sca_16, sca_17, sca_18, sca_19, sca_20, sca_21, sca_22, sca_23, sca_24, sca_25, sca_26, sca_27, sca_28, sca_29, sca_30, sca_31, sca_32, sca_33, sca_34, sca_35, sca_36, scs_37_0, scs_37_1, scs_37_2, scs_37_3, sca_38, sca_39, sca_40, scs_41_0, scs_41_1, scs_41_2, scs_41_3, sca_42, sca_43, sca_44, scs_45_0, scs_45_1, scs_45_2, scs_45_3, sca_46, sca_47, sca_48, scs_49_0, scs_49_1, scs_49_2, scs_49_3, sca_50, sca_51, sca_52, scs_53_0, scs_53_1, scs_53_2, scs_53_3, sca_54, sca_55, sca_56, scs_57_0, scs_57_1, scs_57_2, scs_57_3, sca_58, sca_59, sca_60, scs_61_0, scs_61_1, scs_61_2, scs_61_3, sca_62, sca_63, sca_64, scs_65_0, scs_65_1, scs_65_2, scs_65_3, sca_66, sca_67, sca_68, scs_69_0, scs_69_1, scs_69_2, scs_69_3, sca_70, sca_71, sca_72, sc_st0, sc_st1, sc_st2, sc_sv0, sc_sv1, sc_sv2, e1, e3, e4, e6, y1, y3, o9, o13, o14, o18, ei, x18]
      refine ⟨by omega, by omega, fun z => absurd z (by omega), fun _ => ⟨by omega, by omega, by omega, fun z => ?_, fun z => ?_⟩⟩
      · rw [rlx_no z] at ih2; exact ih2 _ _ _ _
      · generalize hto : nbF g c k = to at *
        obtain ⟨to, rfl⟩ : ∃ z : Nat, to = z := ⟨to.toNat, by omega⟩
        have ht : to < nG g := by omega
        have tt := a.1 to ht
        have x9 := (hG.2.2.2.2.1 to (by omega)).1
        have x13 := (hG.2.2.2.2.1 to (by omega)).2.2.2.2.1
        have x14 := (hct to ht).1
        have ir := (hct to ht).2
        have gt := hg.2.1 to (by omega)
        rw [Int.toNat_natCast, x9]
        refine ⟨by omega, by omega, fun z2 => ?_, fun z2 => ⟨by omega, by omega, fun z3 => ?_, fun z3 => ?_⟩⟩
        · rw [rlx_gone hg hw hc (by omega) a ht hto (by omega)] at ih2; exact ih2 _ _ _ _
        · rw [rlx_to hto, rl1_n (Or.inl (by unfold avF arv; rw [if_pos (by omega)]))] at ih2
          exact ih2 _ _ _ _
        · refine vX2_goOn_65 (Nat.le_of_ble_eq_true rfl) rfl (o_workInto hg (gG t) (gD t) b5 (by omega) (by omega)) ?_
          simp only [sX2_goOn_0, sX2_goOn_1, sX2_goOn_4, sX2_goOn_5, sX2_goOn_6, sX2_goOn_8, sX2_goOn_9, sX2_goOn_13, sX2_goOn_15, sX2_goOn_18, sX2_goOn_19, sX2_goOn_22, sX2_goOn_23, sX2_goOn_25, sX2_goOn_26, sX2_goOn_28, sX2_goOn_29, sX2_goOn_30, sX2_goOn_32, sX2_goOn_34, sX2_goOn_35, sX2_goOn_38, sX2_goOn_39, sX2_goOn_42, sX2_goOn_44, sX2_goOn_45, sX2_goOn_48, sX2_goOn_49, sX2_goOn_52, sX2_goOn_54, sX2_goOn_55, sX2_goOn_58, sX2_goOn_59, sX2_goOn_61, sX2_goOn_63, sX2_goOn_68, sX2_goOn_70, sX2_goOn_71, sX2_goOn_73, sX2_goOn_75, sX2_goOn_77, sX2_goOn_78, sX2_goOn_79, sX2_goOn_87, sX2_goOn_89, sX2_goOn_91, sX2_goOn_92, sX2_goOn_95, sX2_goOn_97, sX2_goOn_98, sX2_goOn_99, sX2_goOn_100, sX2_goOn_103, sX2_goOn_105, sX2_goOn_107, sX2_goOn_110, sX2_goOn_113, sX2_goOn_115, sX2_goOn_116, sX2_goOn_119, sX2_goOn_121, sX2_goOn_122, sX2_goOn_125, sX2_goOn_126, sX2_goOn_128, sX2_goOn_130, sX2_goOn_134, sX2_goOn_137, sX2_goOn_140, onI_i, onR_r, onS_s, slotA_i, slotA_b, slotA_l, slotA_r, ptk_i, ptk_b, ptk_l, aldP_s, aldP_n, uc_s, uc_n, uc_uc, ua_s, ua_n, Nat.reduceEqDiff, not_false_eq_true, true_or, or_true, true_and, and_true, implies_true, Option.some.injEq, Sum.inl.injEq, Int.toNat_natCast, true_implies, not_true_eq_false, false_implies, Int.reduceEq, Int.reduceLT, Int.reduceLE, Int.reduceNeg, Int.reduceAdd, Int.reduceSub, Int.reduceMul, Int.reduceToNat, lg_0, lg_1, lg_2, lg_3, lg_4, lg_5, lg_6, lg_7, lg_8, lg_9, lz_0, lz_1, lz_2, lz_3, lz_4, lz_5, lz_6, lz_7, lz_8, lz_9, scs_0_0, scs_0_1, scs_0_2, scs_0_3, scs_0_4, scs_0_5, scs_0_6, scs_0_7, scs_0_8, scs_0_9, scs_1_0, scs_1_1, scs_1_2, scs_1_3, scs_1_4, scs_1_5, scs_1_6, scs_1_7, scs_1_8, scs_1_9, scs_1_10, scs_1_11, scs_1_12, scs_1_13, scs_1_14, scs_1_15, scs_1_16, scs_1_17, scs_1_18, scr_2, scr_3, scs_4_0, scs_4_1, scs_5_0, scs_5_1, scs_5_2, scs_5_3, scs_5_4, scs_6_0, scs_6_1, scs_6_2, scs_6_3, scs_7_0, scs_7_1, scs_7_2, scs_7_3, scs_8_0, scs_8_1, scs_8_2, sca_9, sca_10, sca_11, sca_12, sca_13, sca_14, sca_15, sca_16, sca_17, sca_18, sca_19, sca_20, sca_21, sca_22, sca_23, sca_24, sca_25, sca_26, sca_27, sca_28, sca_29, sca_30, sca_31, sca_32, sca_33, sca_34, sca_35, sca_36, scs_37_0, scs_37_1, scs_37_2, scs_37_3, sca_38, sca_39, sca_40, scs_41_0, scs_41_1, scs_41_2, scs_41_3, sca_42, sca_43, sca_44, scs_45_0, scs_45_1, scs_45_2, scs_45_3, sca_46, sca_47, sca_48, scs_49_0, scs_49_1, scs_49_2, scs_49_3, sca_50, sca_51, sca_52, scs_53_0, scs_53_1, scs_53_2, scs_53_3, sca_54, sca_55, sca_56, scs_57_0, scs_57_1, scs_57_2, scs_57_3, sca_58, sca_59, sca_60, scs_61_0, scs_61_1, scs_61_2, scs_61_3, sca_62, sca_63, sca_64, scs_65_0, scs_65_1, scs_65_2, scs_65_3, sca_66, sca_67, sca_68, scs_69_0, scs_69_1, scs_69_2, scs_69_3, sca_70, sca_71, sca_72, sc_st0, sc_st1, sc_st2, sc_sv0, sc_sv1, sc_sv2, e1, e3, e4, e6, y1, y3, o9, o13, o14, o18]
          have o10 : hX x f t 10 = x 10 := hX_53 (by omega)
          refine vX2_goOn_81 (Nat.le_of_ble_eq_true rfl) rfl (o_slope (by omega) (by omega) (fun q hq => by rw [o10, (hG.2.2.2.2.1 q hq).2.1]; exact (hg.2.1 q hq).2.1)) ?_
          rw [o10, Int.toNat_natCast, Int.toNat_natCast, (hG.2.2.2.2.1 to (by omega)).2.1, (hG.2.2.2.2.1 c (by omega)).2.1]
          have se : (if 0 < g 2 to - g 2 c then 3 * (g 2 to - g 2 c) else g 2 to - g 2 c) = slp (g 2 to - g 2 c) := rfl
          rw [se]
          have sr := slp_r (u := g 2 to - g 2 c) (by have := (hg.2.1 c (by omega)).2.1; have := gt.2.1; omega)
          have wr := wrk_r hg (to := to) (by omega) (d := (k : Int)) (m := s.1 c)
          refine vX2_goOn_84 (Nat.le_of_ble_eq_true rfl) (scWo hw) (o_workDone (sp := spd g w c to k) hg hw (gW t) (fun _ => rfl) sr b5 ⟨wr.2.2 (by omega), wr.2.1⟩ (by omega)) ?_
          simp only [sX2_goOn_0, sX2_goOn_1, sX2_goOn_4, sX2_goOn_5, sX2_goOn_6, sX2_goOn_8, sX2_goOn_9, sX2_goOn_13, sX2_goOn_15, sX2_goOn_18, sX2_goOn_19, sX2_goOn_22, sX2_goOn_23, sX2_goOn_25, sX2_goOn_26, sX2_goOn_28, sX2_goOn_29, sX2_goOn_30, sX2_goOn_32, sX2_goOn_34, sX2_goOn_35, sX2_goOn_38, sX2_goOn_39, sX2_goOn_42, sX2_goOn_44, sX2_goOn_45, sX2_goOn_48, sX2_goOn_49, sX2_goOn_52, sX2_goOn_54, sX2_goOn_55, sX2_goOn_58, sX2_goOn_59, sX2_goOn_61, sX2_goOn_63, sX2_goOn_68, sX2_goOn_70, sX2_goOn_71, sX2_goOn_73, sX2_goOn_75, sX2_goOn_77, sX2_goOn_78, sX2_goOn_79, sX2_goOn_87, sX2_goOn_89, sX2_goOn_91, sX2_goOn_92, sX2_goOn_95, sX2_goOn_97, sX2_goOn_98, sX2_goOn_99, sX2_goOn_100, sX2_goOn_103, sX2_goOn_105, sX2_goOn_107, sX2_goOn_110, sX2_goOn_113, sX2_goOn_115, sX2_goOn_116, sX2_goOn_119, sX2_goOn_121, sX2_goOn_122, sX2_goOn_125, sX2_goOn_126, sX2_goOn_128, sX2_goOn_130, sX2_goOn_134, sX2_goOn_137, sX2_goOn_140, onI_i, onR_r, onS_s, slotA_i, slotA_b, slotA_l, slotA_r, ptk_i, ptk_b, ptk_l, aldP_s, aldP_n, uc_s, uc_n, uc_uc, ua_s, ua_n, Nat.reduceEqDiff, not_false_eq_true, true_or, or_true, true_and, and_true, implies_true, Option.some.injEq, Sum.inl.injEq, Int.toNat_natCast, true_implies, not_true_eq_false, false_implies, Int.reduceEq, Int.reduceLT, Int.reduceLE, Int.reduceNeg, Int.reduceAdd, Int.reduceSub, Int.reduceMul, Int.reduceToNat, lg_0, lg_1, lg_2, lg_3, lg_4, lg_5, lg_6, lg_7, lg_8, lg_9, lz_0, lz_1, lz_2, lz_3, lz_4, lz_5, lz_6, lz_7, lz_8, lz_9, scs_0_0, scs_0_1, scs_0_2, scs_0_3, scs_0_4, scs_0_5, scs_0_6, scs_0_7, scs_0_8, scs_0_9, scs_1_0, scs_1_1, scs_1_2, scs_1_3, scs_1_4, scs_1_5, scs_1_6, scs_1_7, scs_1_8, scs_1_9, scs_1_10, scs_1_11, scs_1_12, scs_1_13, scs_1_14, scs_1_15, scs_1_16, scs_1_17, scs_1_18, scr_2, scr_3, scs_4_0, scs_4_1, scs_5_0, scs_5_1, scs_5_2, scs_5_3, scs_5_4, scs_6_0, scs_6_1, scs_6_2, scs_6_3, scs_7_0, scs_7_1, scs_7_2, scs_7_3, scs_8_0, scs_8_1, scs_8_2, sca_9, sca_10, sca_11, sca_12, sca_13, sca_14, sca_15, sca_16, sca_17, sca_18, sca_19, sca_20, sca_21, sca_22, sca_23, sca_24, sca_25, sca_26, sca_27, sca_28, sca_29, sca_30, sca_31, sca_32, sca_33, sca_34, sca_35, sca_36, scs_37_0, scs_37_1, scs_37_2, scs_37_3, sca_38, sca_39, sca_40, scs_41_0, scs_41_1, scs_41_2, scs_41_3, sca_42, sca_43, sca_44, scs_45_0, scs_45_1, scs_45_2, scs_45_3, sca_46, sca_47, sca_48, scs_49_0, scs_49_1, scs_49_2, scs_49_3, sca_50, sca_51, sca_52, scs_53_0, scs_53_1, scs_53_2, scs_53_3, sca_54, sca_55, sca_56, scs_57_0, scs_57_1, scs_57_2, scs_57_3, sca_58, sca_59, sca_60, scs_61_0, scs_61_1, scs_61_2, scs_61_3, sca_62, sca_63, sca_64, scs_65_0, scs_65_1, scs_65_2, scs_65_3, sca_66, sca_67, sca_68, scs_69_0, scs_69_1, scs_69_2, scs_69_3, sca_70, sca_71, sca_72, sc_st0, sc_st1, sc_st2, sc_sv0, sc_sv1, sc_sv2, e1, e3, e4, e6, y1, y3, o9, o13, o14, o18, x13, x14]
          generalize hDD : wdn (spd g w c to k) 20000 (wrk g to k (s.1 c)) (s.1 c) = D
          have dr := wdn_ge (sp := spd g w c to k) 20000 (wrk g to k (s.1 c)) (s.1 c)
          rw [hDD] at dr
          have av := arv_wd hg (ct := ct) hw (c := c) (by omega) (show to < 64 by omega) (d := (k : Int)) (by omega) b5 hDD.symm rfl (by omega)
          generalize hMM : (if D < g 5 to + 1 then g 5 to + 1 else D) = M at *
          have mr : 0 ≤ M ∧ M ≤ 30000 := by rw [← hMM]; split <;> omega
          have av2 : avF g ct w c to k (t.1 c) = if M ≤ 5000 ∧ M < ct to then M else 1000000 := by rw [sc]; exact av
          refine ⟨by omega, by simp, by omega, by omega, by omega, by omega, fun z4 => ?_, fun z4 => ⟨by omega, by omega, by omega, fun z5 => ?_, fun z5 => ?_⟩⟩
          · rw [rlx_to hto, av2, if_neg (by omega), rl1_n (Or.inl rfl)] at ih2; exact ih2 _ _ _ _
          · rw [rlx_to hto, av2, if_neg (by omega), rl1_n (Or.inl rfl)] at ih2; exact ih2 _ _ _ _
          · rw [rlx_to hto, av2, if_pos (by omega)] at ih2
            refine vX2_goOn_131 (Nat.le_of_ble_eq_true rfl) (scFo hf) (o_reach (h := hX x f t) hf (c := (to : Int)) (by omega) (by omega) (by omega) (by rw [y1, Int.toNat_natCast]; omega) (by rw [hX_2, Int.toNat_natCast]; omega)) ?_
            rw [y1, hX_2, Int.toNat_natCast]
            have he : (if M < t.1 to then updC (updC (hX x f t) (54 + 4 * f) (updA t.1 to M)) (55 + 4 * f) (updA t.2.1 to c) else if M = t.1 to ∧ (c : Int) < t.2.1 to then updC (hX x f t) (55 + 4 * f) (updA t.2.1 to c) else hX x f t) = hX x f (rl1 M c to t) := by
              have m1 : ¬ M = 1000000 := by omega
              unfold rl1
              rw [if_neg m1]
              by_cases q : M < t.1 to
              · rw [if_pos q, if_pos q, hX_u1, hX_u2]
              · rw [if_neg q, if_neg q]
                by_cases p : M = t.1 to ∧ (c : Int) < t.2.1 to
                · rw [if_pos p, if_pos ⟨p.1, by omega, p.2⟩, hX_u2]
                · rw [if_neg p, if_neg (fun y => p ⟨y.1, y.2.2⟩)]
            rw [he]
            simp only [sX2_goOn_0, sX2_goOn_1, sX2_goOn_4, sX2_goOn_5, sX2_goOn_6, sX2_goOn_8, sX2_goOn_9, sX2_goOn_13, sX2_goOn_15, sX2_goOn_18, sX2_goOn_19, sX2_goOn_22, sX2_goOn_23, sX2_goOn_25, sX2_goOn_26, sX2_goOn_28, sX2_goOn_29, sX2_goOn_30, sX2_goOn_32, sX2_goOn_34, sX2_goOn_35, sX2_goOn_38, sX2_goOn_39, sX2_goOn_42, sX2_goOn_44, sX2_goOn_45, sX2_goOn_48, sX2_goOn_49, sX2_goOn_52, sX2_goOn_54, sX2_goOn_55, sX2_goOn_58, sX2_goOn_59, sX2_goOn_61, sX2_goOn_63, sX2_goOn_68, sX2_goOn_70, sX2_goOn_71, sX2_goOn_73, sX2_goOn_75, sX2_goOn_77, sX2_goOn_78, sX2_goOn_79, sX2_goOn_87, sX2_goOn_89, sX2_goOn_91, sX2_goOn_92, sX2_goOn_95, sX2_goOn_97, sX2_goOn_98, sX2_goOn_99, sX2_goOn_100, sX2_goOn_103, sX2_goOn_105, sX2_goOn_107, sX2_goOn_110, sX2_goOn_113, sX2_goOn_115, sX2_goOn_116, sX2_goOn_119, sX2_goOn_121, sX2_goOn_122, sX2_goOn_125, sX2_goOn_126, sX2_goOn_128, sX2_goOn_130, sX2_goOn_134, sX2_goOn_137, sX2_goOn_140, onI_i, onR_r, onS_s, slotA_i, slotA_b, slotA_l, slotA_r, ptk_i, ptk_b, ptk_l, aldP_s, aldP_n, uc_s, uc_n, uc_uc, ua_s, ua_n, Nat.reduceEqDiff, not_false_eq_true, true_or, or_true, true_and, and_true, implies_true, Option.some.injEq, Sum.inl.injEq, Int.toNat_natCast, true_implies, not_true_eq_false, false_implies, Int.reduceEq, Int.reduceLT, Int.reduceLE, Int.reduceNeg, Int.reduceAdd, Int.reduceSub, Int.reduceMul, Int.reduceToNat, lg_0, lg_1, lg_2, lg_3, lg_4, lg_5, lg_6, lg_7, lg_8, lg_9, lz_0, lz_1, lz_2, lz_3, lz_4, lz_5, lz_6, lz_7, lz_8, lz_9, scs_0_0, scs_0_1, scs_0_2, scs_0_3, scs_0_4, scs_0_5, scs_0_6, scs_0_7, scs_0_8, scs_0_9, scs_1_0, scs_1_1, scs_1_2, scs_1_3, scs_1_4, scs_1_5, scs_1_6, scs_1_7, scs_1_8, scs_1_9, scs_1_10, scs_1_11, scs_1_12, scs_1_13, scs_1_14, scs_1_15, scs_1_16, scs_1_17, scs_1_18, scr_2, scr_3, scs_4_0, scs_4_1, scs_5_0, scs_5_1, scs_5_2, scs_5_3, scs_5_4, scs_6_0, scs_6_1, scs_6_2, scs_6_3, scs_7_0, scs_7_1, scs_7_2, scs_7_3, scs_8_0, scs_8_1, scs_8_2, sca_9, sca_10, sca_11, sca_12, sca_13, sca_14, sca_15, sca_16, sca_17, sca_18, sca_19, sca_20, sca_21, sca_22, sca_23, sca_24, sca_25, sca_26, sca_27, sca_28, sca_29, sca_30, sca_31, sca_32, sca_33, sca_34, sca_35, sca_36, scs_37_0, scs_37_1, scs_37_2, scs_37_3, sca_38, sca_39, sca_40, scs_41_0, scs_41_1, scs_41_2, scs_41_3, sca_42, sca_43, sca_44, scs_45_0, scs_45_1, scs_45_2, scs_45_3, sca_46, sca_47, sca_48, scs_49_0, scs_49_1, scs_49_2, scs_49_3, sca_50, sca_51, sca_52, scs_53_0, scs_53_1, scs_53_2, scs_53_3, sca_54, sca_55, sca_56, scs_57_0, scs_57_1, scs_57_2, scs_57_3, sca_58, sca_59, sca_60, scs_61_0, scs_61_1, scs_61_2, scs_61_3, sca_62, sca_63, sca_64, scs_65_0, scs_65_1, scs_65_2, scs_65_3, sca_66, sca_67, sca_68, scs_69_0, scs_69_1, scs_69_2, scs_69_3, sca_70, sca_71, sca_72, sc_st0, sc_st1, sc_st2, sc_sv0, sc_sv1, sc_sv2]
            exact ih2 _ _ _ _
  have y1 : hX x f s (54 + 4 * f) = s.1 := hX_1
  refine Ok_of SC_ok (by decide +kernel) rfl (Nat.le_of_ble_eq_true rfl) ?_
  show SG SC mX2_goOn _ 0 [ar (53 + 4 * f), ar 1, ar (37 + 4 * w), ai c, au, au, au, au, au, au] [] _
  simp only [sX2_goOn_0, sX2_goOn_1, sX2_goOn_4, sX2_goOn_5, sX2_goOn_6, sX2_goOn_8, sX2_goOn_9, sX2_goOn_13, sX2_goOn_15, sX2_goOn_18, sX2_goOn_19, sX2_goOn_22, sX2_goOn_23, sX2_goOn_25, sX2_goOn_26, sX2_goOn_28, sX2_goOn_29, sX2_goOn_30, sX2_goOn_32, sX2_goOn_34, sX2_goOn_35, sX2_goOn_38, sX2_goOn_39, sX2_goOn_42, sX2_goOn_44, sX2_goOn_45, sX2_goOn_48, sX2_goOn_49, sX2_goOn_52, sX2_goOn_54, sX2_goOn_55, sX2_goOn_58, sX2_goOn_59, sX2_goOn_61, sX2_goOn_63, sX2_goOn_68, sX2_goOn_70, sX2_goOn_71, sX2_goOn_73, sX2_goOn_75, sX2_goOn_77, sX2_goOn_78, sX2_goOn_79, sX2_goOn_87, sX2_goOn_89, sX2_goOn_91, sX2_goOn_92, sX2_goOn_95, sX2_goOn_97, sX2_goOn_98, sX2_goOn_99, sX2_goOn_100, sX2_goOn_103, sX2_goOn_105, sX2_goOn_107, sX2_goOn_110, sX2_goOn_113, sX2_goOn_115, sX2_goOn_116, sX2_goOn_119, sX2_goOn_121, sX2_goOn_122, sX2_goOn_125, sX2_goOn_126, sX2_goOn_128, sX2_goOn_130, sX2_goOn_134, sX2_goOn_137, sX2_goOn_140, onI_i, onR_r, onS_s, slotA_i, slotA_b, slotA_l, slotA_r, ptk_i, ptk_b, ptk_l, aldP_s, aldP_n, uc_s, uc_n, uc_uc, ua_s, ua_n, Nat.reduceEqDiff, not_false_eq_true, true_or, or_true, true_and, and_true, implies_true, Option.some.injEq, Sum.inl.injEq, Int.toNat_natCast, true_implies, not_true_eq_false, false_implies, Int.reduceEq, Int.reduceLT, Int.reduceLE, Int.reduceNeg, Int.reduceAdd, Int.reduceSub, Int.reduceMul, Int.reduceToNat, lg_0, lg_1, lg_2, lg_3, lg_4, lg_5, lg_6, lg_7, lg_8, lg_9, lz_0, lz_1, lz_2, lz_3, lz_4, lz_5, lz_6, lz_7, lz_8, lz_9, scs_0_0, scs_0_1, scs_0_2, scs_0_3, scs_0_4, scs_0_5, scs_0_6, scs_0_7, scs_0_8, scs_0_9, scs_1_0, scs_1_1, scs_1_2, scs_1_3, scs_1_4, scs_1_5, scs_1_6, scs_1_7, scs_1_8, scs_1_9, scs_1_10, scs_1_11, scs_1_12, scs_1_13, scs_1_14, scs_1_15, scs_1_16, scs_1_17, scs_1_18, scr_2, scr_3, scs_4_0, scs_4_1, scs_5_0, scs_5_1, scs_5_2, scs_5_3, scs_5_4, scs_6_0, scs_6_1, scs_6_2, scs_6_3, scs_7_0, scs_7_1, scs_7_2, scs_7_3, scs_8_0, scs_8_1, scs_8_2, sca_9, sca_10, sca_11, sca_12, sca_13, sca_14, sca_15, sca_16, sca_17, sca_18, sca_19, sca_20, sca_21, sca_22, sca_23, sca_24, sca_25, sca_26, sca_27, sca_28, sca_29, sca_30, sca_31, sca_32, sca_33, sca_34, sca_35, sca_36, scs_37_0, scs_37_1, scs_37_2, scs_37_3, sca_38, sca_39, sca_40, scs_41_0, scs_41_1, scs_41_2, scs_41_3, sca_42, sca_43, sca_44, scs_45_0, scs_45_1, scs_45_2, scs_45_3, sca_46, sca_47, sca_48, scs_49_0, scs_49_1, scs_49_2, scs_49_3, sca_50, sca_51, sca_52, scs_53_0, scs_53_1, scs_53_2, scs_53_3, sca_54, sca_55, sca_56, scs_57_0, scs_57_1, scs_57_2, scs_57_3, sca_58, sca_59, sca_60, scs_61_0, scs_61_1, scs_61_2, scs_61_3, sca_62, sca_63, sca_64, scs_65_0, scs_65_1, scs_65_2, scs_65_3, sca_66, sca_67, sca_68, scs_69_0, scs_69_1, scs_69_2, scs_69_3, sca_70, sca_71, sca_72, sc_st0, sc_st1, sc_st2, sc_sv0, sc_sv1, sc_sv2, e1, e4, y1]
  exact ⟨by omega, lp 8 0 0 _ _ _ _ rfl rfl⟩
/-- between the goings -/
def spI (n : Nat) (t : FS) : Prop := FR n t ∧ ∀ a b, a < n → b < n → t.2.2 a = 1 → t.2.2 b = 0 → t.1 a ≤ t.1 b
theorem spI_go {n : Nat} {t : FS} (h : spI n t) {c : Nat} (hc : c < n) (hp : pk t n = c) : goI n c (t.1, t.2.1, updA t.2.2 c 1) ∧ ∀ b, b < n → updA t.2.2 c 1 b = 0 → t.1 c ≤ t.1 b := by
  have pr : t.2.2 c = 0 ∧ t.1 c < 1000000 := by
    rcases pk_r t n with z | ⟨q, q1, q2, q3, q4⟩
    · omega
    · have : q = c := by omega
      subst this; exact ⟨q3, q4⟩
  have tc := h.1 c hc
  refine ⟨⟨fun y hy => ?_, ?_, ua_s, fun to ht h1 => ?_⟩, fun b hb h0 => ?_⟩
  · have := h.1 y hy
    refine ⟨this.1, this.2.1, ?_⟩
    by_cases e : y = c
    · subst e; exact Or.inr ua_s
    · dsimp only; rw [ua_n e]; exact this.2.2
  · dsimp only; omega
  · dsimp only at h1 ⊢
    by_cases e : to = c
    · subst e; exact Int.le_refl _
    · rw [ua_n e] at h1
      exact h.2 to c ht hc h1 pr.1
  · by_cases e : b = c
    · subst e; exact Int.le_refl _
    · rw [ua_n e] at h0
      have tb := h.1 b hb
      by_cases q : t.1 b < 1000000
      · have := (pk_min n b hb h0 q).2
        rw [hp, Int.toNat_natCast] at this
        exact this
      · omega
theorem stp_I {g : AH} (hg : gi g) {ct : Nat → Int} {w : Nat} (hw : w < 4) {t : FS} (h : spI (nG g) t) {c : Nat} (hc : c < nG g) (hp : pk t (nG g) = c) : spI (nG g) (stp (nbF g) (avF g ct w) c t) := by
  obtain ⟨a, b⟩ := spI_go h hc hp
  obtain ⟨q1, q2, q3⟩ := rlK_I hg (ct := ct) hw hc a 8 (Nat.le_refl 8)
  have dd := rlK_d (nbF g) (avF g ct w) c 8 (t.1, t.2.1, updA t.2.2 c 1)
  have sc := q2 c a.2.2.1 hc
  unfold stp
  refine ⟨q1.1, fun y z hy hz h1 h0 => ?_⟩
  rw [dd] at h1 h0
  rw [q2 y h1 hy]
  have i1 := a.2.2.2 y hy h1
  have i2 := q3 z (b z hz h0)
  omega
theorem o_spread {x g : AH} (hg : gi g) {w f : Nat} (hw : w < 4) (hf : f < 5) (hG : rG x g) (hD : rD x g) (hW : rW1 x g w) {ct : Nat → Int} (hct : ∀ c, c < nG g → x 14 c = ct c ∧ inR (ct c)) : Ok SC mX2_spread [ar (53 + 4 * f), ar 1, ar (37 + 4 * w)] x (fun r h2 => r = none ∧ ∃ s : FS, h2 = updC (hX x f s) (53 + 4 * f) (updA (x (53 + 4 * f)) 0 1) ∧ agr (nG g) s (fr g ct w) ∧ FR (nG g) s) := by
  have hn := gi_n hg
  have e0 := scF_0 hf
  have e1 := scF_1 hf
  have e2 := scF_2 hf
  have e3 := scF_3 hf
  have e4 := scFa_1 hf
  have e5 := scFa_2 hf
  have e6 := scFa_3 hf
  have o1 : ∀ t, hX x f t 1 = x 1 := fun t => hX_53 (by omega)
  have o12 : ∀ t, hX x f t 12 = x 12 := fun t => hX_53 (by omega)
  have o53 : ∀ t, hX x f t (53 + 4 * f) = x (53 + 4 * f) := fun t => hX_o (by omega) (by omega) (by omega)
  have x2 : x 1 2 = nG g := by rw [hG.2.2.1]; exact hn.2.2
  generalize hQ : (fun (r : Option AV) (h2 : AH) => r = none ∧ ∃ s : FS, h2 = updC (hX x f s) (53 + 4 * f) (updA (x (53 + 4 * f)) 0 1) ∧ agr (nG g) s (fr g ct w) ∧ FR (nG g) s) = Q
  have fin : ∀ (t : FS) (v3 v4 : AV), FR (nG g) t → agr (nG g) t (fr g ct w) → SG SC mX2_spread Q 93 [ar (53 + 4 * f), ar 1, ar (37 + 4 * w), v3, v4] [] (hX x f t) := by
    intro t v3 v4 ht ha
    have q := o53 t
    simp only [sX2_spread_0, sX2_spread_1, sX2_spread_3, sX2_spread_4, sX2_spread_7, sX2_spread_10, sX2_spread_11, sX2_spread_14, sX2_spread_15, sX2_spread_16, sX2_spread_19, sX2_spread_20, sX2_spread_21, sX2_spread_22, sX2_spread_23, sX2_spread_26, sX2_spread_27, sX2_spread_28, sX2_spread_29, sX2_spread_30, sX2_spread_33, sX2_spread_34, sX2_spread_35, sX2_spread_36, sX2_spread_39, sX2_spread_42, sX2_spread_43, sX2_spread_45, sX2_spread_46, sX2_spread_49, sX2_spread_52, sX2_spread_53, sX2_spread_54, sX2_spread_60, sX2_spread_62, sX2_spread_64, sX2_spread_65, sX2_spread_68, sX2_spread_71, sX2_spread_72, sX2_spread_75, sX2_spread_77, sX2_spread_78, sX2_spread_79, sX2_spread_80, sX2_spread_81, sX2_spread_82, sX2_spread_87, sX2_spread_90, sX2_spread_93, sX2_spread_94, sX2_spread_95, sX2_spread_98, onI_i, onR_r, onS_s, slotA_i, slotA_b, slotA_l, slotA_r, ptk_i, ptk_b, ptk_l, aldP_s, aldP_n, uc_s, uc_n, uc_uc, ua_s, ua_n, Nat.reduceEqDiff, not_false_eq_true, true_or, or_true, true_and, and_true, implies_true, Option.some.injEq, Sum.inl.injEq, Int.toNat_natCast, true_implies, not_true_eq_false, false_implies, Int.reduceEq, Int.reduceLT, Int.reduceLE, Int.reduceNeg, Int.reduceAdd, Int.reduceSub, Int.reduceMul, Int.reduceToNat, lg_0, lg_1, lg_2, lg_3, lg_4, lz_0, lz_1, lz_2, lz_3, lz_4, scs_0_0, scs_0_1, scs_0_2, scs_0_3, scs_0_4, scs_0_5, scs_0_6, scs_0_7, scs_0_8, scs_0_9, scs_1_0, scs_1_1, scs_1_2, scs_1_3, scs_1_4, scs_1_5, scs_1_6, scs_1_7, scs_1_8, scs_1_9, scs_1_10, scs_1_11, scs_1_12, scs_1_13, scs_1_14, scs_1_15, scs_1_16, scs_1_17, scs_1_18, scr_2, scr_3, scs_4_0, scs_4_1, scs_5_0, scs_5_1, scs_5_2, scs_5_3, scs_5_4, scs_6_0, scs_6_1, scs_6_2, scs_6_3, scs_7_0, scs_7_1, scs_7_2, scs_7_3, scs_8_0, scs_8_1, scs_8_2, sca_9, sca_10, sca_11, sca_12, sca_13, sca_14, sca_15, sca_16, sca_17, sca_18, sca_19, sca_20, sca_21, sca_22, sca_23, sca_24, sca_25, sca_26, sca_27, sca_28, sca_29, sca_30, sca_31, sca_32, sca_33, sca_34, sca_35, sca_36, scs_37_0, scs_37_1, scs_37_2, scs_37_3, sca_38, sca_39, sca_40, scs_41_0, scs_41_1, scs_41_2, scs_41_3, sca_42, sca_43, sca_44, scs_45_0, scs_45_1, scs_45_2, scs_45_3, sca_46, sca_47, sca_48, scs_49_0, scs_49_1, scs_49_2, scs_49_3, sca_50, sca_51, sca_52, scs_53_0, scs_53_1, scs_53_2, scs_53_3, sca_54, sca_55, sca_56, scs_57_0, scs_57_1, scs_57_2, scs_57_3, sca_58, sca_59, sca_60, scs_61_0, scs_61_1, scs_61_2, scs_61_3, sca_62, sca_63, sca_64, scs_65_0, scs_65_1, scs_65_2, scs_65_3, sca_66, sca_67, sca_68, scs_69_0, scs_69_1, scs_69_2, scs_69_3, sca_70, sca_71, sca_72, sc_st0, sc_st1, sc_st2, sc_sv0, sc_sv1, sc_sv2, e0, q]
    rw [← hQ]
    exact ⟨rfl, t, rfl, ha, ht⟩
  have l2 : ∀ (j k : Nat) (t : FS) (i : Int) (v4 : AV), k + j = nG g → i = k → spI (nG g) t → agr (nG g) (rnS (nbF g) (avF g ct w) (nG g) j t) (fr g ct w) → SG SC mX2_spread Q 44 [ar (53 + 4 * f), ar 1, ar (37 + 4 * w), ai i, v4] [] (hX x f t) := by
    intro j
    induction j with
    | zero =>
      intro k t i v4 hk hi ht ha
      subst hi
      rw [sX2_spread_44]
      simp only [sX2_spread_0, sX2_spread_1, sX2_spread_3, sX2_spread_4, sX2_spread_7, sX2_spread_10, sX2_spread_11, sX2_spread_14, sX2_spread_15, sX2_spread_16, sX2_spread_19, sX2_spread_20, sX2_spread_21, sX2_spread_22, sX2_spread_23, sX2_spread_26, sX2_spread_27, sX2_spread_28, sX2_spread_29, sX2_spread_30, sX2_spread_33, sX2_spread_34, sX2_spread_35, sX2_spread_36, sX2_spread_39, sX2_spread_42, sX2_spread_43, sX2_spread_45, sX2_spread_46, sX2_spread_49, sX2_spread_52, sX2_spread_53, sX2_spread_54, sX2_spread_60, sX2_spread_62, sX2_spread_64, sX2_spread_65, sX2_spread_68, sX2_spread_71, sX2_spread_72, sX2_spread_75, sX2_spread_77, sX2_spread_78, sX2_spread_79, sX2_spread_80, sX2_spread_81, sX2_spread_82, sX2_spread_87, sX2_spread_90, sX2_spread_94, sX2_spread_95, sX2_spread_98, onI_i, onR_r, onS_s, slotA_i, slotA_b, slotA_l, slotA_r, ptk_i, ptk_b, ptk_l, aldP_s, aldP_n, uc_s, uc_n, uc_uc, ua_s, ua_n, Nat.reduceEqDiff, not_false_eq_true, true_or, or_true, true_and, and_true, implies_true, Option.some.injEq, Sum.inl.injEq, Int.toNat_natCast, true_implies, not_true_eq_false, false_implies, Int.reduceEq, Int.reduceLT, Int.reduceLE, Int.reduceNeg, Int.reduceAdd, Int.reduceSub, Int.reduceMul, Int.reduceToNat, lg_0, lg_1, lg_2, lg_3, lg_4, lz_0, lz_1, lz_2, lz_3, lz_4, scs_0_0, scs_0_1, scs_0_2, scs_0_3, scs_0_4, scs_0_5, scs_0_6, scs_0_7, scs_0_8, scs_0_9, scs_1_0, scs_1_1, scs_1_2, scs_1_3, scs_1_4, scs_1_5, scs_1_6, scs_1_7, scs_1_8, scs_1_9, scs_1_10, scs_1_11, scs_1_12, scs_1_13, scs_1_14, scs_1_15, scs_1_16, scs_1_17, scs_1_18, scr_2, scr_3, scs_4_0, scs_4_1, scs_5_0, scs_5_1, scs_5_2, scs_5_3, scs_5_4, scs_6_0, scs_6_1, scs_6_2, scs_6_3, scs_7_0, scs_7_1, scs_7_2, scs_7_3, scs_8_0, scs_8_1, scs_8_2, sca_9, sca_10, sca_11, sca_12, sca_13, sca_14, sca_15, sca_16, sca_17, sca_18, sca_19, sca_20, sca_21, sca_22, sca_23, sca_24, sca_25, sca_26, sca_27, sca_28, sca_29, sca_30, sca_31, sca_32, sca_33, sca_34, sca_35, sca_36, scs_37_0, scs_37_1, scs_37_2, scs_37_3, sca_38, sca_39, sca_40, scs_41_0, scs_41_1, scs_41_2, scs_41_3, sca_42, sca_43, sca_44, scs_45_0, scs_45_1, scs_45_2, scs_45_3, sca_46, sca_47, sca_48, scs_49_0, scs_49_1, scs_49_2, scs_49_3, sca_50, sca_51, sca_52, scs_53_0, scs_53_1, scs_53_2, scs_53_3, sca_54, sca_55, sca_56, scs_57_0, scs_57_1, scs_57_2, scs_57_3, sca_58, sca_59, sca_60, scs_61_0, scs_61_1, scs_61_2, scs_61_3, sca_62, sca_63, sca_64, scs_65_0, scs_65_1, scs_65_2, scs_65_3, sca_66, sca_67, sca_68, scs_69_0, scs_69_1, scs_69_2, scs_69_3, sca_70, sca_71, sca_72, sc_st0, sc_st1, sc_st2, sc_sv0, sc_sv1, sc_sv2, o1, x2]
      exact ⟨by omega, by omega, fun _ => fin t _ _ ht.1 ha, fun z => absurd z (by omega)⟩
    | succ j ih =>
      intro k t i v4 hk hi ht ha
      subst hi
      rw [sX2_spread_44]
      simp only [sX2_spread_0, sX2_spread_1, sX2_spread_3, sX2_spread_4, sX2_spread_7, sX2_spread_10, sX2_spread_11, sX2_spread_14, sX2_spread_15, sX2_spread_16, sX2_spread_19, sX2_spread_20, sX2_spread_21, sX2_spread_22, sX2_spread_23, sX2_spread_26, sX2_spread_27, sX2_spread_28, sX2_spread_29, sX2_spread_30, sX2_spread_33, sX2_spread_34, sX2_spread_35, sX2_spread_36, sX2_spread_39, sX2_spread_42, sX2_spread_43, sX2_spread_45, sX2_spread_46, sX2_spread_49, sX2_spread_52, sX2_spread_53, sX2_spread_54, sX2_spread_60, sX2_spread_62, sX2_spread_64, sX2_spread_65, sX2_spread_68, sX2_spread_71, sX2_spread_72, sX2_spread_75, sX2_spread_77, sX2_spread_78, sX2_spread_79, sX2_spread_80, sX2_spread_81, sX2_spread_82, sX2_spread_87, sX2_spread_90, sX2_spread_94, sX2_spread_95, sX2_spread_98, onI_i, onR_r, onS_s, slotA_i, slotA_b, slotA_l, slotA_r, ptk_i, ptk_b, ptk_l, aldP_s, aldP_n, uc_s, uc_n, uc_uc, ua_s, ua_n, Nat.reduceEqDiff, not_false_eq_true, true_or, or_true, true_and, and_true, implies_true, Option.some.injEq, Sum.inl.injEq, Int.toNat_natCast, true_implies, not_true_eq_false, false_implies, Int.reduceEq, Int.reduceLT, Int.reduceLE, Int.reduceNeg, Int.reduceAdd, Int.reduceSub, Int.reduceMul, Int.reduceToNat, lg_0, lg_1, lg_2, lg_3, lg_4, lz_0, lz_1, lz_2, lz_3, lz_4, scs_0_0, scs_0_1, scs_0_2, scs_0_3, scs_0_4, scs_0_5, scs_0_6, scs_0_7, scs_0_8, scs_0_9, scs_1_0, scs_1_1, scs_1_2, scs_1_3, scs_1_4, scs_1_5, scs_1_6, scs_1_7, scs_1_8, scs_1_9, scs_1_10, scs_1_11, scs_1_12, scs_1_13, scs_1_14, scs_1_15, scs_1_16, scs_1_17, scs_1_18, scr_2, scr_3, scs_4_0, scs_4_1, scs_5_0, scs_5_1, scs_5_2, scs_5_3, scs_5_4, scs_6_0, scs_6_1, scs_6_2, scs_6_3, scs_7_0, scs_7_1, scs_7_2, scs_7_3, scs_8_0, scs_8_1, scs_8_2, sca_9, sca_10, sca_11, sca_12, sca_13, sca_14, sca_15, sca_16, sca_17, sca_18, sca_19, sca_20, sca_21, sca_22, sca_23, sca_24, sca_25, sca_26, sca_27, sca_28, sca_29, sca_30, sca_31, sca_32, sca_33, sca_34, sca_35, sca_36, scs_37_0, scs_37_1, scs_37_2, scs_37_3, sca_38, sca_39, sca_40, scs_41_0, scs_41_1, scs_41_2, scs_41_3, sca_42, sca_43, sca_44, scs_45_0, scs_45_1, scs_45_2, scs_45_3, sca_46, sca_47, sca_48, scs_49_0, scs_49_1, scs_49_2, scs_49_3, sca_50, sca_51, sca_52, scs_53_0, scs_53_1, scs_53_2, scs_53_3, sca_54, sca_55, sca_56, scs_57_0, scs_57_1, scs_57_2, scs_57_3, sca_58, sca_59, sca_60, scs_61_0, scs_61_1, scs_61_2, scs_61_3, sca_62, sca_63, sca_64, scs_65_0, scs_65_1, scs_65_2, scs_65_3, sca_66, sca_67, sca_68, scs_69_0, scs_69_1, scs_69_2, scs_69_3, sca_70, sca_71, sca_72, sc_st0, sc_st1, sc_st2, sc_sv0, sc_sv1, sc_sv2, o1, x2]
      refine ⟨by omega, by omega, fun z => absurd z (by omega), fun _ => ?_⟩
      refine vX2_spread_57 (Nat.le_of_ble_eq_true rfl) (scFo hf) (o_next hf hn.2.1 ht.1) ?_
      have y3 : hX x f t (56 + 4 * f) = t.2.2 := hX_3
      rcases pk_r t (nG g) with z | ⟨c, c1, c2, c3, c4⟩
      · rw [z]
        simp only [sX2_spread_0, sX2_spread_1, sX2_spread_3, sX2_spread_4, sX2_spread_7, sX2_spread_10, sX2_spread_11, sX2_spread_14, sX2_spread_15, sX2_spread_16, sX2_spread_19, sX2_spread_20, sX2_spread_21, sX2_spread_22, sX2_spread_23, sX2_spread_26, sX2_spread_27, sX2_spread_28, sX2_spread_29, sX2_spread_30, sX2_spread_33, sX2_spread_34, sX2_spread_35, sX2_spread_36, sX2_spread_39, sX2_spread_42, sX2_spread_43, sX2_spread_45, sX2_spread_46, sX2_spread_49, sX2_spread_52, sX2_spread_53, sX2_spread_54, sX2_spread_60, sX2_spread_62, sX2_spread_64, sX2_spread_65, sX2_spread_68, sX2_spread_71, sX2_spread_72, sX2_spread_75, sX2_spread_77, sX2_spread_78, sX2_spread_79, sX2_spread_80, sX2_spread_81, sX2_spread_82, sX2_spread_87, sX2_spread_90, sX2_spread_94, sX2_spread_95, sX2_spread_98, onI_i, onR_r, onS_s, slotA_i, slotA_b, slotA_l, slotA_r, ptk_i, ptk_b, ptk_l, aldP_s, aldP_n, uc_s, uc_n, uc_uc, ua_s, ua_n, Nat.reduceEqDiff, not_false_eq_true, true_or, or_true, true_and, and_true, implies_true, Option.some.injEq, Sum.inl.injEq, Int.toNat_natCast, true_implies, not_true_eq_false, false_implies, Int.reduceEq, Int.reduceLT, Int.reduceLE, Int.reduceNeg, Int.reduceAdd, Int.reduceSub, Int.reduceMul, Int.reduceToNat, lg_0, lg_1, lg_2, lg_3, lg_4, lz_0, lz_1, lz_2, lz_3, lz_4, scs_0_0, scs_0_1, scs_0_2, scs_0_3, scs_0_4, scs_0_5, scs_0_6, scs_0_7, scs_0_8, scs_0_9, scs_1_0, scs_1_1, scs_1_2, scs_1_3, scs_1_4, scs_1_5, scs_1_6, scs_1_7, scs_1_8, scs_1_9, scs_1_10, scs_1_11, scs_1_12, scs_1_13, scs_1_14, scs_1_15, scs_1_16, scs_1_17, scs_1_18, scr_2, scr_3, scs_4_0, scs_4_1, scs_5_0, scs_5_1, scs_5_2, scs_5_3, scs_5_4, scs_6_0, scs_6_1, scs_6_2, scs_6_3, scs_7_0, scs_7_1, scs_7_2, scs_7_3, scs_8_0, scs_8_1, scs_8_2, sca_9, sca_10, sca_11, sca_12, sca_13, sca_14, sca_15, sca_16, sca_17, sca_18, sca_19, sca_20, sca_21, sca_22, sca_23, sca_24, sca_25, sca_26, sca_27, sca_28, sca_29, sca_30, sca_31, sca_32, sca_33, sca_34, sca_35, sca_36, scs_37_0, scs_37_1, scs_37_2, scs_37_3, sca_38, sca_39, sca_40, scs_41_0, scs_41_1, scs_41_2, scs_41_3, sca_42, sca_43, sca_44, scs_45_0, scs_45_1, scs_45_2, scs_45_3, sca_46, sca_47, sca_48, scs_49_0, scs_49_1, scs_49_2, scs_49_3, sca_50, sca_51, sca_52, scs_53_0, scs_53_1, scs_53_2, scs_53_3, sca_54, sca_55, sca_56, scs_57_0, scs_57_1, scs_57_2, scs_57_3, sca_58, sca_59, sca_60, scs_61_0, scs_61_1, scs_61_2, scs_61_3, sca_62, sca_63, sca_64, scs_65_0, scs_65_1, scs_65_2, scs_65_3, sca_66, sca_67, sca_68, scs_69_0, scs_69_1, scs_69_2, scs_69_3, sca_70, sca_71, sca_72, sc_st0, sc_st1, sc_st2, sc_sv0, sc_sv1, sc_sv2, o1, x2]
        rw [rnS_x z] at ha
        exact ⟨by omega, by omega, fin t _ _ ht.1 ha⟩
      · rw [c2]
        have gg := (spI_go ht c1 c2).1
        have ra : rnS (nbF g) (avF g ct w) (nG g) (j + 1) t = rnS (nbF g) (avF g ct w) (nG g) j (stp (nbF g) (avF g ct w) c t) := by
          show (if pk t (nG g) = -1 then t else rnS (nbF g) (avF g ct w) (nG g) j (stp (nbF g) (avF g ct w) (pk t (nG g)).toNat t)) = _
          rw [if_neg (by omega), c2, Int.toNat_natCast]
        rw [ra] at ha
        simp only [sX2_spread_0, sX2_spread_1, sX2_spread_3, sX2_spread_4, sX2_spread_7, sX2_spread_10, sX2_spread_11, sX2_spread_14, sX2_spread_15, sX2_spread_16, sX2_spread_19, sX2_spread_20, sX2_spread_21, sX2_spread_22, sX2_spread_23, sX2_spread_26, sX2_spread_27, sX2_spread_28, sX2_spread_29, sX2_spread_30, sX2_spread_33, sX2_spread_34, sX2_spread_35, sX2_spread_36, sX2_spread_39, sX2_spread_42, sX2_spread_43, sX2_spread_45, sX2_spread_46, sX2_spread_49, sX2_spread_52, sX2_spread_53, sX2_spread_54, sX2_spread_60, sX2_spread_62, sX2_spread_64, sX2_spread_65, sX2_spread_68, sX2_spread_71, sX2_spread_72, sX2_spread_75, sX2_spread_77, sX2_spread_78, sX2_spread_79, sX2_spread_80, sX2_spread_81, sX2_spread_82, sX2_spread_87, sX2_spread_90, sX2_spread_94, sX2_spread_95, sX2_spread_98, onI_i, onR_r, onS_s, slotA_i, slotA_b, slotA_l, slotA_r, ptk_i, ptk_b, ptk_l, aldP_s, aldP_n, uc_s, uc_n, uc_uc, ua_s, ua_n, Nat.reduceEqDiff, not_false_eq_true, true_or, or_true, true_and, and_true, implies_true, Option.some.injEq, Sum.inl.injEq, Int.toNat_natCast, true_implies, not_true_eq_false, false_implies, Int.reduceEq, Int.reduceLT, Int.reduceLE, Int.reduceNeg, Int.reduceAdd, Int.reduceSub, Int.reduceMul, Int.reduceToNat, lg_0, lg_1, lg_2, lg_3, lg_4, lz_0, lz_1, lz_2, lz_3, lz_4, scs_0_0, scs_0_1, scs_0_2, scs_0_3, scs_0_4, scs_0_5, scs_0_6, scs_0_7, scs_0_8, scs_0_9, scs_1_0, scs_1_1, scs_1_2, scs_1_3, scs_1_4, scs_1_5, scs_1_6, scs_1_7, scs_1_8, scs_1_9, scs_1_10, scs_1_11, scs_1_12, scs_1_13, scs_1_14, scs_1_15, scs_1_16, scs_1_17, scs_1_18, scr_2, scr_3, scs_4_0, scs_4_1, scs_5_0, scs_5_1, scs_5_2, scs_5_3, scs_5_4, scs_6_0, scs_6_1, scs_6_2, scs_6_3, scs_7_0, scs_7_1, scs_7_2, scs_7_3, scs_8_0, scs_8_1, scs_8_2, sca_9, sca_10, sca_11, sca_12, sca_13, sca_14, sca_15, sca_16, sca_17, sca_18, sca_19, sca_20, sca_21, sca_22, sca_23, sca_24, sca_25, sca_26, sca_27, sca_28, sca_29, sca_30, sca_31, sca_32, sca_33, sca_34, sca_35, sca_36, scs_37_0, scs_37_1, scs_37_2, scs_37_3, sca_38, sca_39, sca_40, scs_41_0, scs_41_1, scs_41_2, scs_41_3, sca_42, sca_43, sca_44, scs_45_0, scs_45_1, scs_45_2, scs_45_3, sca_46, sca_47, sca_48, scs_49_0, scs_49_1, scs_49_2, scs_49_3, sca_50, sca_51, sca_52, scs_53_0, scs_53_1, scs_53_2, scs_53_3, sca_54, sca_55, sca_56, scs_57_0, scs_57_1, scs_57_2, scs_57_3, sca_58, sca_59, sca_60, scs_61_0, scs_61_1, scs_61_2, scs_61_3, sca_62, sca_63, sca_64, scs_65_0, scs_65_1, scs_65_2, scs_65_3, sca_66, sca_67, sca_68, scs_69_0, scs_69_1, scs_69_2, scs_69_3, sca_70, sca_71, sca_72, sc_st0, sc_st1, sc_st2, sc_sv0, sc_sv1, sc_sv2, o1, x2, e3, e6, y3]
        refine ⟨by omega, by omega, fun _ => ⟨by omega, ?_⟩, fun z => absurd z (by omega)⟩
        rw [hX_u3]
        refine vX2_spread_84 (Nat.le_of_ble_eq_true rfl) (scFo hf) (o_goOn hg hw hf hG hD hW hct c1 gg) ?_
        simp only [sX2_spread_0, sX2_spread_1, sX2_spread_3, sX2_spread_4, sX2_spread_7, sX2_spread_10, sX2_spread_11, sX2_spread_14, sX2_spread_15, sX2_spread_16, sX2_spread_19, sX2_spread_20, sX2_spread_21, sX2_spread_22, sX2_spread_23, sX2_spread_26, sX2_spread_27, sX2_spread_28, sX2_spread_29, sX2_spread_30, sX2_spread_33, sX2_spread_34, sX2_spread_35, sX2_spread_36, sX2_spread_39, sX2_spread_42, sX2_spread_43, sX2_spread_45, sX2_spread_46, sX2_spread_49, sX2_spread_52, sX2_spread_53, sX2_spread_54, sX2_spread_60, sX2_spread_62, sX2_spread_64, sX2_spread_65, sX2_spread_68, sX2_spread_71, sX2_spread_72, sX2_spread_75, sX2_spread_77, sX2_spread_78, sX2_spread_79, sX2_spread_80, sX2_spread_81, sX2_spread_82, sX2_spread_87, sX2_spread_90, sX2_spread_94, sX2_spread_95, sX2_spread_98, onI_i, onR_r, onS_s, slotA_i, slotA_b, slotA_l, slotA_r, ptk_i, ptk_b, ptk_l, aldP_s, aldP_n, uc_s, uc_n, uc_uc, ua_s, ua_n, Nat.reduceEqDiff, not_false_eq_true, true_or, or_true, true_and, and_true, implies_true, Option.some.injEq, Sum.inl.injEq, Int.toNat_natCast, true_implies, not_true_eq_false, false_implies, Int.reduceEq, Int.reduceLT, Int.reduceLE, Int.reduceNeg, Int.reduceAdd, Int.reduceSub, Int.reduceMul, Int.reduceToNat, lg_0, lg_1, lg_2, lg_3, lg_4, lz_0, lz_1, lz_2, lz_3, lz_4, scs_0_0, scs_0_1, scs_0_2, scs_0_3, scs_0_4, scs_0_5, scs_0_6, scs_0_7, scs_0_8, scs_0_9, scs_1_0, scs_1_1, scs_1_2, scs_1_3, scs_1_4, scs_1_5, scs_1_6, scs_1_7, scs_1_8, scs_1_9, scs_1_10, scs_1_11, scs_1_12, scs_1_13, scs_1_14, scs_1_15, scs_1_16, scs_1_17, scs_1_18, scr_2, scr_3, scs_4_0, scs_4_1, scs_5_0, scs_5_1, scs_5_2, scs_5_3, scs_5_4, scs_6_0, scs_6_1, scs_6_2, scs_6_3, scs_7_0, scs_7_1, scs_7_2, scs_7_3, scs_8_0, scs_8_1, scs_8_2, sca_9, sca_10, sca_11, sca_12, sca_13, sca_14, sca_15, sca_16, sca_17, sca_18, sca_19, sca_20, sca_21, sca_22, sca_23, sca_24, sca_25, sca_26, sca_27, sca_28, sca_29, sca_30, sca_31, sca_32, sca_33, sca_34, sca_35, sca_36, scs_37_0, scs_37_1, scs_37_2, scs_37_3, sca_38, sca_39, sca_40, scs_41_0, scs_41_1, scs_41_2, scs_41_3, sca_42, sca_43, sca_44, scs_45_0, scs_45_1, scs_45_2, scs_45_3, sca_46, sca_47, sca_48, scs_49_0, scs_49_1, scs_49_2, scs_49_3, sca_50, sca_51, sca_52, scs_53_0, scs_53_1, scs_53_2, scs_53_3, sca_54, sca_55, sca_56, scs_57_0, scs_57_1, scs_57_2, scs_57_3, sca_58, sca_59, sca_60, scs_61_0, scs_61_1, scs_61_2, scs_61_3, sca_62, sca_63, sca_64, scs_65_0, scs_65_1, scs_65_2, scs_65_3, sca_66, sca_67, sca_68, scs_69_0, scs_69_1, scs_69_2, scs_69_3, sca_70, sca_71, sca_72, sc_st0, sc_st1, sc_st2, sc_sv0, sc_sv1, sc_sv2, o1, x2]
        exact ih (k + 1) (stp (nbF g) (avF g ct w) c t) _ _ (by omega) (by omega) (stp_I hg hw ht c1 c2) ha
  have l1 : ∀ (j k : Nat) (t : FS) (i : Int), k + j = nG g → i = k → (∀ c, c < k → t.1 c = (ini g).1 c ∧ t.2.1 c = -1 ∧ t.2.2 c = 0) → SG SC mX2_spread Q 2 [ar (53 + 4 * f), ar 1, ar (37 + 4 * w), ai i, au] [] (hX x f t) := by
    intro j
    induction j with
    | zero =>
      intro k t i hk hi ha
      have e : k = nG g := by omega
      subst e; subst hi
      have ag : agr (nG g) t (ini g) := fun c hc => ha c hc
      have fr0 : FR (nG g) t := by
        intro c hc
        have := ini_r hg c hc
        rw [← (ag c hc).1, ← (ag c hc).2.1, ← (ag c hc).2.2] at this
        exact this
      rw [sX2_spread_2]
      simp only [sX2_spread_0, sX2_spread_1, sX2_spread_3, sX2_spread_4, sX2_spread_7, sX2_spread_10, sX2_spread_11, sX2_spread_14, sX2_spread_15, sX2_spread_16, sX2_spread_19, sX2_spread_20, sX2_spread_21, sX2_spread_22, sX2_spread_23, sX2_spread_26, sX2_spread_27, sX2_spread_28, sX2_spread_29, sX2_spread_30, sX2_spread_33, sX2_spread_34, sX2_spread_35, sX2_spread_36, sX2_spread_39, sX2_spread_42, sX2_spread_43, sX2_spread_45, sX2_spread_46, sX2_spread_49, sX2_spread_52, sX2_spread_53, sX2_spread_54, sX2_spread_60, sX2_spread_62, sX2_spread_64, sX2_spread_65, sX2_spread_68, sX2_spread_71, sX2_spread_72, sX2_spread_75, sX2_spread_77, sX2_spread_78, sX2_spread_79, sX2_spread_80, sX2_spread_81, sX2_spread_82, sX2_spread_87, sX2_spread_90, sX2_spread_93, sX2_spread_94, sX2_spread_95, sX2_spread_98, onI_i, onR_r, onS_s, slotA_i, slotA_b, slotA_l, slotA_r, ptk_i, ptk_b, ptk_l, aldP_s, aldP_n, uc_s, uc_n, uc_uc, ua_s, ua_n, Nat.reduceEqDiff, not_false_eq_true, true_or, or_true, true_and, and_true, implies_true, Option.some.injEq, Sum.inl.injEq, Int.toNat_natCast, true_implies, not_true_eq_false, false_implies, Int.reduceEq, Int.reduceLT, Int.reduceLE, Int.reduceNeg, Int.reduceAdd, Int.reduceSub, Int.reduceMul, Int.reduceToNat, lg_0, lg_1, lg_2, lg_3, lg_4, lz_0, lz_1, lz_2, lz_3, lz_4, scs_0_0, scs_0_1, scs_0_2, scs_0_3, scs_0_4, scs_0_5, scs_0_6, scs_0_7, scs_0_8, scs_0_9, scs_1_0, scs_1_1, scs_1_2, scs_1_3, scs_1_4, scs_1_5, scs_1_6, scs_1_7, scs_1_8, scs_1_9, scs_1_10, scs_1_11, scs_1_12, scs_1_13, scs_1_14, scs_1_15, scs_1_16, scs_1_17, scs_1_18, scr_2, scr_3, scs_4_0, scs_4_1, scs_5_0, scs_5_1, scs_5_2, scs_5_3, scs_5_4, scs_6_0, scs_6_1, scs_6_2, scs_6_3, scs_7_0, scs_7_1, scs_7_2, scs_7_3, scs_8_0, scs_8_1, scs_8_2, sca_9, sca_10, sca_11, sca_12, sca_13, sca_14, sca_15, sca_16, sca_17, sca_18, sca_19, sca_20, sca_21, sca_22, sca_23, sca_24, sca_25, sca_26, sca_27, sca_28, sca_29, sca_30, sca_31, sca_32, sca_33, sca_34, sca_35, sca_36, scs_37_0, scs_37_1, scs_37_2, scs_37_3, sca_38, sca_39, sca_40, scs_41_0, scs_41_1, scs_41_2, scs_41_3, sca_42, sca_43, sca_44, scs_45_0, scs_45_1, scs_45_2, scs_45_3, sca_46, sca_47, sca_48, scs_49_0, scs_49_1, scs_49_2, scs_49_3, sca_50, sca_51, sca_52, scs_53_0, scs_53_1, scs_53_2, scs_53_3, sca_54, sca_55, sca_56, scs_57_0, scs_57_1, scs_57_2, scs_57_3, sca_58, sca_59, sca_60, scs_61_0, scs_61_1, scs_61_2, scs_61_3, sca_62, sca_63, sca_64, scs_65_0, scs_65_1, scs_65_2, scs_65_3, sca_66, sca_67, sca_68, scs_69_0, scs_69_1, scs_69_2, scs_69_3, sca_70, sca_71, sca_72, sc_st0, sc_st1, sc_st2, sc_sv0, sc_sv1, sc_sv2, o1, x2]
      refine ⟨by omega, by omega, fun _ => ?_, fun z => absurd z (by omega)⟩
      exact l2 (nG g) 0 t 0 _ (by omega) rfl ⟨fr0, fun a b h1 _ h2 => by rw [(ha a h1).2.2] at h2; omega⟩ (rnS_c (fun c d _ => nbF_r hg c d) (nG g) ag)
    | succ j ih =>
      intro k t i hk hi ha
      subst hi
      have y1 : hX x f t (54 + 4 * f) = t.1 := hX_1
      have y2 : hX x f t (55 + 4 * f) = t.2.1 := hX_2
      have y3 : hX x f t (56 + 4 * f) = t.2.2 := hX_3
      have d1 : ¬ 55 + 4 * f = 54 + 4 * f := by omega
      have d2 : ¬ 56 + 4 * f = 54 + 4 * f := by omega
      have d3 : ¬ 56 + 4 * f = 55 + 4 * f := by omega
      have x12 := (hG.2.2.2.2.1 k (by omega)).2.2.2.1
      have g4 := (hg.2.1 k (by omega)).2.2.2.1
      rw [sX2_spread_2]
      simp only [sX2_spread_0, sX2_spread_1, sX2_spread_3, sX2_spread_4, sX2_spread_7, sX2_spread_10, sX2_spread_11, sX2_spread_14, sX2_spread_15, sX2_spread_16, sX2_spread_19, sX2_spread_20, sX2_spread_21, sX2_spread_22, sX2_spread_23, sX2_spread_26, sX2_spread_27, sX2_spread_28, sX2_spread_29, sX2_spread_30, sX2_spread_33, sX2_spread_34, sX2_spread_35, sX2_spread_36, sX2_spread_39, sX2_spread_42, sX2_spread_43, sX2_spread_45, sX2_spread_46, sX2_spread_49, sX2_spread_52, sX2_spread_53, sX2_spread_54, sX2_spread_60, sX2_spread_62, sX2_spread_64, sX2_spread_65, sX2_spread_68, sX2_spread_71, sX2_spread_72, sX2_spread_75, sX2_spread_77, sX2_spread_78, sX2_spread_79, sX2_spread_80, sX2_spread_81, sX2_spread_82, sX2_spread_87, sX2_spread_90, sX2_spread_93, sX2_spread_94, sX2_spread_95, sX2_spread_98, onI_i, onR_r, onS_s, slotA_i, slotA_b, slotA_l, slotA_r, ptk_i, ptk_b, ptk_l, aldP_s, aldP_n, uc_s, uc_n, uc_uc, ua_s, ua_n, Nat.reduceEqDiff, not_false_eq_true, true_or, or_true, true_and, and_true, implies_true, Option.some.injEq, Sum.inl.injEq, Int.toNat_natCast, true_implies, not_true_eq_false, false_implies, Int.reduceEq, Int.reduceLT, Int.reduceLE, Int.reduceNeg, Int.reduceAdd, Int.reduceSub, Int.reduceMul, Int.reduceToNat, lg_0, lg_1, lg_2, lg_3, lg_4, lz_0, lz_1, lz_2, lz_3, lz_4, scs_0_0, scs_0_1, scs_0_2, scs_0_3, scs_0_4, scs_0_5, scs_0_6, scs_0_7, scs_0_8, scs_0_9, scs_1_0, scs_1_1, scs_1_2, scs_1_3, scs_1_4, scs_1_5, scs_1_6, scs_1_7, scs_1_8, scs_1_9, scs_1_10, scs_1_11, scs_1_12, scs_1_13, scs_1_14, scs_1_15, scs_1_16, scs_1_17, scs_1_18, scr_2, scr_3, scs_4_0, scs_4_1, scs_5_0, scs_5_1, scs_5_2, scs_5_3, scs_5_4, scs_6_0, scs_6_1, scs_6_2, scs_6_3, scs_7_0, scs_7_1, scs_7_2, scs_7_3, scs_8_0, scs_8_1, scs_8_2, sca_9, sca_10, sca_11, sca_12, sca_13, sca_14, sca_15, sca_16, sca_17, sca_18, sca_19, sca_20, sca_21, sca_22, sca_23, sca_24, sca_25, sca_26, sca_27, sca_28, sca_29, sca_30, sca_31, sca_32, sca_33, sca_34, sca_35, sca_36, scs_37_0, scs_37_1, scs_37_2, scs_37_3, sca_38, sca_39, sca_40, scs_41_0, scs_41_1, scs_41_2, scs_41_3, sca_42, sca_43, sca_44, scs_45_0, scs_45_1, scs_45_2, scs_45_3, sca_46, sca_47, sca_48, scs_49_0, scs_49_1, scs_49_2, scs_49_3, sca_50, sca_51, sca_52, scs_53_0, scs_53_1, scs_53_2, scs_53_3, sca_54, sca_55, sca_56, scs_57_0, scs_57_1, scs_57_2, scs_57_3, sca_58, sca_59, sca_60, scs_61_0, scs_61_1, scs_61_2, scs_61_3, sca_62, sca_63, sca_64, scs_65_0, scs_65_1, scs_65_2, scs_65_3, sca_66, sca_67, sca_68, scs_69_0, scs_69_1, scs_69_2, scs_69_3, sca_70, sca_71, sca_72, sc_st0, sc_st1, sc_st2, sc_sv0, sc_sv1, sc_sv2, o1, x2, o12, x12, e1, e2, e3, e4, e5, e6, y1, y2, y3, d1, d2, d3]
      rw [hX_u1, hX_u2, hX_u3]
      refine ⟨by omega, by omega, fun z => absurd z (by omega), fun _ => ⟨by omega, by omega, by omega, by omega, ?_⟩⟩
      refine ih (k + 1) _ _ (by omega) rfl (fun c hc => ?_)
      dsimp only
      by_cases e : c = k
      · subst e; rw [ua_s, ua_s, ua_s]; exact ⟨rfl, rfl, rfl⟩
      · rw [ua_n e, ua_n e, ua_n e]; exact ha c (by omega)
  refine Ok_of SC_ok (by decide +kernel) rfl (Nat.le_of_ble_eq_true rfl) ?_
  show SG SC mX2_spread _ 0 [ar (53 + 4 * f), ar 1, ar (37 + 4 * w), au, au] [] _
  simp only [sX2_spread_0, sX2_spread_1, sX2_spread_3, sX2_spread_4, sX2_spread_7, sX2_spread_10, sX2_spread_11, sX2_spread_14, sX2_spread_15, sX2_spread_16, sX2_spread_19, sX2_spread_20, sX2_spread_21, sX2_spread_22, sX2_spread_23, sX2_spread_26, sX2_spread_27, sX2_spread_28, sX2_spread_29, sX2_spread_30, sX2_spread_33, sX2_spread_34, sX2_spread_35, sX2_spread_36, sX2_spread_39, sX2_spread_42, sX2_spread_43, sX2_spread_44, sX2_spread_45, sX2_spread_46, sX2_spread_49, sX2_spread_52, sX2_spread_53, sX2_spread_54, sX2_spread_60, sX2_spread_62, sX2_spread_64, sX2_spread_65, sX2_spread_68, sX2_spread_71, sX2_spread_72, sX2_spread_75, sX2_spread_77, sX2_spread_78, sX2_spread_79, sX2_spread_80, sX2_spread_81, sX2_spread_82, sX2_spread_87, sX2_spread_90, sX2_spread_93, sX2_spread_94, sX2_spread_95, sX2_spread_98, onI_i, onR_r, onS_s, slotA_i, slotA_b, slotA_l, slotA_r, ptk_i, ptk_b, ptk_l, aldP_s, aldP_n, uc_s, uc_n, uc_uc, ua_s, ua_n, Nat.reduceEqDiff, not_false_eq_true, true_or, or_true, true_and, and_true, implies_true, Option.some.injEq, Sum.inl.injEq, Int.toNat_natCast, true_implies, not_true_eq_false, false_implies, Int.reduceEq, Int.reduceLT, Int.reduceLE, Int.reduceNeg, Int.reduceAdd, Int.reduceSub, Int.reduceMul, Int.reduceToNat, lg_0, lg_1, lg_2, lg_3, lg_4, lz_0, lz_1, lz_2, lz_3, lz_4, scs_0_0, scs_0_1, scs_0_2, scs_0_3, scs_0_4, scs_0_5, scs_0_6, scs_0_7, scs_0_8, scs_0_9, scs_1_0, scs_1_1, scs_1_2, scs_1_3, scs_1_4, scs_1_5, scs_1_6, scs_1_7, scs_1_8, scs_1_9, scs_1_10, scs_1_11, scs_1_12, scs_1_13, scs_1_14, scs_1_15, scs_1_16, scs_1_17, scs_1_18, scr_2, scr_3, scs_4_0, scs_4_1, scs_5_0, scs_5_1, scs_5_2, scs_5_3, scs_5_4, scs_6_0, scs_6_1, scs_6_2, scs_6_3, scs_7_0, scs_7_1, scs_7_2, scs_7_3, scs_8_0, scs_8_1, scs_8_2, sca_9, sca_10, sca_11, sca_12, sca_13, sca_14, sca_15, sca_16, sca_17, sca_18, sca_19, sca_20, sca_21, sca_22, sca_23, sca_24, sca_25, sca_26, sca_27, sca_28, sca_29, sca_30, sca_31, sca_32, sca_33, sca_34, sca_35, sca_36, scs_37_0, scs_37_1, scs_37_2, scs_37_3, sca_38, sca_39, sca_40, scs_41_0, scs_41_1, scs_41_2, scs_41_3, sca_42, sca_43, sca_44, scs_45_0, scs_45_1, scs_45_2, scs_45_3, sca_46, sca_47, sca_48, scs_49_0, scs_49_1, scs_49_2, scs_49_3, sca_50, sca_51, sca_52, scs_53_0, scs_53_1, scs_53_2, scs_53_3, sca_54, sca_55, sca_56, scs_57_0, scs_57_1, scs_57_2, scs_57_3, sca_58, sca_59, sca_60, scs_61_0, scs_61_1, scs_61_2, scs_61_3, sca_62, sca_63, sca_64, scs_65_0, scs_65_1, scs_65_2, scs_65_3, sca_66, sca_67, sca_68, scs_69_0, scs_69_1, scs_69_2, scs_69_3, sca_70, sca_71, sca_72, sc_st0, sc_st1, sc_st2, sc_sv0, sc_sv1, sc_sv2]
  have := l1 (nG g) 0 (x (54 + 4 * f), x (55 + 4 * f), x (56 + 4 * f)) 0 (by omega) rfl (fun c hc => absurd hc (by omega))
  rw [hX_e rfl rfl rfl] at this
  exact this
theorem o_cellsBy {x : AH} {f : Nat} (hf : f < 5) {b : Nat → Int} {n : Nat} (hn : n ≤ 64) (hb : ∀ c, c < n → x (54 + 4 * f) c = b c ∧ inR (b c)) {m : Int} (hm : inR m) : Ok SC mX2_cellsBy [ar (53 + 4 * f), ai m, ai n] x (fun r h2 => r = some (ai (cntB b m n)) ∧ h2 = x) := by
  have e1 := scF_1 hf
  have e4 := scFa_1 hf
  have lp : ∀ (j k : Nat) (a i : Int), k + j = n → i = k → a = cntB b m k → SG SC mX2_cellsBy (fun r h2 => r = some (ai (cntB b m n)) ∧ h2 = x) 5 [ar (53 + 4 * f), ai m, ai n, ai a, ai i] [] x := by
    intro j
    induction j with
    | zero =>
      intro k a i hk hi ha
      have e : k = n := by omega
      subst e
      rw [sX2_cellsBy_5]
      simp only [sX2_cellsBy_0, sX2_cellsBy_1, sX2_cellsBy_2, sX2_cellsBy_3, sX2_cellsBy_7, sX2_cellsBy_8, sX2_cellsBy_11, sX2_cellsBy_12, sX2_cellsBy_15, sX2_cellsBy_17, sX2_cellsBy_18, sX2_cellsBy_19, sX2_cellsBy_22, sX2_cellsBy_25, sX2_cellsBy_28, sX2_cellsBy_31, sX2_cellsBy_32, onI_i, onR_r, onS_s, slotA_i, slotA_b, slotA_l, slotA_r, ptk_i, ptk_b, ptk_l, aldP_s, aldP_n, uc_s, uc_n, uc_uc, ua_s, ua_n, Nat.reduceEqDiff, not_false_eq_true, true_or, or_true, true_and, and_true, implies_true, Option.some.injEq, Sum.inl.injEq, Int.toNat_natCast, true_implies, not_true_eq_false, false_implies, Int.reduceEq, Int.reduceLT, Int.reduceLE, Int.reduceNeg, Int.reduceAdd, Int.reduceSub, Int.reduceMul, Int.reduceToNat, lg_0, lg_1, lg_2, lg_3, lg_4, lz_0, lz_1, lz_2, lz_3, lz_4, scs_0_0, scs_0_1, scs_0_2, scs_0_3, scs_0_4, scs_0_5, scs_0_6, scs_0_7, scs_0_8, scs_0_9, scs_1_0, scs_1_1, scs_1_2, scs_1_3, scs_1_4, scs_1_5, scs_1_6, scs_1_7, scs_1_8, scs_1_9, scs_1_10, scs_1_11, scs_1_12, scs_1_13, scs_1_14, scs_1_15, scs_1_16, scs_1_17, scs_1_18, scr_2, scr_3, scs_4_0, scs_4_1, scs_5_0, scs_5_1, scs_5_2, scs_5_3, scs_5_4, scs_6_0, scs_6_1, scs_6_2, scs_6_3, scs_7_0, scs_7_1, scs_7_2, scs_7_3, scs_8_0, scs_8_1, scs_8_2, sca_9, sca_10, sca_11, sca_12, sca_13, sca_14, sca_15, sca_16, sca_17, sca_18, sca_19, sca_20, sca_21, sca_22, sca_23, sca_24, sca_25, sca_26, sca_27, sca_28, sca_29, sca_30, sca_31, sca_32, sca_33, sca_34, sca_35, sca_36, scs_37_0, scs_37_1, scs_37_2, scs_37_3, sca_38, sca_39, sca_40, scs_41_0, scs_41_1, scs_41_2, scs_41_3, sca_42, sca_43, sca_44, scs_45_0, scs_45_1, scs_45_2, scs_45_3, sca_46, sca_47, sca_48, scs_49_0, scs_49_1, scs_49_2, scs_49_3, sca_50, sca_51, sca_52, scs_53_0, scs_53_1, scs_53_2, scs_53_3, sca_54, sca_55, sca_56, scs_57_0, scs_57_1, scs_57_2, scs_57_3, sca_58, sca_59, sca_60, scs_61_0, scs_61_1, scs_61_2, scs_61_3, sca_62, sca_63, sca_64, scs_65_0, scs_65_1, scs_65_2, scs_65_3, sca_66, sca_67, sca_68, scs_69_0, scs_69_1, scs_69_2, scs_69_3, sca_70, sca_71, sca_72, sc_st0, sc_st1, sc_st2, sc_sv0, sc_sv1, sc_sv2, e1, e4]
      exact ⟨by omega, by omega, fun _ => ha, fun z => absurd z (by omega)⟩
    | succ j ih =>
      intro k a i hk hi ha
      subst hi
      have bk := hb k (by omega)
      have bk1 := bk.1
      have ce : cntB b m (k + 1) = cntB b m k + (if b k ≤ m then 1 else 0) := rfl
      rw [sX2_cellsBy_5]
      simp only [sX2_cellsBy_0, sX2_cellsBy_1, sX2_cellsBy_2, sX2_cellsBy_3, sX2_cellsBy_7, sX2_cellsBy_8, sX2_cellsBy_11, sX2_cellsBy_12, sX2_cellsBy_15, sX2_cellsBy_17, sX2_cellsBy_18, sX2_cellsBy_19, sX2_cellsBy_22, sX2_cellsBy_25, sX2_cellsBy_28, sX2_cellsBy_31, sX2_cellsBy_32, onI_i, onR_r, onS_s, slotA_i, slotA_b, slotA_l, slotA_r, ptk_i, ptk_b, ptk_l, aldP_s, aldP_n, uc_s, uc_n, uc_uc, ua_s, ua_n, Nat.reduceEqDiff, not_false_eq_true, true_or, or_true, true_and, and_true, implies_true, Option.some.injEq, Sum.inl.injEq, Int.toNat_natCast, true_implies, not_true_eq_false, false_implies, Int.reduceEq, Int.reduceLT, Int.reduceLE, Int.reduceNeg, Int.reduceAdd, Int.reduceSub, Int.reduceMul, Int.reduceToNat, lg_0, lg_1, lg_2, lg_3, lg_4, lz_0, lz_1, lz_2, lz_3, lz_4, scs_0_0, scs_0_1, scs_0_2, scs_0_3, scs_0_4, scs_0_5, scs_0_6, scs_0_7, scs_0_8, scs_0_9, scs_1_0, scs_1_1, scs_1_2, scs_1_3, scs_1_4, scs_1_5, scs_1_6, scs_1_7, scs_1_8, scs_1_9, scs_1_10, scs_1_11, scs_1_12, scs_1_13, scs_1_14, scs_1_15, scs_1_16, scs_1_17, scs_1_18, scr_2, scr_3, scs_4_0, scs_4_1, scs_5_0, scs_5_1, scs_5_2, scs_5_3, scs_5_4, scs_6_0, scs_6_1, scs_6_2, scs_6_3, scs_7_0, scs_7_1, scs_7_2, scs_7_3, scs_8_0, scs_8_1, scs_8_2, sca_9, sca_10, sca_11, sca_12, sca_13, sca_14, sca_15, sca_16, sca_17, sca_18, sca_19, sca_20, sca_21, sca_22, sca_23, sca_24, sca_25, sca_26, sca_27, sca_28, sca_29, sca_30, sca_31, sca_32, sca_33, sca_34, sca_35, sca_36, scs_37_0, scs_37_1, scs_37_2, scs_37_3, sca_38, sca_39, sca_40, scs_41_0, scs_41_1, scs_41_2, scs_41_3, sca_42, sca_43, sca_44, scs_45_0, scs_45_1, scs_45_2, scs_45_3, sca_46, sca_47, sca_48, scs_49_0, scs_49_1, scs_49_2, scs_49_3, sca_50, sca_51, sca_52, scs_53_0, scs_53_1, scs_53_2, scs_53_3, sca_54, sca_55, sca_56, scs_57_0, scs_57_1, scs_57_2, scs_57_3, sca_58, sca_59, sca_60, scs_61_0, scs_61_1, scs_61_2, scs_61_3, sca_62, sca_63, sca_64, scs_65_0, scs_65_1, scs_65_2, scs_65_3, sca_66, sca_67, sca_68, scs_69_0, scs_69_1, scs_69_2, scs_69_3, sca_70, sca_71, sca_72, sc_st0, sc_st1, sc_st2, sc_sv0, sc_sv1, sc_sv2, e1, e4, bk1]
      refine ⟨by omega, by omega, fun z => absurd z (by omega), fun _ => ⟨by omega, by omega, by omega, fun z => ?_, fun z => ?_⟩⟩
      · exact ih (k + 1) _ _ (by omega) (by omega) (by rw [ce, if_neg (by omega)]; omega)
      · exact ih (k + 1) _ _ (by omega) (by omega) (by rw [ce, if_pos (by omega)]; omega)
  refine Ok_of SC_ok (by decide +kernel) rfl (Nat.le_of_ble_eq_true rfl) ?_
  show SG SC mX2_cellsBy _ 0 [ar (53 + 4 * f), ai m, ai n, au, au] [] _
  simp only [sX2_cellsBy_0, sX2_cellsBy_1, sX2_cellsBy_2, sX2_cellsBy_3, sX2_cellsBy_7, sX2_cellsBy_8, sX2_cellsBy_11, sX2_cellsBy_12, sX2_cellsBy_15, sX2_cellsBy_17, sX2_cellsBy_18, sX2_cellsBy_19, sX2_cellsBy_22, sX2_cellsBy_25, sX2_cellsBy_28, sX2_cellsBy_31, sX2_cellsBy_32, onI_i, onR_r, onS_s, slotA_i, slotA_b, slotA_l, slotA_r, ptk_i, ptk_b, ptk_l, aldP_s, aldP_n, uc_s, uc_n, uc_uc, ua_s, ua_n, Nat.reduceEqDiff, not_false_eq_true, true_or, or_true, true_and, and_true, implies_true, Option.some.injEq, Sum.inl.injEq, Int.toNat_natCast, true_implies, not_true_eq_false, false_implies, Int.reduceEq, Int.reduceLT, Int.reduceLE, Int.reduceNeg, Int.reduceAdd, Int.reduceSub, Int.reduceMul, Int.reduceToNat, lg_0, lg_1, lg_2, lg_3, lg_4, lz_0, lz_1, lz_2, lz_3, lz_4, scs_0_0, scs_0_1, scs_0_2, scs_0_3, scs_0_4, scs_0_5, scs_0_6, scs_0_7, scs_0_8, scs_0_9, scs_1_0, scs_1_1, scs_1_2, scs_1_3, scs_1_4, scs_1_5, scs_1_6, scs_1_7, scs_1_8, scs_1_9, scs_1_10, scs_1_11, scs_1_12, scs_1_13, scs_1_14, scs_1_15, scs_1_16, scs_1_17, scs_1_18, scr_2, scr_3, scs_4_0, scs_4_1, scs_5_0, scs_5_1, scs_5_2, scs_5_3, scs_5_4, scs_6_0, scs_6_1, scs_6_2, scs_6_3, scs_7_0, scs_7_1, scs_7_2, scs_7_3, scs_8_0, scs_8_1, scs_8_2, sca_9, sca_10, sca_11, sca_12, sca_13, sca_14, sca_15, sca_16, sca_17, sca_18, sca_19, sca_20, sca_21, sca_22, sca_23, sca_24, sca_25, sca_26, sca_27, sca_28, sca_29, sca_30, sca_31, sca_32, sca_33, sca_34, sca_35, sca_36, scs_37_0, scs_37_1, scs_37_2, scs_37_3, sca_38, sca_39, sca_40, scs_41_0, scs_41_1, scs_41_2, scs_41_3, sca_42, sca_43, sca_44, scs_45_0, scs_45_1, scs_45_2, scs_45_3, sca_46, sca_47, sca_48, scs_49_0, scs_49_1, scs_49_2, scs_49_3, sca_50, sca_51, sca_52, scs_53_0, scs_53_1, scs_53_2, scs_53_3, sca_54, sca_55, sca_56, scs_57_0, scs_57_1, scs_57_2, scs_57_3, sca_58, sca_59, sca_60, scs_61_0, scs_61_1, scs_61_2, scs_61_3, sca_62, sca_63, sca_64, scs_65_0, scs_65_1, scs_65_2, scs_65_3, sca_66, sca_67, sca_68, scs_69_0, scs_69_1, scs_69_2, scs_69_3, sca_70, sca_71, sca_72, sc_st0, sc_st1, sc_st2, sc_sv0, sc_sv1, sc_sv2]
  exact lp n 0 0 0 (by omega) rfl rfl
