/-! what a change leaves alike -/
/-- all but cuts, the trial fire and the working cells -/
def sC (x y : AH) : Prop := ∀ k, k < 69 → ¬ (k = 7 ∨ k = 14 ∨ k = 24 ∨ k = 25 ∨ k = 32 ∨ k = 33 ∨ k = 34 ∨ k = 36) → y k = x k
theorem sC_rf (x : AH) : sC x x := fun _ _ _ => rfl
theorem sC_t {x y z : AH} (h : sC x y) (h2 : sC y z) : sC x z := fun k h3 h4 => by rw [h2 k h3 h4, h k h3 h4]
theorem sC_u {x y : AH} (h : sC x y) {k : Nat} (hk : 69 ≤ k ∨ (k = 7 ∨ k = 14 ∨ k = 24 ∨ k = 25 ∨ k = 32 ∨ k = 33 ∨ k = 34 ∨ k = 36)) (f : Nat → Int) : sC x (updC y k f) := by
  intro q h1 h2
  rw [uc_n (by omega)]
  exact h q h1 h2
theorem sC_E {x y : AH} (h : sC x y) (cm qu : Nat → Int) : sC x (hE y cm qu) := sC_u (sC_u h (by omega) _) (by omega) _
theorem sC_X {x y : AH} (h : sC x y) (s : FS) (f : Nat → Int) : sC x (updC (hX y 4 s) (53 + 4 * 4) f) := sC_u (sC_u (sC_u (sC_u h (by omega) _) (by omega) _) (by omega) _) (by omega) _
theorem sC_W {x y z : AH} (h : sC x y) (h2 : sW y z) : sC x z := fun k h3 h4 => by rw [h2 k (by omega) (by omega) (by omega) (by omega), h k h3 h4]
theorem rG_s {x y g : AH} (e : sC x y) (h : rG x g) : rG y g := by
  unfold rG at *
  simp only [e 0 (by omega) (by omega), e 1 (by omega) (by omega), e 9 (by omega) (by omega), e 10 (by omega) (by omega), e 11 (by omega) (by omega), e 12 (by omega) (by omega), e 13 (by omega) (by omega), e 15 (by omega) (by omega), e 16 (by omega) (by omega), e 17 (by omega) (by omega), e 18 (by omega) (by omega), e 19 (by omega) (by omega)]
  exact h
theorem rD_s {x y g : AH} (e : sC x y) (h : rD x g) : rD y g := by
  unfold rD at *
  simp only [e 1 (by omega) (by omega), e 20 (by omega) (by omega), e 21 (by omega) (by omega), e 22 (by omega) (by omega), e 23 (by omega) (by omega)]
  exact h
theorem rW1_s {x y g : AH} (e : sC x y) {w : Nat} (hw : w < 4) (h : rW1 x g w) : rW1 y g w := by
  unfold rW1 at *
  simp only [e (37 + 4 * w) (by omega) (by omega), e (38 + 4 * w) (by omega) (by omega), e (39 + 4 * w) (by omega) (by omega), e (40 + 4 * w) (by omega) (by omega)]
  exact h
theorem rW_s {x y g : AH} (e : sC x y) (hg : gi g) (h : rW x g) : rW y g := fun w hw => rW1_s e (by have := hg.2.2.1; omega) (h w hw)
theorem rO_s {x y g : AH} (e : sC x y) (h : rO x g) : rO y g := by
  unfold rO at *
  simp only [e 5 (by omega) (by omega), e 6 (by omega) (by omega), e 8 (by omega) (by omega), e 26 (by omega) (by omega), e 27 (by omega) (by omega), e 28 (by omega) (by omega), e 29 (by omega) (by omega), e 30 (by omega) (by omega), e 31 (by omega) (by omega), e 35 (by omega) (by omega)]
  exact h
theorem rF_s {x y g : AH} (e : sC x y) (h : rF x g) : rF y g := by
  intro f hf
  have := h f hf
  unfold rF1 at *
  rw [e (53 + 4 * f) (by omega) (by omega), e (54 + 4 * f) (by omega) (by omega), e (55 + 4 * f) (by omega) (by omega)]
  exact this
theorem rB_s {x y g : AH} (e : sC x y) (hg : gi g) (h : rB x g) : rB y g := ⟨rG_s e h.1, rD_s e h.2.1, rW_s e hg h.2.2.1, rO_s e h.2.2.2⟩
theorem Rel_s {x y g : AH} (e : sC x y) (hc : ∀ c, c < 64 → y 14 c = x 14 c) (hg : gi g) (h : RelC x g) : RelC y g := ⟨rB_s e hg h.1, fun c hc2 => by rw [hc c hc2]; exact h.2.1 c hc2, rF_s e h.2.2⟩
theorem fr4 (w : Nat) (h : w < 4) : ([53, 57, 61, 65] : List Nat).getD w 0 = 53 + 4 * w ∧ ([37, 41, 45, 49] : List Nat).getD w 0 = 37 + 4 * w := by
  have : w = 0 ∨ w = 1 ∨ w = 2 ∨ w = 3 := by omega
  rcases this with rfl | rfl | rfl | rfl <;> decide
theorem ct_r {g : AH} (hg : gi g) {c : Nat} (hc : c < 64) : inR (g 6 c) := by
  have := (hg.2.1 c hc).2.2.2.2.2.1
  omega
theorem o_fireOf {x g : AH} (hg : gi g) (hR : RelC x g) {w : Nat} (hw : (w : Int) < g 0 2) : Ok SC mX8_fireOf [ar 0, ai w] x (fun r h2 => r = some (ar (53 + 4 * w)) ∧ RelC h2 g ∧ rF1 h2 g w ∧ ∀ k, k < 53 → h2 k = x k) := by
  have hn := gi_n hg
  have g2 := hg.2.2.1
  have w4 : w < 4 := by omega
  obtain ⟨hB, hC, hF⟩ := hR
  have kn := hF w w4
  have e0 := scF_0 (f := w) (by omega)
  obtain ⟨f1, f2⟩ := fr4 w w4
  refine Ok_of SC_ok (by decide +kernel) rfl (Nat.le_of_ble_eq_true rfl) ?_
  show SG SC mX8_fireOf _ 0 [ar 0, ai w, au] [] _
  simp only [sX8_fireOf_0, sX8_fireOf_1, sX8_fireOf_4, sX8_fireOf_5, sX8_fireOf_6, sX8_fireOf_7, sX8_fireOf_8, sX8_fireOf_11, sX8_fireOf_14, sX8_fireOf_15, sX8_fireOf_16, sX8_fireOf_19, sX8_fireOf_20, sX8_fireOf_23, sX8_fireOf_24, sX8_fireOf_28, sX8_fireOf_29, onI_i, onR_r, onS_s, slotA_i, slotA_b, slotA_l, slotA_r, ptk_i, ptk_b, ptk_l, aldP_s, aldP_n, uc_s, uc_n, uc_uc, ua_s, ua_n, Nat.reduceEqDiff, not_false_eq_true, true_or, or_true, true_and, and_true, implies_true, Option.some.injEq, Sum.inl.injEq, Int.toNat_natCast, true_implies, not_true_eq_false, false_implies, Int.reduceEq, Int.reduceLT, Int.reduceLE, Int.reduceNeg, Int.reduceAdd, Int.reduceSub, Int.reduceMul, Int.reduceToNat, lg_0, lg_1, lg_2, lz_0, lz_1, lz_2, scs_0_0, scs_0_1, scs_0_2, scs_0_3, scs_0_4, scs_0_5, scs_0_6, scs_0_7, scs_0_8, scs_0_9, scs_1_0, scs_1_1, scs_1_2, scs_1_3, scs_1_4, scs_1_5, scs_1_6, scs_1_7, scs_1_8, scs_1_9, scs_1_10, scs_1_11, scs_1_12, scs_1_13, scs_1_14, scs_1_15, scs_1_16, scs_1_17, scs_1_18, scr_2, scr_3, scs_4_0, scs_4_1, scs_5_0, scs_5_1, scs_5_2, scs_5_3, scs_5_4, scs_6_0, scs_6_1, scs_6_2, scs_6_3, scs_7_0, scs_7_1, scs_7_2, scs_7_3, scs_8_0, scs_8_1, scs_8_2, sca_9, sca_10, sca_11, sca_12, sca_13, sca_14, sca_15, sca_16, sca_17, sca_18, sca_19, sca_20, sca_21, sca_22, sca_23, sca_24, sca_25, sca_26, sca_27, sca_28, sca_29, sca_30, sca_31, sca_32, sca_33, sca_34, sca_35, sca_36, scs_37_0, scs_37_1, scs_37_2, scs_37_3, sca_38, sca_39, sca_40, scs_41_0, scs_41_1, scs_41_2, scs_41_3, sca_42, sca_43, sca_44, scs_45_0, scs_45_1, scs_45_2, scs_45_3, sca_46, sca_47, sca_48, scs_49_0, scs_49_1, scs_49_2, scs_49_3, sca_50, sca_51, sca_52, scs_53_0, scs_53_1, scs_53_2, scs_53_3, sca_54, sca_55, sca_56, scs_57_0, scs_57_1, scs_57_2, scs_57_3, sca_58, sca_59, sca_60, scs_61_0, scs_61_1, scs_61_2, scs_61_3, sca_62, sca_63, sca_64, scs_65_0, scs_65_1, scs_65_2, scs_65_3, sca_66, sca_67, sca_68, scs_69_0, scs_69_1, scs_69_2, scs_69_3, sca_70, sca_71, sca_72, sc_st0, sc_st1, sc_st2, sc_sv0, sc_sv1, sc_sv2, f1, f2, e0]
  refine ⟨by simp; omega, by omega, fun z => ?_, fun z => ⟨by simp; omega, ?_⟩⟩
  · exact ⟨⟨hB, hC, hF⟩, kn.2 hw (by omega)⟩
  · refine kX8_fireOf_25 (Nat.le_of_ble_eq_true rfl) (scFo (by omega)) (o_spread hg w4 (show w < 5 by omega) hB.1 hB.2.1 (hB.2.2.1 w hw) (ct := g 6) (fun c hc => ⟨hC c (by omega), ct_r hg (by omega)⟩)) (fun r h' q => ?_)
    obtain ⟨rfl, s, rfl, ag, fs⟩ := q
    show SG SC mX8_fireOf _ 28 _ [] _
    simp only [sX8_fireOf_0, sX8_fireOf_1, sX8_fireOf_4, sX8_fireOf_5, sX8_fireOf_6, sX8_fireOf_7, sX8_fireOf_8, sX8_fireOf_11, sX8_fireOf_14, sX8_fireOf_15, sX8_fireOf_16, sX8_fireOf_19, sX8_fireOf_20, sX8_fireOf_23, sX8_fireOf_24, sX8_fireOf_28, sX8_fireOf_29, onI_i, onR_r, onS_s, slotA_i, slotA_b, slotA_l, slotA_r, ptk_i, ptk_b, ptk_l, aldP_s, aldP_n, uc_s, uc_n, uc_uc, ua_s, ua_n, Nat.reduceEqDiff, not_false_eq_true, true_or, or_true, true_and, and_true, implies_true, Option.some.injEq, Sum.inl.injEq, Int.toNat_natCast, true_implies, not_true_eq_false, false_implies, Int.reduceEq, Int.reduceLT, Int.reduceLE, Int.reduceNeg, Int.reduceAdd, Int.reduceSub, Int.reduceMul, Int.reduceToNat, lg_0, lg_1, lg_2, lz_0, lz_1, lz_2, scs_0_0, scs_0_1, scs_0_2, scs_0_3, scs_0_4, scs_0_5, scs_0_6, scs_0_7, scs_0_8, scs_0_9, scs_1_0, scs_1_1, scs_1_2, scs_1_3, scs_1_4, scs_1_5, scs_1_6, scs_1_7, scs_1_8, scs_1_9, scs_1_10, scs_1_11, scs_1_12, scs_1_13, scs_1_14, scs_1_15, scs_1_16, scs_1_17, scs_1_18, scr_2, scr_3, scs_4_0, scs_4_1, scs_5_0, scs_5_1, scs_5_2, scs_5_3, scs_5_4, scs_6_0, scs_6_1, scs_6_2, scs_6_3, scs_7_0, scs_7_1, scs_7_2, scs_7_3, scs_8_0, scs_8_1, scs_8_2, sca_9, sca_10, sca_11, sca_12, sca_13, sca_14, sca_15, sca_16, sca_17, sca_18, sca_19, sca_20, sca_21, sca_22, sca_23, sca_24, sca_25, sca_26, sca_27, sca_28, sca_29, sca_30, sca_31, sca_32, sca_33, sca_34, sca_35, sca_36, scs_37_0, scs_37_1, scs_37_2, scs_37_3, sca_38, sca_39, sca_40, scs_41_0, scs_41_1, scs_41_2, scs_41_3, sca_42, sca_43, sca_44, scs_45_0, scs_45_1, scs_45_2, scs_45_3, sca_46, sca_47, sca_48, scs_49_0, scs_49_1, scs_49_2, scs_49_3, sca_50, sca_51, sca_52, scs_53_0, scs_53_1, scs_53_2, scs_53_3, sca_54, sca_55, sca_56, scs_57_0, scs_57_1, scs_57_2, scs_57_3, sca_58, sca_59, sca_60, scs_61_0, scs_61_1, scs_61_2, scs_61_3, sca_62, sca_63, sca_64, scs_65_0, scs_65_1, scs_65_2, scs_65_3, sca_66, sca_67, sca_68, scs_69_0, scs_69_1, scs_69_2, scs_69_3, sca_70, sca_71, sca_72, sc_st0, sc_st1, sc_st2, sc_sv0, sc_sv1, sc_sv2]
    have lo : ∀ k, k < 53 → updC (hX x w s) (53 + 4 * w) (updA (x (53 + 4 * w)) 0 1) k = x k := by
      intro k hk
      rw [uc_n (by omega)]
      exact hX_53 (by omega)
    have own : rF1 (updC (hX x w s) (53 + 4 * w) (updA (x (53 + 4 * w)) 0 1)) g w := by
      intro c hc
      rw [uc_n (by omega), uc_n (by omega), hX_1, hX_2]
      exact ⟨(ag c hc).1, (ag c hc).2.1⟩
    refine ⟨⟨?_, fun c hc => ?_, fun f hf => ?_⟩, own, lo⟩
    · refine ⟨rG_o (fun k hk _ => lo k hk) hB.1, rD_o (fun k hk _ => lo k hk) hB.2.1, fun v hv => rW1_o (fun k hk _ => lo k hk) (by omega) (hB.2.2.1 v hv), ?_⟩
      have := hB.2.2.2
      unfold rO at *
      simp only [lo 5 (by omega), lo 6 (by omega), lo 8 (by omega), lo 26 (by omega), lo 27 (by omega), lo 28 (by omega), lo 29 (by omega), lo 30 (by omega), lo 31 (by omega), lo 35 (by omega)]
      exact this
    · rw [lo 14 (by omega)]; exact hC c hc
    · by_cases e : f = w
      · subst e
        rw [uc_s, ua_s]
        exact ⟨Or.inr rfl, fun _ _ => own⟩
      · have := hF f hf
        unfold rF1 at *
        rw [uc_n (by omega), uc_n (by omega), uc_n (by omega), hX_o (by omega) (by omega) (by omega), hX_o (by omega) (by omega) (by omega), hX_o (by omega) (by omega) (by omega)]
        exact this
/-- no fire known -/
def nF (x y : AH) : Prop := (∀ f, f < 4 → y (53 + 4 * f) 0 = 0) ∧ ∀ k, (∀ f, f < 4 → ¬ k = 53 + 4 * f) → y k = x k
theorem o_forget {x : AH} : Ok SC mX8_forgetFires [ar 0] x (fun r h2 => r = none ∧ nF x h2) := by
  have lp : ∀ (j w : Nat) (y : AH) (u : Int), w + j = 4 → u = w → (∀ f, f < w → y (53 + 4 * f) 0 = 0) → (∀ k, (∀ f, f < 4 → ¬ k = 53 + 4 * f) → y k = x k) → SG SC mX8_forgetFires (fun r h2 => r = none ∧ nF x h2) 2 [ar 0, ai u] [] y := by
    intro j
    induction j with
    | zero =>
      intro w y u hw hu h1 h2
      have e : w = 4 := by omega
      subst e; subst hu
      rw [sX8_forgetFires_2]
      simp only [sX8_forgetFires_0, sX8_forgetFires_1, sX8_forgetFires_3, sX8_forgetFires_4, sX8_forgetFires_7, sX8_forgetFires_8, sX8_forgetFires_11, sX8_forgetFires_12, sX8_forgetFires_13, sX8_forgetFires_14, sX8_forgetFires_17, sX8_forgetFires_20, sX8_forgetFires_23, onI_i, onR_r, onS_s, slotA_i, slotA_b, slotA_l, slotA_r, ptk_i, ptk_b, ptk_l, aldP_s, aldP_n, uc_s, uc_n, uc_uc, ua_s, ua_n, Nat.reduceEqDiff, not_false_eq_true, true_or, or_true, true_and, and_true, implies_true, Option.some.injEq, Sum.inl.injEq, Int.toNat_natCast, true_implies, not_true_eq_false, false_implies, Int.reduceEq, Int.reduceLT, Int.reduceLE, Int.reduceNeg, Int.reduceAdd, Int.reduceSub, Int.reduceMul, Int.reduceToNat, lg_0, lg_1, lz_0, lz_1, scs_0_0, scs_0_1, scs_0_2, scs_0_3, scs_0_4, scs_0_5, scs_0_6, scs_0_7, scs_0_8, scs_0_9, scs_1_0, scs_1_1, scs_1_2, scs_1_3, scs_1_4, scs_1_5, scs_1_6, scs_1_7, scs_1_8, scs_1_9, scs_1_10, scs_1_11, scs_1_12, scs_1_13, scs_1_14, scs_1_15, scs_1_16, scs_1_17, scs_1_18, scr_2, scr_3, scs_4_0, scs_4_1, scs_5_0, scs_5_1, scs_5_2, scs_5_3, scs_5_4, scs_6_0, scs_6_1, scs_6_2, scs_6_3, scs_7_0, scs_7_1, scs_7_2, scs_7_3, scs_8_0, scs_8_1, scs_8_2, sca_9, sca_10, sca_11, sca_12, sca_13, sca_14, sca_15, sca_16, sca_17, sca_18, sca_19, sca_20, sca_21, sca_22, sca_23, sca_24, sca_25, sca_26, sca_27, sca_28, sca_29, sca_30, sca_31, sca_32, sca_33, sca_34, sca_35, sca_36, scs_37_0, scs_37_1, scs_37_2, scs_37_3, sca_38, sca_39, sca_40, scs_41_0, scs_41_1, scs_41_2, scs_41_3, sca_42, sca_43, sca_44, scs_45_0, scs_45_1, scs_45_2, scs_45_3, sca_46, sca_47, sca_48, scs_49_0, scs_49_1, scs_49_2, scs_49_3, sca_50, sca_51, sca_52, scs_53_0, scs_53_1, scs_53_2, scs_53_3, sca_54, sca_55, sca_56, scs_57_0, scs_57_1, scs_57_2, scs_57_3, sca_58, sca_59, sca_60, scs_61_0, scs_61_1, scs_61_2, scs_61_3, sca_62, sca_63, sca_64, scs_65_0, scs_65_1, scs_65_2, scs_65_3, sca_66, sca_67, sca_68, scs_69_0, scs_69_1, scs_69_2, scs_69_3, sca_70, sca_71, sca_72, sc_st0, sc_st1, sc_st2, sc_sv0, sc_sv1, sc_sv2]
      exact ⟨by omega, by omega, fun _ => ⟨h1, h2⟩, fun z => absurd z (by omega)⟩
    | succ j ih =>
      intro w y u hw hu h1 h2
      subst hu
      have e0 := scF_0 (f := w) (by omega)
      obtain ⟨f1, f2⟩ := fr4 w (by omega)
      rw [sX8_forgetFires_2]
      simp only [sX8_forgetFires_0, sX8_forgetFires_1, sX8_forgetFires_3, sX8_forgetFires_4, sX8_forgetFires_7, sX8_forgetFires_8, sX8_forgetFires_11, sX8_forgetFires_12, sX8_forgetFires_13, sX8_forgetFires_14, sX8_forgetFires_17, sX8_forgetFires_20, sX8_forgetFires_23, onI_i, onR_r, onS_s, slotA_i, slotA_b, slotA_l, slotA_r, ptk_i, ptk_b, ptk_l, aldP_s, aldP_n, uc_s, uc_n, uc_uc, ua_s, ua_n, Nat.reduceEqDiff, not_false_eq_true, true_or, or_true, true_and, and_true, implies_true, Option.some.injEq, Sum.inl.injEq, Int.toNat_natCast, true_implies, not_true_eq_false, false_implies, Int.reduceEq, Int.reduceLT, Int.reduceLE, Int.reduceNeg, Int.reduceAdd, Int.reduceSub, Int.reduceMul, Int.reduceToNat, lg_0, lg_1, lz_0, lz_1, scs_0_0, scs_0_1, scs_0_2, scs_0_3, scs_0_4, scs_0_5, scs_0_6, scs_0_7, scs_0_8, scs_0_9, scs_1_0, scs_1_1, scs_1_2, scs_1_3, scs_1_4, scs_1_5, scs_1_6, scs_1_7, scs_1_8, scs_1_9, scs_1_10, scs_1_11, scs_1_12, scs_1_13, scs_1_14, scs_1_15, scs_1_16, scs_1_17, scs_1_18, scr_2, scr_3, scs_4_0, scs_4_1, scs_5_0, scs_5_1, scs_5_2, scs_5_3, scs_5_4, scs_6_0, scs_6_1, scs_6_2, scs_6_3, scs_7_0, scs_7_1, scs_7_2, scs_7_3, scs_8_0, scs_8_1, scs_8_2, sca_9, sca_10, sca_11, sca_12, sca_13, sca_14, sca_15, sca_16, sca_17, sca_18, sca_19, sca_20, sca_21, sca_22, sca_23, sca_24, sca_25, sca_26, sca_27, sca_28, sca_29, sca_30, sca_31, sca_32, sca_33, sca_34, sca_35, sca_36, scs_37_0, scs_37_1, scs_37_2, scs_37_3, sca_38, sca_39, sca_40, scs_41_0, scs_41_1, scs_41_2, scs_41_3, sca_42, sca_43, sca_44, scs_45_0, scs_45_1, scs_45_2, scs_45_3, sca_46, sca_47, sca_48, scs_49_0, scs_49_1, scs_49_2, scs_49_3, sca_50, sca_51, sca_52, scs_53_0, scs_53_1, scs_53_2, scs_53_3, sca_54, sca_55, sca_56, scs_57_0, scs_57_1, scs_57_2, scs_57_3, sca_58, sca_59, sca_60, scs_61_0, scs_61_1, scs_61_2, scs_61_3, sca_62, sca_63, sca_64, scs_65_0, scs_65_1, scs_65_2, scs_65_3, sca_66, sca_67, sca_68, scs_69_0, scs_69_1, scs_69_2, scs_69_3, sca_70, sca_71, sca_72, sc_st0, sc_st1, sc_st2, sc_sv0, sc_sv1, sc_sv2, f1, e0]
      refine ⟨by omega, by omega, fun z => absurd z (by omega), fun _ => ⟨by simp; omega, ?_⟩⟩
      refine ih (w + 1) _ _ (by omega) rfl (fun f hf => ?_) (fun k hk => ?_)
      · by_cases e : f = w
        · subst e; rw [uc_s, ua_s]
        · rw [uc_n (by omega)]; exact h1 f (by omega)
      · rw [uc_n (hk w (by omega))]; exact h2 k hk
  refine Ok_of SC_ok (by decide +kernel) rfl (Nat.le_of_ble_eq_true rfl) ?_
  show SG SC mX8_forgetFires _ 0 [ar 0, au] [] _
  simp only [sX8_forgetFires_0, sX8_forgetFires_1, sX8_forgetFires_3, sX8_forgetFires_4, sX8_forgetFires_7, sX8_forgetFires_8, sX8_forgetFires_11, sX8_forgetFires_12, sX8_forgetFires_13, sX8_forgetFires_14, sX8_forgetFires_17, sX8_forgetFires_20, sX8_forgetFires_23, onI_i, onR_r, onS_s, slotA_i, slotA_b, slotA_l, slotA_r, ptk_i, ptk_b, ptk_l, aldP_s, aldP_n, uc_s, uc_n, uc_uc, ua_s, ua_n, Nat.reduceEqDiff, not_false_eq_true, true_or, or_true, true_and, and_true, implies_true, Option.some.injEq, Sum.inl.injEq, Int.toNat_natCast, true_implies, not_true_eq_false, false_implies, Int.reduceEq, Int.reduceLT, Int.reduceLE, Int.reduceNeg, Int.reduceAdd, Int.reduceSub, Int.reduceMul, Int.reduceToNat, lg_0, lg_1, lz_0, lz_1, scs_0_0, scs_0_1, scs_0_2, scs_0_3, scs_0_4, scs_0_5, scs_0_6, scs_0_7, scs_0_8, scs_0_9, scs_1_0, scs_1_1, scs_1_2, scs_1_3, scs_1_4, scs_1_5, scs_1_6, scs_1_7, scs_1_8, scs_1_9, scs_1_10, scs_1_11, scs_1_12, scs_1_13, scs_1_14, scs_1_15, scs_1_16, scs_1_17, scs_1_18, scr_2, scr_3, scs_4_0, scs_4_1, scs_5_0, scs_5_1, scs_5_2, scs_5_3, scs_5_4, scs_6_0, scs_6_1, scs_6_2, scs_6_3, scs_7_0, scs_7_1, scs_7_2, scs_7_3, scs_8_0, scs_8_1, scs_8_2, sca_9, sca_10, sca_11, sca_12, sca_13, sca_14, sca_15, sca_16, sca_17, sca_18, sca_19, sca_20, sca_21, sca_22, sca_23, sca_24, sca_25, sca_26, sca_27, sca_28, sca_29, sca_30, sca_31, sca_32, sca_33, sca_34, sca_35, sca_36, scs_37_0, scs_37_1, scs_37_2, scs_37_3, sca_38, sca_39, sca_40, scs_41_0, scs_41_1, scs_41_2, scs_41_3, sca_42, sca_43, sca_44, scs_45_0, scs_45_1, scs_45_2, scs_45_3, sca_46, sca_47, sca_48, scs_49_0, scs_49_1, scs_49_2, scs_49_3, sca_50, sca_51, sca_52, scs_53_0, scs_53_1, scs_53_2, scs_53_3, sca_54, sca_55, sca_56, scs_57_0, scs_57_1, scs_57_2, scs_57_3, sca_58, sca_59, sca_60, scs_61_0, scs_61_1, scs_61_2, scs_61_3, sca_62, sca_63, sca_64, scs_65_0, scs_65_1, scs_65_2, scs_65_3, sca_66, sca_67, sca_68, scs_69_0, scs_69_1, scs_69_2, scs_69_3, sca_70, sca_71, sca_72, sc_st0, sc_st1, sc_st2, sc_sv0, sc_sv1, sc_sv2]
  exact lp 4 0 x 0 rfl rfl (fun f hf => absurd hf (by omega)) (fun k _ => rfl)
/-- with no fire known, any state whose other cells agree -/
theorem Rel_n {x y g : AH} (hg : gi g) (hB : rB x g) (hC : rC x g) (h : nF x y) : RelC y g := by
  obtain ⟨h1, h2⟩ := h
  have lo : ∀ k, k < 53 → y k = x k := fun k hk => h2 k (fun f _ => by omega)
  have g2 := hg.2.2.1
  refine ⟨⟨rG_o (fun k hk _ => lo k hk) hB.1, rD_o (fun k hk _ => lo k hk) hB.2.1, fun v hv => rW1_o (fun k hk _ => lo k hk) (by omega) (hB.2.2.1 v hv), ?_⟩, fun c hc => ?_, fun f hf => ⟨Or.inl (h1 f hf), fun _ z => ?_⟩⟩
  · have := hB.2.2.2
    unfold rO at *
    simp only [lo 5 (by omega), lo 6 (by omega), lo 8 (by omega), lo 26 (by omega), lo 27 (by omega), lo 28 (by omega), lo 29 (by omega), lo 30 (by omega), lo 31 (by omega), lo 35 (by omega)]
    exact this
  · rw [lo 14 (by omega)]; exact hC c hc
  · rw [h1 f hf] at z; omega
