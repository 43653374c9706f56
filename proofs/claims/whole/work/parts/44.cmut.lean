/-! what the calls that tell leave -/
theorem wa_w {g h : AH} {f : Nat} {m : Int} : ∀ k, (∀ i, i < k → g 11 (8 * f + i) = h 11 (8 * f + i) ∧ g 12 (8 * f + i) = h 12 (8 * f + i) ∧ g 13 (8 * f + i) = h 13 (8 * f + i)) → wa g f m k = wa h f m k
  | 0, _ => rfl
  | k + 1, e => by
    unfold wa
    obtain ⟨a, b, c⟩ := e k (by omega)
    rw [a, b, c, wa_w k (fun i hi => e i (by omega))]
theorem dct_w {g h : AH} (a : g 14 = h 14) (b : g 15 = h 15) (c m : Int) : ∀ k, dct g c m k = dct h c m k
  | 0 => rfl
  | k + 1 => by unfold dct; rw [a, b, dct_w a b c m k]
theorem dcn_w {g h : AH} (a : g 14 = h 14) (c : Int) : ∀ k, dcn g c k = dcn h c k
  | 0 => rfl
  | k + 1 => by unfold dcn; rw [a, dcn_w a c k]
theorem lsD_w {g h : AH} (a : g 14 = h 14) (c : Int) : ∀ k, lsD g c k = lsD h c k
  | 0 => rfl
  | k + 1 => by unfold lsD; rw [a, lsD_w a c k]
theorem fr_w {g h : AH} {f : Nat} (e0 : g 0 0 = h 0 0) (e1 : g 0 1 = h 0 1) (e3 : g 0 3 = h 0 3) (k1 : g 1 = h 1) (k2 : g 2 = h 2) (k3 : g 3 = h 3) (k4 : g 4 = h 4) (k5 : g 5 = h 5) (k14 : g 14 = h 14) (k15 : g 15 = h 15) (e10 : g 10 f = h 10 f) (ew : ∀ i, i < (g 10 f).toNat → g 11 (8 * f + i) = h 11 (8 * f + i) ∧ g 12 (8 * f + i) = h 12 (8 * f + i) ∧ g 13 (8 * f + i) = h 13 (8 * f + i)) (ct : Nat → Int) : fr g ct f = fr h ct f := by
  have n : nbF g = nbF h := by funext c d; unfold nbF; rw [e0, e1]
  have nn : nG g = nG h := by unfold nG; rw [e0, e1]
  have i : ini g = ini h := by unfold ini; rw [k4]
  have a : avF g ct f = avF h ct f := by
    funext c to d m
    unfold avF arv
    have s : spd g f c to d = spd h f c to d := by
      funext t
      unfold spd
      rw [wa_w _ ew, e10, k2]
    have w : wrk g to d m = wrk h to d m := by
      unfold wrk
      rw [dct_w k14 k15, e3, k1, k3]
    rw [s, w, k1, k5]
  unfold fr
  rw [n, nn, i, a]
theorem rD_g {x y g g2 : AH} (h : rD x g) (a1 : y 1 14 = x 1 14) (a2 : y 20 = x 20) (a3 : y 21 = x 21) (a4 : y 22 = x 22) (a5 : y 23 = x 23) (b0 : g2 0 3 = g 0 3) (b1 : g2 14 = g 14) (b2 : g2 15 = g 15) : rD y g2 := by
  obtain ⟨h1, h2, h3⟩ := h
  refine ⟨by rw [a1, b0]; exact h1, fun c hc => ?_, fun k hk => ?_⟩
  · rw [a2, a3, b0, dcn_w b1, lsD_w b1]; exact h2 c hc
  · rw [b0] at hk
    rw [a4, a5, b1, b2, lsD_w b1]; exact h3 k hk
theorem rW_g {x y g g2 : AH} (hg : gi g) (h : rW x g) (a : ∀ k, 37 ≤ k → k < 53 → y k = x k) (b0 : g2 0 2 = g 0 2) (b1 : g2 10 = g 10) (b2 : g2 11 = g 11) (b3 : g2 12 = g 12) (b4 : g2 13 = g 13) : rW y g2 := by
  intro w hw
  rw [b0] at hw
  have w4 := hg.2.2.1
  have := h w hw
  unfold rW1 at *
  rw [a _ (by omega) (by omega), a _ (by omega) (by omega), a _ (by omega) (by omega), a _ (by omega) (by omega), b1, b2, b3, b4]
  exact this
theorem rF_g {x y g g2 : AH} (h : rF x g) (a : ∀ k, 53 ≤ k → k < 69 → y k = x k) (n : nG g2 = nG g) (fe : ∀ f : Nat, f < 4 → (f : Int) < g2 0 2 → (f : Int) < g 0 2 ∧ fr g2 (g2 6) f = fr g (g 6) f) : rF y g2 := by
  intro f hf
  obtain ⟨h1, h2⟩ := h f hf
  rw [a _ (by omega) (by omega)]
  refine ⟨h1, fun z1 z2 => ?_⟩
  obtain ⟨f1, f2⟩ := fe f hf z1
  have := h2 f1 z2
  unfold rF1 at *
  rw [n, f2, a _ (by omega) (by omega), a _ (by omega) (by omega)]
  exact this
/-- ranges, when only what is told of cells changes -/
theorem gi_g2 {g g2 : AH} (hg : gi g) (e : ∀ k, (k = 0 ∨ 10 ≤ k) → k < 23 → g2 k = g k) (h : ∀ c, c < 64 → (0 ≤ g2 1 c ∧ g2 1 c ≤ 4) ∧ (0 ≤ g2 2 c ∧ g2 2 c ≤ 9) ∧ (0 ≤ g2 3 c ∧ g2 3 c ≤ 99) ∧ (-1 ≤ g2 4 c ∧ g2 4 c ≤ 5000) ∧ (-1 ≤ g2 5 c ∧ g2 5 c ≤ 5000) ∧ ((0 ≤ g2 6 c ∧ g2 6 c ≤ 5000) ∨ g2 6 c = 1000000) ∧ (g2 7 c = 0 ∨ g2 7 c = 1) ∧ (g2 8 c = 0 ∨ g2 8 c = 1) ∧ (g2 9 c = 0 ∨ g2 9 c = 1)) : gi g2 := by
  unfold gi at *
  simp only [e 0 (by omega) (by omega), e 10 (by omega) (by omega), e 11 (by omega) (by omega), e 12 (by omega) (by omega), e 13 (by omega) (by omega), e 14 (by omega) (by omega), e 15 (by omega) (by omega), e 16 (by omega) (by omega), e 17 (by omega) (by omega), e 18 (by omega) (by omega), e 19 (by omega) (by omega), e 20 (by omega) (by omega), e 21 (by omega) (by omega), e 22 (by omega) (by omega)]
  exact ⟨hg.1, h, hg.2.2⟩
theorem ua_c (p : Int → Prop) {f : Nat → Int} {c : Nat} {v : Int} (hv : p v) {q : Nat} (hf : p (f q)) : p (updA f c v q) := by
  by_cases e : q = c
  · subst e; rw [ua_s]; exact hv
  · rw [ua_n e]; exact hf
theorem gi_cell {g : AH} (hg : gi g) (c f e w : Int) : gi (n_cell g c f e w) := by
  unfold n_cell
  split
  next q =>
    refine gi_g2 hg (fun k hk _ => by rw [uc_n (by omega), uc_n (by omega), uc_n (by omega)]) (fun d hd => ?_)
    have := hg.2.1 d hd
    refine ⟨ua_c (fun z => 0 ≤ z ∧ z ≤ 4) q.2.1 this.1, ua_c (fun z => 0 ≤ z ∧ z ≤ 9) q.2.2.1 this.2.1, ua_c (fun z => 0 ≤ z ∧ z ≤ 99) q.2.2.2 this.2.2.1, this.2.2.2⟩
  next => exact hg
theorem gi_light {g : AH} (hg : gi g) (c m : Int) : gi (n_light g c m) := by
  unfold n_light
  split
  next q =>
    refine gi_g2 hg (fun k hk _ => by rw [uc_n (by omega)]) (fun d hd => ?_)
    have := hg.2.1 d hd
    have q2 := q.2.1
    refine ⟨this.1, this.2.1, this.2.2.1, ua_c (fun z => -1 ≤ z ∧ z ≤ 5000) (by omega) this.2.2.2.1, this.2.2.2.2⟩
  next => exact hg
theorem gi_not {g : AH} (hg : gi g) (c m : Int) : gi (n_not g c m) := by
  unfold n_not
  split
  next q =>
    refine gi_g2 hg (fun k hk _ => by rw [uc_n (by omega)]) (fun d hd => ?_)
    have := hg.2.1 d hd
    have q2 := q.2.1
    refine ⟨this.1, this.2.1, this.2.2.1, this.2.2.2.1, ua_c (fun z => -1 ≤ z ∧ z ≤ 5000) (by omega) this.2.2.2.2.1, this.2.2.2.2.2⟩
  next => exact hg
theorem gi_mark {g : AH} (hg : gi g) {k : Nat} (hk : k = 7 ∨ k = 8 ∨ k = 9) (c : Int) : gi (n_mark g k c) := by
  unfold n_mark
  split
  next q =>
    refine gi_g2 hg (fun k2 hk2 _ => by rw [uc_n (by omega)]) (fun d hd => ?_)
    have := hg.2.1 d hd
    rcases hk with rfl | rfl | rfl
    · exact ⟨this.1, this.2.1, this.2.2.1, this.2.2.2.1, this.2.2.2.2.1, this.2.2.2.2.2.1, ua_c (fun z => z = 0 ∨ z = 1) (Or.inr rfl) this.2.2.2.2.2.2.1, this.2.2.2.2.2.2.2⟩
    · exact ⟨this.1, this.2.1, this.2.2.1, this.2.2.2.1, this.2.2.2.2.1, this.2.2.2.2.2.1, this.2.2.2.2.2.2.1, ua_c (fun z => z = 0 ∨ z = 1) (Or.inr rfl) this.2.2.2.2.2.2.2.1, this.2.2.2.2.2.2.2.2⟩
    · exact ⟨this.1, this.2.1, this.2.2.1, this.2.2.2.1, this.2.2.2.2.1, this.2.2.2.2.2.1, this.2.2.2.2.2.2.1, this.2.2.2.2.2.2.2.1, ua_c (fun z => z = 0 ∨ z = 1) (Or.inr rfl) this.2.2.2.2.2.2.2.2⟩
  next => exact hg
theorem ua_2 {p q : Nat → Int} {c : Nat} {v w : Int} (hv : v = w) {d : Nat} (h : p d = q d) : updA p c v d = updA q c w d := by
  by_cases e : d = c
  · subst e; rw [ua_s, ua_s]; exact hv
  · rw [ua_n e, ua_n e]; exact h
theorem q_cell {x g : AH} (hg : gi g) (hR : RelC x g) {c f e w : Int} (hc : inR c) (hf : inR f) (he : inR e) (hw : inR w) : Ok SC mX8_cell [ar 0, ai c, ai f, ai e, ai w] x (fun r h2 => r = some (ai (b01 (cellQ g c f e w))) ∧ RelC h2 (n_cell g c f e w)) := by
  have hn := gi_n hg
  have hG := hR.1.1
  have gk := gi_cell hg c f e w
  have no : ¬ cellQ g c f e w → b01 (cellQ g c f e w) = 0 ∧ n_cell g c f e w = g := fun z => ⟨b01_f z, if_neg z⟩
  refine Ok_of SC_ok (by decide +kernel) rfl (Nat.le_of_ble_eq_true rfl) ?_
  show SG SC mX8_cell _ 0 [ar 0, ai c, ai f, ai e, ai w] [] _
  simp only [sX8_cell_0, sX8_cell_1, sX8_cell_4, sX8_cell_8, sX8_cell_11, sX8_cell_12, sX8_cell_13, sX8_cell_17, sX8_cell_20, sX8_cell_21, sX8_cell_22, sX8_cell_27, sX8_cell_30, sX8_cell_32, sX8_cell_33, sX8_cell_38, sX8_cell_41, sX8_cell_42, sX8_cell_43, sX8_cell_44, sX8_cell_47, sX8_cell_50, sX8_cell_51, sX8_cell_52, sX8_cell_53, sX8_cell_54, sX8_cell_57, sX8_cell_60, sX8_cell_61, sX8_cell_62, sX8_cell_63, sX8_cell_64, sX8_cell_67, sX8_cell_70, sX8_cell_71, sX8_cell_73, sX8_cell_74, sX8_cell_78, sX8_cell_79, onI_i, onR_r, onS_s, slotA_i, slotA_b, slotA_l, slotA_r, ptk_i, ptk_b, ptk_l, aldP_s, aldP_n, uc_s, uc_n, uc_uc, ua_s, ua_n, Nat.reduceEqDiff, not_false_eq_true, true_or, or_true, true_and, and_true, implies_true, Option.some.injEq, Sum.inl.injEq, Int.toNat_natCast, true_implies, not_true_eq_false, false_implies, Int.reduceEq, Int.reduceLT, Int.reduceLE, Int.reduceNeg, Int.reduceAdd, Int.reduceSub, Int.reduceMul, Int.reduceToNat, lg_0, lg_1, lg_2, lg_3, lg_4, lz_0, lz_1, lz_2, lz_3, lz_4, scs_0_0, scs_0_1, scs_0_2, scs_0_3, scs_0_4, scs_0_5, scs_0_6, scs_0_7, scs_0_8, scs_0_9, scs_1_0, scs_1_1, scs_1_2, scs_1_3, scs_1_4, scs_1_5, scs_1_6, scs_1_7, scs_1_8, scs_1_9, scs_1_10, scs_1_11, scs_1_12, scs_1_13, scs_1_14, scs_1_15, scs_1_16, scs_1_17, scs_1_18, scr_2, scr_3, scs_4_0, scs_4_1, scs_5_0, scs_5_1, scs_5_2, scs_5_3, scs_5_4, scs_6_0, scs_6_1, scs_6_2, scs_6_3, scs_7_0, scs_7_1, scs_7_2, scs_7_3, scs_8_0, scs_8_1, scs_8_2, sca_9, sca_10, sca_11, sca_12, sca_13, sca_14, sca_15, sca_16, sca_17, sca_18, sca_19, sca_20, sca_21, sca_22, sca_23, sca_24, sca_25, sca_26, sca_27, sca_28, sca_29, sca_30, sca_31, sca_32, sca_33, sca_34, sca_35, sca_36, scs_37_0, scs_37_1, scs_37_2, scs_37_3, sca_38, sca_39, sca_40, scs_41_0, scs_41_1, scs_41_2, scs_41_3, sca_42, sca_43, sca_44, scs_45_0, scs_45_1, scs_45_2, scs_45_3, sca_46, sca_47, sca_48, scs_49_0, scs_49_1, scs_49_2, scs_49_3, sca_50, sca_51, sca_52, scs_53_0, scs_53_1, scs_53_2, scs_53_3, sca_54, sca_55, sca_56, scs_57_0, scs_57_1, scs_57_2, scs_57_3, sca_58, sca_59, sca_60, scs_61_0, scs_61_1, scs_61_2, scs_61_3, sca_62, sca_63, sca_64, scs_65_0, scs_65_1, scs_65_2, scs_65_3, sca_66, sca_67, sca_68, scs_69_0, scs_69_1, scs_69_2, scs_69_3, sca_70, sca_71, sca_72, sc_st0, sc_st1, sc_st2, sc_sv0, sc_sv1, sc_sv2]
  by_cases c1 : cellP g c
  · refine vX8_cell_5 (Nat.le_of_ble_eq_true rfl) rfl (o_hT hg hG hc c1) ?_
    simp only [sX8_cell_0, sX8_cell_1, sX8_cell_4, sX8_cell_8, sX8_cell_11, sX8_cell_12, sX8_cell_13, sX8_cell_17, sX8_cell_20, sX8_cell_21, sX8_cell_22, sX8_cell_27, sX8_cell_30, sX8_cell_32, sX8_cell_33, sX8_cell_38, sX8_cell_41, sX8_cell_42, sX8_cell_43, sX8_cell_44, sX8_cell_47, sX8_cell_50, sX8_cell_51, sX8_cell_52, sX8_cell_53, sX8_cell_54, sX8_cell_57, sX8_cell_60, sX8_cell_61, sX8_cell_62, sX8_cell_63, sX8_cell_64, sX8_cell_67, sX8_cell_70, sX8_cell_71, sX8_cell_73, sX8_cell_74, sX8_cell_78, sX8_cell_79, onI_i, onR_r, onS_s, slotA_i, slotA_b, slotA_l, slotA_r, ptk_i, ptk_b, ptk_l, aldP_s, aldP_n, uc_s, uc_n, uc_uc, ua_s, ua_n, Nat.reduceEqDiff, not_false_eq_true, true_or, or_true, true_and, and_true, implies_true, Option.some.injEq, Sum.inl.injEq, Int.toNat_natCast, true_implies, not_true_eq_false, false_implies, Int.reduceEq, Int.reduceLT, Int.reduceLE, Int.reduceNeg, Int.reduceAdd, Int.reduceSub, Int.reduceMul, Int.reduceToNat, lg_0, lg_1, lg_2, lg_3, lg_4, lz_0, lz_1, lz_2, lz_3, lz_4, scs_0_0, scs_0_1, scs_0_2, scs_0_3, scs_0_4, scs_0_5, scs_0_6, scs_0_7, scs_0_8, scs_0_9, scs_1_0, scs_1_1, scs_1_2, scs_1_3, scs_1_4, scs_1_5, scs_1_6, scs_1_7, scs_1_8, scs_1_9, scs_1_10, scs_1_11, scs_1_12, scs_1_13, scs_1_14, scs_1_15, scs_1_16, scs_1_17, scs_1_18, scr_2, scr_3, scs_4_0, scs_4_1, scs_5_0, scs_5_1, scs_5_2, scs_5_3, scs_5_4, scs_6_0, scs_6_1, scs_6_2, scs_6_3, scs_7_0, scs_7_1, scs_7_2, scs_7_3, scs_8_0, scs_8_1, scs_8_2, sca_9, sca_10, sca_11, sca_12, sca_13, sca_14, sca_15, sca_16, sca_17, sca_18, sca_19, sca_20, sca_21, sca_22, sca_23, sca_24, sca_25, sca_26, sca_27, sca_28, sca_29, sca_30, sca_31, sca_32, sca_33, sca_34, sca_35, sca_36, scs_37_0, scs_37_1, scs_37_2, scs_37_3, sca_38, sca_39, sca_40, scs_41_0, scs_41_1, scs_41_2, scs_41_3, sca_42, sca_43, sca_44, scs_45_0, scs_45_1, scs_45_2, scs_45_3, sca_46, sca_47, sca_48, scs_49_0, scs_49_1, scs_49_2, scs_49_3, sca_50, sca_51, sca_52, scs_53_0, scs_53_1, scs_53_2, scs_53_3, sca_54, sca_55, sca_56, scs_57_0, scs_57_1, scs_57_2, scs_57_3, sca_58, sca_59, sca_60, scs_61_0, scs_61_1, scs_61_2, scs_61_3, sca_62, sca_63, sca_64, scs_65_0, scs_65_1, scs_65_2, scs_65_3, sca_66, sca_67, sca_68, scs_69_0, scs_69_1, scs_69_2, scs_69_3, sca_70, sca_71, sca_72, sc_st0, sc_st1, sc_st2, sc_sv0, sc_sv1, sc_sv2]
    refine ⟨by omega, ?_⟩
    by_cases c2 : 0 ≤ f ∧ f ≤ 4
    · refine vX8_cell_14 (Nat.le_of_ble_eq_true rfl) (o_wT hf (by omega) (by omega) c2) ?_
      simp only [sX8_cell_0, sX8_cell_1, sX8_cell_4, sX8_cell_8, sX8_cell_11, sX8_cell_12, sX8_cell_13, sX8_cell_17, sX8_cell_20, sX8_cell_21, sX8_cell_22, sX8_cell_27, sX8_cell_30, sX8_cell_32, sX8_cell_33, sX8_cell_38, sX8_cell_41, sX8_cell_42, sX8_cell_43, sX8_cell_44, sX8_cell_47, sX8_cell_50, sX8_cell_51, sX8_cell_52, sX8_cell_53, sX8_cell_54, sX8_cell_57, sX8_cell_60, sX8_cell_61, sX8_cell_62, sX8_cell_63, sX8_cell_64, sX8_cell_67, sX8_cell_70, sX8_cell_71, sX8_cell_73, sX8_cell_74, sX8_cell_78, sX8_cell_79, onI_i, onR_r, onS_s, slotA_i, slotA_b, slotA_l, slotA_r, ptk_i, ptk_b, ptk_l, aldP_s, aldP_n, uc_s, uc_n, uc_uc, ua_s, ua_n, Nat.reduceEqDiff, not_false_eq_true, true_or, or_true, true_and, and_true, implies_true, Option.some.injEq, Sum.inl.injEq, Int.toNat_natCast, true_implies, not_true_eq_false, false_implies, Int.reduceEq, Int.reduceLT, Int.reduceLE, Int.reduceNeg, Int.reduceAdd, Int.reduceSub, Int.reduceMul, Int.reduceToNat, lg_0, lg_1, lg_2, lg_3, lg_4, lz_0, lz_1, lz_2, lz_3, lz_4, scs_0_0, scs_0_1, scs_0_2, scs_0_3, scs_0_4, scs_0_5, scs_0_6, scs_0_7, scs_0_8, scs_0_9, scs_1_0, scs_1_1, scs_1_2, scs_1_3, scs_1_4, scs_1_5, scs_1_6, scs_1_7, scs_1_8, scs_1_9, scs_1_10, scs_1_11, scs_1_12, scs_1_13, scs_1_14, scs_1_15, scs_1_16, scs_1_17, scs_1_18, scr_2, scr_3, scs_4_0, scs_4_1, scs_5_0, scs_5_1, scs_5_2, scs_5_3, scs_5_4, scs_6_0, scs_6_1, scs_6_2, scs_6_3, scs_7_0, scs_7_1, scs_7_2, scs_7_3, scs_8_0, scs_8_1, scs_8_2, sca_9, sca_10, sca_11, sca_12, sca_13, sca_14, sca_15, sca_16, sca_17, sca_18, sca_19, sca_20, sca_21, sca_22, sca_23, sca_24, sca_25, sca_26, sca_27, sca_28, sca_29, sca_30, sca_31, sca_32, sca_33, sca_34, sca_35, sca_36, scs_37_0, scs_37_1, scs_37_2, scs_37_3, sca_38, sca_39, sca_40, scs_41_0, scs_41_1, scs_41_2, scs_41_3, sca_42, sca_43, sca_44, scs_45_0, scs_45_1, scs_45_2, scs_45_3, sca_46, sca_47, sca_48, scs_49_0, scs_49_1, scs_49_2, scs_49_3, sca_50, sca_51, sca_52, scs_53_0, scs_53_1, scs_53_2, scs_53_3, sca_54, sca_55, sca_56, scs_57_0, scs_57_1, scs_57_2, scs_57_3, sca_58, sca_59, sca_60, scs_61_0, scs_61_1, scs_61_2, scs_61_3, sca_62, sca_63, sca_64, scs_65_0, scs_65_1, scs_65_2, scs_65_3, sca_66, sca_67, sca_68, scs_69_0, scs_69_1, scs_69_2, scs_69_3, sca_70, sca_71, sca_72, sc_st0, sc_st1, sc_st2, sc_sv0, sc_sv1, sc_sv2]
      refine ⟨by omega, ?_⟩
      by_cases c3 : 0 ≤ e ∧ e ≤ 9
      · refine vX8_cell_24 (Nat.le_of_ble_eq_true rfl) (o_wT he (by omega) (by omega) c3) ?_
        simp only [sX8_cell_0, sX8_cell_1, sX8_cell_4, sX8_cell_8, sX8_cell_11, sX8_cell_12, sX8_cell_13, sX8_cell_17, sX8_cell_20, sX8_cell_21, sX8_cell_22, sX8_cell_27, sX8_cell_30, sX8_cell_32, sX8_cell_33, sX8_cell_38, sX8_cell_41, sX8_cell_42, sX8_cell_43, sX8_cell_44, sX8_cell_47, sX8_cell_50, sX8_cell_51, sX8_cell_52, sX8_cell_53, sX8_cell_54, sX8_cell_57, sX8_cell_60, sX8_cell_61, sX8_cell_62, sX8_cell_63, sX8_cell_64, sX8_cell_67, sX8_cell_70, sX8_cell_71, sX8_cell_73, sX8_cell_74, sX8_cell_78, sX8_cell_79, onI_i, onR_r, onS_s, slotA_i, slotA_b, slotA_l, slotA_r, ptk_i, ptk_b, ptk_l, aldP_s, aldP_n, uc_s, uc_n, uc_uc, ua_s, ua_n, Nat.reduceEqDiff, not_false_eq_true, true_or, or_true, true_and, and_true, implies_true, Option.some.injEq, Sum.inl.injEq, Int.toNat_natCast, true_implies, not_true_eq_false, false_implies, Int.reduceEq, Int.reduceLT, Int.reduceLE, Int.reduceNeg, Int.reduceAdd, Int.reduceSub, Int.reduceMul, Int.reduceToNat, lg_0, lg_1, lg_2, lg_3, lg_4, lz_0, lz_1, lz_2, lz_3, lz_4, scs_0_0, scs_0_1, scs_0_2, scs_0_3, scs_0_4, scs_0_5, scs_0_6, scs_0_7, scs_0_8, scs_0_9, scs_1_0, scs_1_1, scs_1_2, scs_1_3, scs_1_4, scs_1_5, scs_1_6, scs_1_7, scs_1_8, scs_1_9, scs_1_10, scs_1_11, scs_1_12, scs_1_13, scs_1_14, scs_1_15, scs_1_16, scs_1_17, scs_1_18, scr_2, scr_3, scs_4_0, scs_4_1, scs_5_0, scs_5_1, scs_5_2, scs_5_3, scs_5_4, scs_6_0, scs_6_1, scs_6_2, scs_6_3, scs_7_0, scs_7_1, scs_7_2, scs_7_3, scs_8_0, scs_8_1, scs_8_2, sca_9, sca_10, sca_11, sca_12, sca_13, sca_14, sca_15, sca_16, sca_17, sca_18, sca_19, sca_20, sca_21, sca_22, sca_23, sca_24, sca_25, sca_26, sca_27, sca_28, sca_29, sca_30, sca_31, sca_32, sca_33, sca_34, sca_35, sca_36, scs_37_0, scs_37_1, scs_37_2, scs_37_3, sca_38, sca_39, sca_40, scs_41_0, scs_41_1, scs_41_2, scs_41_3, sca_42, sca_43, sca_44, scs_45_0, scs_45_1, scs_45_2, scs_45_3, sca_46, sca_47, sca_48, scs_49_0, scs_49_1, scs_49_2, scs_49_3, sca_50, sca_51, sca_52, scs_53_0, scs_53_1, scs_53_2, scs_53_3, sca_54, sca_55, sca_56, scs_57_0, scs_57_1, scs_57_2, scs_57_3, sca_58, sca_59, sca_60, scs_61_0, scs_61_1, scs_61_2, scs_61_3, sca_62, sca_63, sca_64, scs_65_0, scs_65_1, scs_65_2, scs_65_3, sca_66, sca_67, sca_68, scs_69_0, scs_69_1, scs_69_2, scs_69_3, sca_70, sca_71, sca_72, sc_st0, sc_st1, sc_st2, sc_sv0, sc_sv1, sc_sv2]
        refine ⟨by omega, ?_⟩
        by_cases c4 : 0 ≤ w ∧ w ≤ 99
        · refine vX8_cell_35 (Nat.le_of_ble_eq_true rfl) (o_wT hw (by omega) (by omega) c4) ?_
          simp only [sX8_cell_0, sX8_cell_1, sX8_cell_4, sX8_cell_8, sX8_cell_11, sX8_cell_12, sX8_cell_13, sX8_cell_17, sX8_cell_20, sX8_cell_21, sX8_cell_22, sX8_cell_27, sX8_cell_30, sX8_cell_32, sX8_cell_33, sX8_cell_38, sX8_cell_41, sX8_cell_42, sX8_cell_43, sX8_cell_44, sX8_cell_47, sX8_cell_50, sX8_cell_51, sX8_cell_52, sX8_cell_53, sX8_cell_54, sX8_cell_57, sX8_cell_60, sX8_cell_61, sX8_cell_62, sX8_cell_63, sX8_cell_64, sX8_cell_67, sX8_cell_70, sX8_cell_71, sX8_cell_73, sX8_cell_74, sX8_cell_78, sX8_cell_79, onI_i, onR_r, onS_s, slotA_i, slotA_b, slotA_l, slotA_r, ptk_i, ptk_b, ptk_l, aldP_s, aldP_n, uc_s, uc_n, uc_uc, ua_s, ua_n, Nat.reduceEqDiff, not_false_eq_true, true_or, or_true, true_and, and_true, implies_true, Option.some.injEq, Sum.inl.injEq, Int.toNat_natCast, true_implies, not_true_eq_false, false_implies, Int.reduceEq, Int.reduceLT, Int.reduceLE, Int.reduceNeg, Int.reduceAdd, Int.reduceSub, Int.reduceMul, Int.reduceToNat, lg_0, lg_1, lg_2, lg_3, lg_4, lz_0, lz_1, lz_2, lz_3, lz_4, scs_0_0, scs_0_1, scs_0_2, scs_0_3, scs_0_4, scs_0_5, scs_0_6, scs_0_7, scs_0_8, scs_0_9, scs_1_0, scs_1_1, scs_1_2, scs_1_3, scs_1_4, scs_1_5, scs_1_6, scs_1_7, scs_1_8, scs_1_9, scs_1_10, scs_1_11, scs_1_12, scs_1_13, scs_1_14, scs_1_15, scs_1_16, scs_1_17, scs_1_18, scr_2, scr_3, scs_4_0, scs_4_1, scs_5_0, scs_5_1, scs_5_2, scs_5_3, scs_5_4, scs_6_0, scs_6_1, scs_6_2, scs_6_3, scs_7_0, scs_7_1, scs_7_2, scs_7_3, scs_8_0, scs_8_1, scs_8_2, sca_9, sca_10, sca_11, sca_12, sca_13, sca_14, sca_15, sca_16, sca_17, sca_18, sca_19, sca_20, sca_21, sca_22, sca_23, sca_24, sca_25, sca_26, sca_27, sca_28, sca_29, sca_30, sca_31, sca_32, sca_33, sca_34, sca_35, sca_36, scs_37_0, scs_37_1, scs_37_2, scs_37_3, sca_38, sca_39, sca_40, scs_41_0, scs_41_1, scs_41_2, scs_41_3, sca_42, sca_43, sca_44, scs_45_0, scs_45_1, scs_45_2, scs_45_3, sca_46, sca_47, sca_48, scs_49_0, scs_49_1, scs_49_2, scs_49_3, sca_50, sca_51, sca_52, scs_53_0, scs_53_1, scs_53_2, scs_53_3, sca_54, sca_55, sca_56, scs_57_0, scs_57_1, scs_57_2, scs_57_3, sca_58, sca_59, sca_60, scs_61_0, scs_61_1, scs_61_2, scs_61_3, sca_62, sca_63, sca_64, scs_65_0, scs_65_1, scs_65_2, scs_65_3, sca_66, sca_67, sca_68, scs_69_0, scs_69_1, scs_69_2, scs_69_3, sca_70, sca_71, sca_72, sc_st0, sc_st1, sc_st2, sc_sv0, sc_sv1, sc_sv2]
          refine ⟨by omega, by omega, by omega, by omega, ?_⟩
          have q : cellQ g c f e w := ⟨c1, c2, c3, c4⟩
          refine kX8_cell_75 (Nat.le_of_ble_eq_true rfl) rfl o_forget (fun r h' z => ?_)
          obtain ⟨rfl, z⟩ := z
          show SG SC mX8_cell _ 78 _ [] h'
          simp only [sX8_cell_0, sX8_cell_1, sX8_cell_4, sX8_cell_8, sX8_cell_11, sX8_cell_12, sX8_cell_13, sX8_cell_17, sX8_cell_20, sX8_cell_21, sX8_cell_22, sX8_cell_27, sX8_cell_30, sX8_cell_32, sX8_cell_33, sX8_cell_38, sX8_cell_41, sX8_cell_42, sX8_cell_43, sX8_cell_44, sX8_cell_47, sX8_cell_50, sX8_cell_51, sX8_cell_52, sX8_cell_53, sX8_cell_54, sX8_cell_57, sX8_cell_60, sX8_cell_61, sX8_cell_62, sX8_cell_63, sX8_cell_64, sX8_cell_67, sX8_cell_70, sX8_cell_71, sX8_cell_73, sX8_cell_74, sX8_cell_78, sX8_cell_79, onI_i, onR_r, onS_s, slotA_i, slotA_b, slotA_l, slotA_r, ptk_i, ptk_b, ptk_l, aldP_s, aldP_n, uc_s, uc_n, uc_uc, ua_s, ua_n, Nat.reduceEqDiff, not_false_eq_true, true_or, or_true, true_and, and_true, implies_true, Option.some.injEq, Sum.inl.injEq, Int.toNat_natCast, true_implies, not_true_eq_false, false_implies, Int.reduceEq, Int.reduceLT, Int.reduceLE, Int.reduceNeg, Int.reduceAdd, Int.reduceSub, Int.reduceMul, Int.reduceToNat, lg_0, lg_1, lg_2, lg_3, lg_4, lz_0, lz_1, lz_2, lz_3, lz_4, scs_0_0, scs_0_1, scs_0_2, scs_0_3, scs_0_4, scs_0_5, scs_0_6, scs_0_7, scs_0_8, scs_0_9, scs_1_0, scs_1_1, scs_1_2, scs_1_3, scs_1_4, scs_1_5, scs_1_6, scs_1_7, scs_1_8, scs_1_9, scs_1_10, scs_1_11, scs_1_12, scs_1_13, scs_1_14, scs_1_15, scs_1_16, scs_1_17, scs_1_18, scr_2, scr_3, scs_4_0, scs_4_1, scs_5_0, scs_5_1, scs_5_2, scs_5_3, scs_5_4, scs_6_0, scs_6_1, scs_6_2, scs_6_3, scs_7_0, scs_7_1, scs_7_2, scs_7_3, scs_8_0, scs_8_1, scs_8_2, sca_9, sca_10, sca_11, sca_12, sca_13, sca_14, sca_15, sca_16, sca_17, sca_18, sca_19, sca_20, sca_21, sca_22, sca_23, sca_24, sca_25, sca_26, sca_27, sca_28, sca_29, sca_30, sca_31, sca_32, sca_33, sca_34, sca_35, sca_36, scs_37_0, scs_37_1, scs_37_2, scs_37_3, sca_38, sca_39, sca_40, scs_41_0, scs_41_1, scs_41_2, scs_41_3, sca_42, sca_43, sca_44, scs_45_0, scs_45_1, scs_45_2, scs_45_3, sca_46, sca_47, sca_48, scs_49_0, scs_49_1, scs_49_2, scs_49_3, sca_50, sca_51, sca_52, scs_53_0, scs_53_1, scs_53_2, scs_53_3, sca_54, sca_55, sca_56, scs_57_0, scs_57_1, scs_57_2, scs_57_3, sca_58, sca_59, sca_60, scs_61_0, scs_61_1, scs_61_2, scs_61_3, sca_62, sca_63, sca_64, scs_65_0, scs_65_1, scs_65_2, scs_65_3, sca_66, sca_67, sca_68, scs_69_0, scs_69_1, scs_69_2, scs_69_3, sca_70, sca_71, sca_72, sc_st0, sc_st1, sc_st2, sc_sv0, sc_sv1, sc_sv2]
          rw [b01_t q]
          refine ⟨rfl, Rel_n gk ⟨?_, ?_, ?_, ?_⟩ ?_ z⟩
          · unfold n_cell
            rw [if_pos q]
            refine ⟨hG.1, hG.2.1, hG.2.2.1, hG.2.2.2.1, fun d hd => ?_, hG.2.2.2.2.2.1, hG.2.2.2.2.2.2⟩
            obtain ⟨x9, x10, x11, x12⟩ := hG.2.2.2.2.1 d hd
            exact ⟨ua_2 rfl x9, ua_2 rfl x10, ua_2 rfl x11, x12⟩
          · unfold n_cell
            rw [if_pos q]
            exact rD_g hR.1.2.1 rfl rfl rfl rfl rfl rfl rfl rfl
          · unfold n_cell
            rw [if_pos q]
            exact rW_g hg hR.1.2.2.1 (fun k _ _ => by rw [uc_n (by omega), uc_n (by omega), uc_n (by omega)]) rfl rfl rfl rfl rfl
          · unfold n_cell
            rw [if_pos q]
            exact hR.1.2.2.2
          · unfold n_cell
            rw [if_pos q]
            exact hR.2.1
        · refine vX8_cell_35 (Nat.le_of_ble_eq_true rfl) (o_wF hw (by omega) (by omega) c4) ?_
          simp only [sX8_cell_0, sX8_cell_1, sX8_cell_4, sX8_cell_8, sX8_cell_11, sX8_cell_12, sX8_cell_13, sX8_cell_17, sX8_cell_20, sX8_cell_21, sX8_cell_22, sX8_cell_27, sX8_cell_30, sX8_cell_32, sX8_cell_33, sX8_cell_38, sX8_cell_41, sX8_cell_42, sX8_cell_43, sX8_cell_44, sX8_cell_47, sX8_cell_50, sX8_cell_51, sX8_cell_52, sX8_cell_53, sX8_cell_54, sX8_cell_57, sX8_cell_60, sX8_cell_61, sX8_cell_62, sX8_cell_63, sX8_cell_64, sX8_cell_67, sX8_cell_70, sX8_cell_71, sX8_cell_73, sX8_cell_74, sX8_cell_78, sX8_cell_79, onI_i, onR_r, onS_s, slotA_i, slotA_b, slotA_l, slotA_r, ptk_i, ptk_b, ptk_l, aldP_s, aldP_n, uc_s, uc_n, uc_uc, ua_s, ua_n, Nat.reduceEqDiff, not_false_eq_true, true_or, or_true, true_and, and_true, implies_true, Option.some.injEq, Sum.inl.injEq, Int.toNat_natCast, true_implies, not_true_eq_false, false_implies, Int.reduceEq, Int.reduceLT, Int.reduceLE, Int.reduceNeg, Int.reduceAdd, Int.reduceSub, Int.reduceMul, Int.reduceToNat, lg_0, lg_1, lg_2, lg_3, lg_4, lz_0, lz_1, lz_2, lz_3, lz_4, scs_0_0, scs_0_1, scs_0_2, scs_0_3, scs_0_4, scs_0_5, scs_0_6, scs_0_7, scs_0_8, scs_0_9, scs_1_0, scs_1_1, scs_1_2, scs_1_3, scs_1_4, scs_1_5, scs_1_6, scs_1_7, scs_1_8, scs_1_9, scs_1_10, scs_1_11, scs_1_12, scs_1_13, scs_1_14, scs_1_15, scs_1_16, scs_1_17, scs_1_18, scr_2, scr_3, scs_4_0, scs_4_1, scs_5_0, scs_5_1, scs_5_2, scs_5_3, scs_5_4, scs_6_0, scs_6_1, scs_6_2, scs_6_3, scs_7_0, scs_7_1, scs_7_2, scs_7_3, scs_8_0, scs_8_1, scs_8_2, sca_9, sca_10, sca_11, sca_12, sca_13, sca_14, sca_15, sca_16, sca_17, sca_18, sca_19, sca_20, sca_21, sca_22, sca_23, sca_24, sca_25, sca_26, sca_27, sca_28, sca_29, sca_30, sca_31, sca_32, sca_33, sca_34, sca_35, sca_36, scs_37_0, scs_37_1, scs_37_2, scs_37_3, sca_38, sca_39, sca_40, scs_41_0, scs_41_1, scs_41_2, scs_41_3, sca_42, sca_43, sca_44, scs_45_0, scs_45_1, scs_45_2, scs_45_3, sca_46, sca_47, sca_48, scs_49_0, scs_49_1, scs_49_2, scs_49_3, sca_50, sca_51, sca_52, scs_53_0, scs_53_1, scs_53_2, scs_53_3, sca_54, sca_55, sca_56, scs_57_0, scs_57_1, scs_57_2, scs_57_3, sca_58, sca_59, sca_60, scs_61_0, scs_61_1, scs_61_2, scs_61_3, sca_62, sca_63, sca_64, scs_65_0, scs_65_1, scs_65_2, scs_65_3, sca_66, sca_67, sca_68, scs_69_0, scs_69_1, scs_69_2, scs_69_3, sca_70, sca_71, sca_72, sc_st0, sc_st1, sc_st2, sc_sv0, sc_sv1, sc_sv2]
          obtain ⟨n1, n2⟩ := no (fun z => c4 z.2.2.2)
          rw [n1, n2]; exact ⟨by omega, rfl, hR⟩
      · refine vX8_cell_24 (Nat.le_of_ble_eq_true rfl) (o_wF he (by omega) (by omega) c3) ?_
        simp only [sX8_cell_0, sX8_cell_1, sX8_cell_4, sX8_cell_8, sX8_cell_11, sX8_cell_12, sX8_cell_13, sX8_cell_17, sX8_cell_20, sX8_cell_21, sX8_cell_22, sX8_cell_27, sX8_cell_30, sX8_cell_32, sX8_cell_33, sX8_cell_38, sX8_cell_41, sX8_cell_42, sX8_cell_43, sX8_cell_44, sX8_cell_47, sX8_cell_50, sX8_cell_51, sX8_cell_52, sX8_cell_53, sX8_cell_54, sX8_cell_57, sX8_cell_60, sX8_cell_61, sX8_cell_62, sX8_cell_63, sX8_cell_64, sX8_cell_67, sX8_cell_70, sX8_cell_71, sX8_cell_73, sX8_cell_74, sX8_cell_78, sX8_cell_79, onI_i, onR_r, onS_s, slotA_i, slotA_b, slotA_l, slotA_r, ptk_i, ptk_b, ptk_l, aldP_s, aldP_n, uc_s, uc_n, uc_uc, ua_s, ua_n, Nat.reduceEqDiff, not_false_eq_true, true_or, or_true, true_and, and_true, implies_true, Option.some.injEq, Sum.inl.injEq, Int.toNat_natCast, true_implies, not_true_eq_false, false_implies, Int.reduceEq, Int.reduceLT, Int.reduceLE, Int.reduceNeg, Int.reduceAdd, Int.reduceSub, Int.reduceMul, Int.reduceToNat, lg_0, lg_1, lg_2, lg_3, lg_4, lz_0, lz_1, lz_2, lz_3, lz_4, scs_0_0, scs_0_1, scs_0_2, scs_0_3, scs_0_4, scs_0_5, scs_0_6, scs_0_7, scs_0_8, scs_0_9, scs_1_0, scs_1_1, scs_1_2, scs_1_3, scs_1_4, scs_1_5, scs_1_6, scs_1_7, scs_1_8, scs_1_9, scs_1_10, scs_1_11, scs_1_12, scs_1_13, scs_1_14, scs_1_15, scs_1_16, scs_1_17, scs_1_18, scr_2, scr_3, scs_4_0, scs_4_1, scs_5_0, scs_5_1, scs_5_2, scs_5_3, scs_5_4, scs_6_0, scs_6_1, scs_6_2, scs_6_3, scs_7_0, scs_7_1, scs_7_2, scs_7_3, scs_8_0, scs_8_1, scs_8_2, sca_9, sca_10, sca_11, sca_12, sca_13, sca_14, sca_15, sca_16, sca_17, sca_18, sca_19, sca_20, sca_21, sca_22, sca_23, sca_24, sca_25, sca_26, sca_27, sca_28, sca_29, sca_30, sca_31, sca_32, sca_33, sca_34, sca_35, sca_36, scs_37_0, scs_37_1, scs_37_2, scs_37_3, sca_38, sca_39, sca_40, scs_41_0, scs_41_1, scs_41_2, scs_41_3, sca_42, sca_43, sca_44, scs_45_0, scs_45_1, scs_45_2, scs_45_3, sca_46, sca_47, sca_48, scs_49_0, scs_49_1, scs_49_2, scs_49_3, sca_50, sca_51, sca_52, scs_53_0, scs_53_1, scs_53_2, scs_53_3, sca_54, sca_55, sca_56, scs_57_0, scs_57_1, scs_57_2, scs_57_3, sca_58, sca_59, sca_60, scs_61_0, scs_61_1, scs_61_2, scs_61_3, sca_62, sca_63, sca_64, scs_65_0, scs_65_1, scs_65_2, scs_65_3, sca_66, sca_67, sca_68, scs_69_0, scs_69_1, scs_69_2, scs_69_3, sca_70, sca_71, sca_72, sc_st0, sc_st1, sc_st2, sc_sv0, sc_sv1, sc_sv2]
        obtain ⟨n1, n2⟩ := no (fun z => c3 z.2.2.1)
        rw [n1, n2]; exact ⟨by omega, rfl, hR⟩
    · refine vX8_cell_14 (Nat.le_of_ble_eq_true rfl) (o_wF hf (by omega) (by omega) c2) ?_
      simp only [sX8_cell_0, sX8_cell_1, sX8_cell_4, sX8_cell_8, sX8_cell_11, sX8_cell_12, sX8_cell_13, sX8_cell_17, sX8_cell_20, sX8_cell_21, sX8_cell_22, sX8_cell_27, sX8_cell_30, sX8_cell_32, sX8_cell_33, sX8_cell_38, sX8_cell_41, sX8_cell_42, sX8_cell_43, sX8_cell_44, sX8_cell_47, sX8_cell_50, sX8_cell_51, sX8_cell_52, sX8_cell_53, sX8_cell_54, sX8_cell_57, sX8_cell_60, sX8_cell_61, sX8_cell_62, sX8_cell_63, sX8_cell_64, sX8_cell_67, sX8_cell_70, sX8_cell_71, sX8_cell_73, sX8_cell_74, sX8_cell_78, sX8_cell_79, onI_i, onR_r, onS_s, slotA_i, slotA_b, slotA_l, slotA_r, ptk_i, ptk_b, ptk_l, aldP_s, aldP_n, uc_s, uc_n, uc_uc, ua_s, ua_n, Nat.reduceEqDiff, not_false_eq_true, true_or, or_true, true_and, and_true, implies_true, Option.some.injEq, Sum.inl.injEq, Int.toNat_natCast, true_implies, not_true_eq_false, false_implies, Int.reduceEq, Int.reduceLT, Int.reduceLE, Int.reduceNeg, Int.reduceAdd, Int.reduceSub, Int.reduceMul, Int.reduceToNat, lg_0, lg_1, lg_2, lg_3, lg_4, lz_0, lz_1, lz_2, lz_3, lz_4, scs_0_0, scs_0_1, scs_0_2, scs_0_3, scs_0_4, scs_0_5, scs_0_6, scs_0_7, scs_0_8, scs_0_9, scs_1_0, scs_1_1, scs_1_2, scs_1_3, scs_1_4, scs_1_5, scs_1_6, scs_1_7, scs_1_8, scs_1_9, scs_1_10, scs_1_11, scs_1_12, scs_1_13, scs_1_14, scs_1_15, scs_1_16, scs_1_17, scs_1_18, scr_2, scr_3, scs_4_0, scs_4_1, scs_5_0, scs_5_1, scs_5_2, scs_5_3, scs_5_4, scs_6_0, scs_6_1, scs_6_2, scs_6_3, scs_7_0, scs_7_1, scs_7_2, scs_7_3, scs_8_0, scs_8_1, scs_8_2, sca_9, sca_10, sca_11, sca_12, sca_13, sca_14, sca_15, sca_16, sca_17, sca_18, sca_19, sca_20, sca_21, sca_22, sca_23, sca_24, sca_25, sca_26, sca_27, sca_28, sca_29, sca_30, sca_31, sca_32, sca_33, sca_34, sca_35, sca_36, scs_37_0, scs_37_1, scs_37_2, scs_37_3, sca_38, sca_39, sca_40, scs_41_0, scs_41_1, scs_41_2, scs_41_3, sca_42, sca_43, sca_44, scs_45_0, scs_45_1, scs_45_2, scs_45_3, sca_46, sca_47, sca_48, scs_49_0, scs_49_1, scs_49_2, scs_49_3, sca_50, sca_51, sca_52, scs_53_0, scs_53_1, scs_53_2, scs_53_3, sca_54, sca_55, sca_56, scs_57_0, scs_57_1, scs_57_2, scs_57_3, sca_58, sca_59, sca_60, scs_61_0, scs_61_1, scs_61_2, scs_61_3, sca_62, sca_63, sca_64, scs_65_0, scs_65_1, scs_65_2, scs_65_3, sca_66, sca_67, sca_68, scs_69_0, scs_69_1, scs_69_2, scs_69_3, sca_70, sca_71, sca_72, sc_st0, sc_st1, sc_st2, sc_sv0, sc_sv1, sc_sv2]
      obtain ⟨n1, n2⟩ := no (fun z => c2 z.2.1)
      rw [n1, n2]; exact ⟨by omega, rfl, hR⟩
  · refine vX8_cell_5 (Nat.le_of_ble_eq_true rfl) rfl (o_hF hg hG hc c1) ?_
    simp only [sX8_cell_0, sX8_cell_1, sX8_cell_4, sX8_cell_8, sX8_cell_11, sX8_cell_12, sX8_cell_13, sX8_cell_17, sX8_cell_20, sX8_cell_21, sX8_cell_22, sX8_cell_27, sX8_cell_30, sX8_cell_32, sX8_cell_33, sX8_cell_38, sX8_cell_41, sX8_cell_42, sX8_cell_43, sX8_cell_44, sX8_cell_47, sX8_cell_50, sX8_cell_51, sX8_cell_52, sX8_cell_53, sX8_cell_54, sX8_cell_57, sX8_cell_60, sX8_cell_61, sX8_cell_62, sX8_cell_63, sX8_cell_64, sX8_cell_67, sX8_cell_70, sX8_cell_71, sX8_cell_73, sX8_cell_74, sX8_cell_78, sX8_cell_79, onI_i, onR_r, onS_s, slotA_i, slotA_b, slotA_l, slotA_r, ptk_i, ptk_b, ptk_l, aldP_s, aldP_n, uc_s, uc_n, uc_uc, ua_s, ua_n, Nat.reduceEqDiff, not_false_eq_true, true_or, or_true, true_and, and_true, implies_true, Option.some.injEq, Sum.inl.injEq, Int.toNat_natCast, true_implies, not_true_eq_false, false_implies, Int.reduceEq, Int.reduceLT, Int.reduceLE, Int.reduceNeg, Int.reduceAdd, Int.reduceSub, Int.reduceMul, Int.reduceToNat, lg_0, lg_1, lg_2, lg_3, lg_4, lz_0, lz_1, lz_2, lz_3, lz_4, scs_0_0, scs_0_1, scs_0_2, scs_0_3, scs_0_4, scs_0_5, scs_0_6, scs_0_7, scs_0_8, scs_0_9, scs_1_0, scs_1_1, scs_1_2, scs_1_3, scs_1_4, scs_1_5, scs_1_6, scs_1_7, scs_1_8, scs_1_9, scs_1_10, scs_1_11, scs_1_12, scs_1_13, scs_1_14, scs_1_15, scs_1_16, scs_1_17, scs_1_18, scr_2, scr_3, scs_4_0, scs_4_1, scs_5_0, scs_5_1, scs_5_2, scs_5_3, scs_5_4, scs_6_0, scs_6_1, scs_6_2, scs_6_3, scs_7_0, scs_7_1, scs_7_2, scs_7_3, scs_8_0, scs_8_1, scs_8_2, sca_9, sca_10, sca_11, sca_12, sca_13, sca_14, sca_15, sca_16, sca_17, sca_18, sca_19, sca_20, sca_21, sca_22, sca_23, sca_24, sca_25, sca_26, sca_27, sca_28, sca_29, sca_30, sca_31, sca_32, sca_33, sca_34, sca_35, sca_36, scs_37_0, scs_37_1, scs_37_2, scs_37_3, sca_38, sca_39, sca_40, scs_41_0, scs_41_1, scs_41_2, scs_41_3, sca_42, sca_43, sca_44, scs_45_0, scs_45_1, scs_45_2, scs_45_3, sca_46, sca_47, sca_48, scs_49_0, scs_49_1, scs_49_2, scs_49_3, sca_50, sca_51, sca_52, scs_53_0, scs_53_1, scs_53_2, scs_53_3, sca_54, sca_55, sca_56, scs_57_0, scs_57_1, scs_57_2, scs_57_3, sca_58, sca_59, sca_60, scs_61_0, scs_61_1, scs_61_2, scs_61_3, sca_62, sca_63, sca_64, scs_65_0, scs_65_1, scs_65_2, scs_65_3, sca_66, sca_67, sca_68, scs_69_0, scs_69_1, scs_69_2, scs_69_3, sca_70, sca_71, sca_72, sc_st0, sc_st1, sc_st2, sc_sv0, sc_sv1, sc_sv2]
    obtain ⟨n1, n2⟩ := no (fun z => c1 z.1)
    rw [n1, n2]; exact ⟨by omega, rfl, hR⟩
