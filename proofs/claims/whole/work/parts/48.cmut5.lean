/-- another world, in plain numbers -/
def nV (g : AH) (w n : Nat) : AH := updC (updC (updC (updC (updC g 10 (updA (g 10) w n)) 11 (cpW (g 11) w n)) 12 (cpW (g 12) w n)) 13 (cpW (g 13) w n)) 0 (updA (g 0) 2 ((w : Int) + 1))
theorem nV_e {g : AH} {w n : Nat} (hw : g 0 2 = w) (hn : g 10 0 = n) (h : w < 4) : n_world g = nV g w n := by
  unfold n_world nV
  rw [if_neg (by omega), hw, hn, Int.toNat_natCast, Int.toNat_natCast]
theorem cpV_n {f : Nat → Int} {w n j : Nat} (h : ¬ (8 * w ≤ j ∧ j < 8 * w + n)) : cpW f w n j = f j := if_neg h
theorem cpV_s {f : Nat → Int} {w n k : Nat} (h : k < n) : cpW f w n (8 * w + k) = f k := by
  unfold cpW
  rw [if_pos (by omega), show 8 * w + k - 8 * w = k by omega]
theorem gi_nV {g : AH} (hg : gi g) {w n : Nat} (hw : g 0 2 = w) (hn : g 10 0 = n) (h : w < 4) : gi (nV g w n) := by
  have g2 := hg.2.2.1
  have r0 := hg.2.2.2.1 0 (by omega)
  refine ⟨hg.1, hg.2.1, ?_, fun v hv => ?_, fun v k hv hk => ?_, hg.2.2.2.2.2⟩
  · show 1 ≤ (w : Int) + 1 ∧ (w : Int) + 1 ≤ 4
    omega
  · show 0 ≤ updA (g 10) w n v ∧ updA (g 10) w n v ≤ 8
    by_cases e : v = w
    · subst e; rw [ua_s]; omega
    · rw [ua_n e]; exact hg.2.2.2.1 v hv
  · have hk2 : (k : Int) < updA (g 10) w n v := hk
    have r10 := hg.2.2.2.1 v hv
    show (0 ≤ cpW (g 11) w n (8 * v + k) ∧ cpW (g 11) w n (8 * v + k) ≤ 5000) ∧ (0 ≤ cpW (g 12) w n (8 * v + k) ∧ cpW (g 12) w n (8 * v + k) ≤ 7) ∧ (0 ≤ cpW (g 13) w n (8 * v + k) ∧ cpW (g 13) w n (8 * v + k) ≤ 9) ∧ ∀ j, j < k → cpW (g 11) w n (8 * v + j) < cpW (g 11) w n (8 * v + k)
    by_cases e : v = w
    · subst e
      rw [ua_s] at hk2
      have := hg.2.2.2.2.1 0 k (by omega) (by omega)
      simp only [Nat.mul_zero, Nat.zero_add] at this
      rw [cpV_s (by omega), cpV_s (by omega), cpV_s (by omega)]
      refine ⟨this.1, this.2.1, this.2.2.1, fun j hj => ?_⟩
      rw [cpV_s (by omega)]
      exact this.2.2.2 j hj
    · rw [ua_n e] at hk2
      rw [cpV_n (by omega), cpV_n (by omega), cpV_n (by omega)]
      have := hg.2.2.2.2.1 v k hv hk2
      refine ⟨this.1, this.2.1, this.2.2.1, fun j hj => ?_⟩
      rw [cpV_n (by omega)]
      exact this.2.2.2 j hj
theorem gi_world {g : AH} (hg : gi g) : gi (n_world g) := by
  have g2 := hg.2.2.1
  have r0 := hg.2.2.2.1 0 (by omega)
  by_cases h : g 0 2 = 4
  · unfold n_world; rw [if_pos h]; exact hg
  · obtain ⟨w, hw⟩ : ∃ z : Nat, g 0 2 = z := ⟨(g 0 2).toNat, by omega⟩
    obtain ⟨n, hn⟩ : ∃ z : Nat, g 10 0 = z := ⟨(g 10 0).toNat, by omega⟩
    rw [nV_e hw hn (by omega)]
    exact gi_nV hg hw hn (by omega)
def yV (x : AH) (w : Nat) : AH := updC (updC (updC (updC (updC (updC x (37 + 4 * w) (updA (x (37 + 4 * w)) 0 (x 37 0))) (38 + 4 * w) (cpyA (x 38) (x (38 + 4 * w)) 0 0 8)) (39 + 4 * w) (cpyA (x 39) (x (39 + 4 * w)) 0 0 8)) (40 + 4 * w) (cpyA (x 40) (x (40 + 4 * w)) 0 0 8)) (53 + 4 * w) (updA (x (53 + 4 * w)) 0 0)) 0 (updA (x 0) 9 ((w : Int) + 1))
theorem yV_o {x : AH} {w k : Nat} (h0 : ¬ k = 0) (h1 : ¬ k = 37 + 4 * w) (h2 : ¬ k = 38 + 4 * w) (h3 : ¬ k = 39 + 4 * w) (h4 : ¬ k = 40 + 4 * w) (h5 : ¬ k = 53 + 4 * w) : yV x w k = x k := by
  unfold yV
  rw [uc_n h0, uc_n h5, uc_n h4, uc_n h3, uc_n h2, uc_n h1]
theorem cpy_s {f h : Nat → Int} {k : Nat} (hk : k < 8) : cpyA f h 0 0 8 k = f k := by
  unfold cpyA
  rw [if_pos (by omega), show 0 + (k - 0) = k by omega]
theorem Rel_world {x g : AH} (hg : gi g) (hR : RelC x g) {w n : Nat} (hw : g 0 2 = w) (hn : g 10 0 = n) (h4 : w < 4) : RelC (yV x w) (nV g w n) := by
  have g2 := hg.2.2.1
  have r0 := hg.2.2.2.1 0 (by omega)
  have lo : ∀ k, ¬ k = 0 → k < 37 → yV x w k = x k := fun k h0 hk => yV_o h0 (by omega) (by omega) (by omega) (by omega) (by omega)
  have hG := hR.1.1
  have hO := hR.1.2.2.2
  refine ⟨⟨?_, rD_g hR.1.2.1 (by rw [lo 1 (by omega) (by omega)]) (lo 20 (by omega) (by omega)) (lo 21 (by omega) (by omega)) (lo 22 (by omega) (by omega)) (lo 23 (by omega) (by omega)) rfl rfl rfl, fun v hv => ?_, ?_⟩, fun c hc => ?_, fun q hq => ?_⟩
  · unfold rG
    rw [lo 1 (by omega) (by omega), lo 9 (by omega) (by omega), lo 10 (by omega) (by omega), lo 11 (by omega) (by omega), lo 12 (by omega) (by omega), lo 13 (by omega) (by omega), lo 15 (by omega) (by omega), lo 16 (by omega) (by omega), lo 17 (by omega) (by omega), lo 18 (by omega) (by omega), lo 19 (by omega) (by omega)]
    exact ⟨hG.1, hG.2.1, hG.2.2.1, rfl, hG.2.2.2.2.1, hG.2.2.2.2.2.1, hG.2.2.2.2.2.2⟩
  · have hv2 : (v : Int) < (w : Int) + 1 := hv
    by_cases e : v = w
    · subst e
      have h0 := hR.1.2.2.1 0 (by omega)
      unfold rW1 at *
      have y1 : yV x v (37 + 4 * v) = updA (x (37 + 4 * v)) 0 (x 37 0) := by
        unfold yV; rw [uc_n (by omega), uc_n (by omega), uc_n (by omega), uc_n (by omega), uc_n (by omega), uc_s]
      have y2 : yV x v (38 + 4 * v) = cpyA (x 38) (x (38 + 4 * v)) 0 0 8 := by
        unfold yV; rw [uc_n (by omega), uc_n (by omega), uc_n (by omega), uc_n (by omega), uc_s]
      have y3 : yV x v (39 + 4 * v) = cpyA (x 39) (x (39 + 4 * v)) 0 0 8 := by
        unfold yV; rw [uc_n (by omega), uc_n (by omega), uc_n (by omega), uc_s]
      have y4 : yV x v (40 + 4 * v) = cpyA (x 40) (x (40 + 4 * v)) 0 0 8 := by
        unfold yV; rw [uc_n (by omega), uc_n (by omega), uc_s]
      rw [y1, y2, y3, y4, ua_s]
      show x 37 0 = updA (g 10) v n v ∧ ∀ k : Nat, (k : Int) < updA (g 10) v n v → cpyA (x 38) (x (38 + 4 * v)) 0 0 8 k = cpW (g 11) v n (8 * v + k) ∧ cpyA (x 39) (x (39 + 4 * v)) 0 0 8 k = cpW (g 12) v n (8 * v + k) ∧ cpyA (x 40) (x (40 + 4 * v)) 0 0 8 k = cpW (g 13) v n (8 * v + k)
      rw [ua_s]
      have z1 : x 37 0 = g 10 0 := h0.1
      refine ⟨by omega, fun k hk => ?_⟩
      rw [cpy_s (by omega), cpy_s (by omega), cpy_s (by omega), cpV_s (by omega), cpV_s (by omega), cpV_s (by omega)]
      have z2 := h0.2 k (by omega)
      simp only [Nat.mul_zero, Nat.zero_add, Nat.add_zero] at z2
      exact z2
    · have v4 : v < 4 := by omega
      have h := hR.1.2.2.1 v (by omega)
      have r10 := hg.2.2.2.1 v v4
      unfold rW1 at *
      rw [yV_o (by omega) (by omega) (by omega) (by omega) (by omega) (by omega), yV_o (by omega) (by omega) (by omega) (by omega) (by omega) (by omega), yV_o (by omega) (by omega) (by omega) (by omega) (by omega) (by omega), yV_o (by omega) (by omega) (by omega) (by omega) (by omega) (by omega)]
      show x (37 + 4 * v) 0 = updA (g 10) w n v ∧ ∀ k : Nat, (k : Int) < updA (g 10) w n v → x (38 + 4 * v) k = cpW (g 11) w n (8 * v + k) ∧ x (39 + 4 * v) k = cpW (g 12) w n (8 * v + k) ∧ x (40 + 4 * v) k = cpW (g 13) w n (8 * v + k)
      rw [ua_n e]
      refine ⟨h.1, fun k hk => ?_⟩
      rw [cpV_n (by omega), cpV_n (by omega), cpV_n (by omega)]
      exact h.2 k hk
  · unfold rO
    rw [lo 5 (by omega) (by omega), lo 6 (by omega) (by omega), lo 8 (by omega) (by omega), lo 26 (by omega) (by omega), lo 27 (by omega) (by omega), lo 28 (by omega) (by omega), lo 29 (by omega) (by omega), lo 30 (by omega) (by omega), lo 31 (by omega) (by omega), lo 35 (by omega) (by omega)]
    exact hO
  · rw [lo 14 (by omega) (by omega)]; exact hR.2.1 c hc
  · by_cases e : q = w
    · subst e
      have y5 : yV x q (53 + 4 * q) 0 = 0 := by unfold yV; rw [uc_n (by omega), uc_s, ua_s]
      rw [y5]
      exact ⟨Or.inl rfl, fun _ z => absurd z (by omega)⟩
    · obtain ⟨h1, h2⟩ := hR.2.2 q hq
      rw [yV_o (by omega) (by omega) (by omega) (by omega) (by omega) (by omega)]
      refine ⟨h1, fun z1 z2 => ?_⟩
      have z3 : (q : Int) < (w : Int) + 1 := z1
      have h3 := h2 (by omega) z2
      have r10 := hg.2.2.2.1 q hq
      have e10 : nV g w n 10 q = g 10 q := by
        show updA (g 10) w n q = g 10 q
        exact ua_n e
      have fe : fr (nV g w n) (nV g w n 6) q = fr g (g 6) q := by
        refine fr_w (g := nV g w n) (h := g) (f := q) rfl rfl rfl rfl rfl rfl rfl rfl rfl rfl e10 (fun i hi => ?_) _
        rw [e10] at hi
        show cpW (g 11) w n (8 * q + i) = g 11 (8 * q + i) ∧ cpW (g 12) w n (8 * q + i) = g 12 (8 * q + i) ∧ cpW (g 13) w n (8 * q + i) = g 13 (8 * q + i)
        rw [cpV_n (by omega), cpV_n (by omega), cpV_n (by omega)]
        exact ⟨rfl, rfl, rfl⟩
      intro c hc
      rw [fe, yV_o (by omega) (by omega) (by omega) (by omega) (by omega) (by omega), yV_o (by omega) (by omega) (by omega) (by omega) (by omega) (by omega)]
      exact h3 c hc
theorem q_world {x g : AH} (hg : gi g) (hR : RelC x g) : Ok SC mX8_world [ar 0] x (fun r h2 => r = some (ai (a_world g)) ∧ RelC h2 (n_world g)) := by
  have g2 := hg.2.2.1
  have r0 := hg.2.2.2.1 0 (by omega)
  have x0 := hR.1.1.2.2.2.1
  obtain ⟨w, hw⟩ : ∃ z : Nat, g 0 2 = z := ⟨(g 0 2).toNat, by omega⟩
  obtain ⟨n, hn⟩ : ∃ z : Nat, g 10 0 = z := ⟨(g 10 0).toNat, by omega⟩
  rw [hw] at x0
  refine Ok_of SC_ok (by decide +kernel) rfl (Nat.le_of_ble_eq_true rfl) ?_
  show SG SC mX8_world _ 0 [ar 0, au] [] _
  by_cases h4 : w < 4
  · obtain ⟨f1, f2⟩ := fr4 w h4
    have e0 := scF_0 (f := w) (by omega)
    have z0 : ([37, 41, 45, 49] : List Nat).getD 0 0 = 37 := rfl
    simp only [sX8_world_0, sX8_world_1, sX8_world_4, sX8_world_5, sX8_world_8, sX8_world_9, sX8_world_10, sX8_world_11, sX8_world_14, sX8_world_15, sX8_world_16, sX8_world_19, sX8_world_20, sX8_world_21, sX8_world_22, sX8_world_25, sX8_world_26, sX8_world_30, sX8_world_31, sX8_world_34, sX8_world_35, sX8_world_36, sX8_world_37, sX8_world_40, sX8_world_41, sX8_world_42, sX8_world_43, sX8_world_44, sX8_world_47, sX8_world_48, onI_i, onR_r, onS_s, slotA_i, slotA_b, slotA_l, slotA_r, ptk_i, ptk_b, ptk_l, aldP_s, aldP_n, uc_s, uc_n, uc_uc, ua_s, ua_n, Nat.reduceEqDiff, not_false_eq_true, true_or, or_true, true_and, and_true, implies_true, Option.some.injEq, Sum.inl.injEq, Int.toNat_natCast, true_implies, not_true_eq_false, false_implies, Int.reduceEq, Int.reduceLT, Int.reduceLE, Int.reduceNeg, Int.reduceAdd, Int.reduceSub, Int.reduceMul, Int.reduceToNat, lg_0, lg_1, lz_0, lz_1, scs_0_0, scs_0_1, scs_0_2, scs_0_3, scs_0_4, scs_0_5, scs_0_6, scs_0_7, scs_0_8, scs_0_9, scs_1_0, scs_1_1, scs_1_2, scs_1_3, scs_1_4, scs_1_5, scs_1_6, scs_1_7, scs_1_8, scs_1_9, scs_1_10, scs_1_11, scs_1_12, scs_1_13, scs_1_14, scs_1_15, scs_1_16, scs_1_17, scs_1_18, scr_2, scr_3, scs_4_0, scs_4_1, scs_5_0, scs_5_1, scs_5_2, scs_5_3, scs_5_4, scs_6_0, scs_6_1, scs_6_2, scs_6_3, scs_7_0, scs_7_1, scs_7_2, scs_7_3, scs_8_0, scs_8_1, scs_8_2, sca_9, sca_10, sca_11, sca_12, sca_13, sca_14, sca_15, sca_16, sca_17, sca_18, sca_19, sca_20, sca_21, sca_22, sca_23, sca_24, sca_25, sca_26, sca_27, sca_28, sca_29, sca_30, sca_31, sca_32, sca_33, sca_34, sca_35, sca_36, scs_37_0, scs_37_1, scs_37_2, scs_37_3, sca_38, sca_39, sca_40, scs_41_0, scs_41_1, scs_41_2, scs_41_3, sca_42, sca_43, sca_44, scs_45_0, scs_45_1, scs_45_2, scs_45_3, sca_46, sca_47, sca_48, scs_49_0, scs_49_1, scs_49_2, scs_49_3, sca_50, sca_51, sca_52, scs_53_0, scs_53_1, scs_53_2, scs_53_3, sca_54, sca_55, sca_56, scs_57_0, scs_57_1, scs_57_2, scs_57_3, sca_58, sca_59, sca_60, scs_61_0, scs_61_1, scs_61_2, scs_61_3, sca_62, sca_63, sca_64, scs_65_0, scs_65_1, scs_65_2, scs_65_3, sca_66, sca_67, sca_68, scs_69_0, scs_69_1, scs_69_2, scs_69_3, sca_70, sca_71, sca_72, sc_st0, sc_st1, sc_st2, sc_sv0, sc_sv1, sc_sv2, x0, f1, f2, z0]
    refine ⟨by omega, by omega, fun _ => ⟨by simp; omega, by simp, ?_⟩, fun z => absurd z (by omega)⟩
    refine vX8_world_27 (Nat.le_of_ble_eq_true rfl) (scWo h4) (o_copyFrom h4 (by omega)) ?_
    have d1 : ¬ 53 + 4 * w = 37 + 4 * w := by omega
    have d2 : ¬ 53 + 4 * w = 38 + 4 * w := by omega
    have d3 : ¬ 53 + 4 * w = 39 + 4 * w := by omega
    have d4 : ¬ 53 + 4 * w = 40 + 4 * w := by omega
    have d5 : ¬ 0 = 37 + 4 * w := by omega
    have d6 : ¬ 0 = 38 + 4 * w := by omega
    have d7 : ¬ 0 = 39 + 4 * w := by omega
    have d8 : ¬ 0 = 40 + 4 * w := by omega
    have d9 : ¬ 0 = 53 + 4 * w := by omega
    simp only [sX8_world_0, sX8_world_1, sX8_world_4, sX8_world_5, sX8_world_8, sX8_world_9, sX8_world_10, sX8_world_11, sX8_world_14, sX8_world_15, sX8_world_16, sX8_world_19, sX8_world_20, sX8_world_21, sX8_world_22, sX8_world_25, sX8_world_26, sX8_world_30, sX8_world_31, sX8_world_34, sX8_world_35, sX8_world_36, sX8_world_37, sX8_world_40, sX8_world_41, sX8_world_42, sX8_world_43, sX8_world_44, sX8_world_47, sX8_world_48, onI_i, onR_r, onS_s, slotA_i, slotA_b, slotA_l, slotA_r, ptk_i, ptk_b, ptk_l, aldP_s, aldP_n, uc_s, uc_n, uc_uc, ua_s, ua_n, Nat.reduceEqDiff, not_false_eq_true, true_or, or_true, true_and, and_true, implies_true, Option.some.injEq, Sum.inl.injEq, Int.toNat_natCast, true_implies, not_true_eq_false, false_implies, Int.reduceEq, Int.reduceLT, Int.reduceLE, Int.reduceNeg, Int.reduceAdd, Int.reduceSub, Int.reduceMul, Int.reduceToNat, lg_0, lg_1, lz_0, lz_1, scs_0_0, scs_0_1, scs_0_2, scs_0_3, scs_0_4, scs_0_5, scs_0_6, scs_0_7, scs_0_8, scs_0_9, scs_1_0, scs_1_1, scs_1_2, scs_1_3, scs_1_4, scs_1_5, scs_1_6, scs_1_7, scs_1_8, scs_1_9, scs_1_10, scs_1_11, scs_1_12, scs_1_13, scs_1_14, scs_1_15, scs_1_16, scs_1_17, scs_1_18, scr_2, scr_3, scs_4_0, scs_4_1, scs_5_0, scs_5_1, scs_5_2, scs_5_3, scs_5_4, scs_6_0, scs_6_1, scs_6_2, scs_6_3, scs_7_0, scs_7_1, scs_7_2, scs_7_3, scs_8_0, scs_8_1, scs_8_2, sca_9, sca_10, sca_11, sca_12, sca_13, sca_14, sca_15, sca_16, sca_17, sca_18, sca_19, sca_20, sca_21, sca_22, sca_23, sca_24, sca_25, sca_26, sca_27, sca_28, sca_29, sca_30, sca_31, sca_32, sca_33, sca_34, sca_35, sca_36, scs_37_0, scs_37_1, scs_37_2, scs_37_3, sca_38, sca_39, sca_40, scs_41_0, scs_41_1, scs_41_2, scs_41_3, sca_42, sca_43, sca_44, scs_45_0, scs_45_1, scs_45_2, scs_45_3, sca_46, sca_47, sca_48, scs_49_0, scs_49_1, scs_49_2, scs_49_3, sca_50, sca_51, sca_52, scs_53_0, scs_53_1, scs_53_2, scs_53_3, sca_54, sca_55, sca_56, scs_57_0, scs_57_1, scs_57_2, scs_57_3, sca_58, sca_59, sca_60, scs_61_0, scs_61_1, scs_61_2, scs_61_3, sca_62, sca_63, sca_64, scs_65_0, scs_65_1, scs_65_2, scs_65_3, sca_66, sca_67, sca_68, scs_69_0, scs_69_1, scs_69_2, scs_69_3, sca_70, sca_71, sca_72, sc_st0, sc_st1, sc_st2, sc_sv0, sc_sv1, sc_sv2, f1, e0, d1, d2, d3, d4, d5, d6, d7, d8, d9]
    rw [nV_e hw hn h4]
    have aw : a_world g = w := by unfold a_world; rw [if_neg (by omega)]; exact hw
    rw [aw]
    exact ⟨by simp; omega, rfl, Rel_world hg hR hw hn h4⟩
  · simp only [sX8_world_0, sX8_world_1, sX8_world_4, sX8_world_5, sX8_world_8, sX8_world_9, sX8_world_10, sX8_world_11, sX8_world_14, sX8_world_15, sX8_world_16, sX8_world_19, sX8_world_20, sX8_world_21, sX8_world_22, sX8_world_25, sX8_world_26, sX8_world_30, sX8_world_31, sX8_world_34, sX8_world_35, sX8_world_36, sX8_world_37, sX8_world_40, sX8_world_41, sX8_world_42, sX8_world_43, sX8_world_44, sX8_world_47, sX8_world_48, onI_i, onR_r, onS_s, slotA_i, slotA_b, slotA_l, slotA_r, ptk_i, ptk_b, ptk_l, aldP_s, aldP_n, uc_s, uc_n, uc_uc, ua_s, ua_n, Nat.reduceEqDiff, not_false_eq_true, true_or, or_true, true_and, and_true, implies_true, Option.some.injEq, Sum.inl.injEq, Int.toNat_natCast, true_implies, not_true_eq_false, false_implies, Int.reduceEq, Int.reduceLT, Int.reduceLE, Int.reduceNeg, Int.reduceAdd, Int.reduceSub, Int.reduceMul, Int.reduceToNat, lg_0, lg_1, lz_0, lz_1, scs_0_0, scs_0_1, scs_0_2, scs_0_3, scs_0_4, scs_0_5, scs_0_6, scs_0_7, scs_0_8, scs_0_9, scs_1_0, scs_1_1, scs_1_2, scs_1_3, scs_1_4, scs_1_5, scs_1_6, scs_1_7, scs_1_8, scs_1_9, scs_1_10, scs_1_11, scs_1_12, scs_1_13, scs_1_14, scs_1_15, scs_1_16, scs_1_17, scs_1_18, scr_2, scr_3, scs_4_0, scs_4_1, scs_5_0, scs_5_1, scs_5_2, scs_5_3, scs_5_4, scs_6_0, scs_6_1, scs_6_2, scs_6_3, scs_7_0, scs_7_1, scs_7_2, scs_7_3, scs_8_0, scs_8_1, scs_8_2, sca_9, sca_10, sca_11, sca_12, sca_13, sca_14, sca_15, sca_16, sca_17, sca_18, sca_19, sca_20, sca_21, sca_22, sca_23, sca_24, sca_25, sca_26, sca_27, sca_28, sca_29, sca_30, sca_31, sca_32, sca_33, sca_34, sca_35, sca_36, scs_37_0, scs_37_1, scs_37_2, scs_37_3, sca_38, sca_39, sca_40, scs_41_0, scs_41_1, scs_41_2, scs_41_3, sca_42, sca_43, sca_44, scs_45_0, scs_45_1, scs_45_2, scs_45_3, sca_46, sca_47, sca_48, scs_49_0, scs_49_1, scs_49_2, scs_49_3, sca_50, sca_51, sca_52, scs_53_0, scs_53_1, scs_53_2, scs_53_3, sca_54, sca_55, sca_56, scs_57_0, scs_57_1, scs_57_2, scs_57_3, sca_58, sca_59, sca_60, scs_61_0, scs_61_1, scs_61_2, scs_61_3, sca_62, sca_63, sca_64, scs_65_0, scs_65_1, scs_65_2, scs_65_3, sca_66, sca_67, sca_68, scs_69_0, scs_69_1, scs_69_2, scs_69_3, sca_70, sca_71, sca_72, sc_st0, sc_st1, sc_st2, sc_sv0, sc_sv1, sc_sv2, x0]
    have aw : a_world g = -1 := by unfold a_world; rw [if_pos (by omega)]
    have nw : n_world g = g := by unfold n_world; rw [if_pos (by omega)]
    rw [aw, nw]
    exact ⟨by omega, by omega, fun z => absurd z (by omega), fun _ => ⟨rfl, hR⟩⟩
