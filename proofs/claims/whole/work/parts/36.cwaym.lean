/-! the class's measuring: a queue from the exits on -/
def DQ (g : AH) (tx qu : Nat → Int) (q i j : Nat) : Prop :=
  q ≤ cN (fun v => ¬ tx v = 1000000) (nG g) ∧
  (∀ p, p < q → ∃ v : Nat, v < nG g ∧ qu p = v ∧ ∃ k : Nat, tx v = k ∧ k ≤ p ∧ RLx g k v) ∧
  (∀ p r, p ≤ r → r < q → tx (qu p).toNat ≤ tx (qu r).toNat) ∧
  (i < q → ∀ p, p < q → tx (qu p).toNat ≤ tx (qu i).toNat + 1) ∧
  (∀ v : Nat, v < nG g → ¬ tx v = 1000000 → ∃ p, p < q ∧ qu p = v) ∧
  (∀ p, p < q → ∀ x, x < nG g → ((p < i ∧ ad2 (nbF g) (qu p).toNat x 4) ∨ (p = i ∧ ad2 (nbF g) (qu p).toNat x j)) → g 8 x = 1 → tx x ≤ tx (qu p).toNat + 1) ∧
  (∀ v, v < nG g → g 9 v = 1 → tx v = 0)
section
variable {g : AH} {tx qu : Nat → Int} {q i j : Nat}
theorem DQ_n (h : DQ g tx qu q i j) : q ≤ nG g := by
  have := h.1
  have := cN_le (fun v => ¬ tx v = 1000000) (nG g)
  omega
theorem DQ_q (h : DQ g tx qu q i j) {x : Nat} (hx : x < nG g) (h0 : tx x = 1000000) : q + 1 ≤ nG g := by
  have a := cN_lt (p := fun v => ¬ tx v = 1000000) (q := fun _ => True) (y := x) trivial (fun z => z h0) (nG g) hx (fun _ _ _ => trivial)
  have e := cN_le (fun _ => True) (nG g)
  have := h.1
  omega
theorem DQ_add (hn : nG g ≤ 64) (h : DQ g tx qu q i j) (hi : i < q) (hj : j < 4) {x y : Nat} (hx : x < nG g) (hy : qu i = y) (hnb : nbF g y (2 * j) = x) (hr : g 8 x = 1) (h0 : tx x = 1000000) : DQ g (updA tx x (tx y + 1)) (updA qu q x) (q + 1) i (j + 1) := by
  have qn := DQ_n h
  obtain ⟨a1, a2, a3, a4, a5, a6, a7⟩ := h
  have y1 : (qu i).toNat = y := by omega
  have nx : ∀ v, ¬ tx v = 1000000 → ¬ v = x := fun v hv e => hv (by rw [e]; exact h0)
  have q1 : ∀ p, p < q → updA qu q x p = qu p := fun p hp => ua_n (by omega)
  have q2 : ∀ p, p < q → updA tx x (tx y + 1) (qu p).toNat = tx (qu p).toNat := by
    intro p hp
    obtain ⟨v, v1, v2, k, v3, v4, _⟩ := a2 p hp
    rw [v2, Int.toNat_natCast]
    exact ua_n (nx v (by omega))
  have qi := q2 i hi
  have x0 : updA tx x (tx y + 1) x = tx y + 1 := ua_s
  have xq : updA qu q (x : Int) q = (x : Int) := ua_s
  have av : ad2 (nbF g) y x 4 := ⟨j, hj, hnb⟩
  have small : ∀ p, p < q → tx (qu p).toNat ≤ 64 ∧ 0 ≤ tx (qu p).toNat := by
    intro p hp
    obtain ⟨v, v1, v2, k, v3, v4, _⟩ := a2 p hp
    rw [v2, Int.toNat_natCast]
    omega
  have un : ∀ p, p < q → ((p < i ∧ ad2 (nbF g) (qu p).toNat x 4) ∨ (p = i ∧ ad2 (nbF g) (qu p).toNat x j)) → False := by
    intro p hp z
    have := a6 p hp x hx z hr
    have := small p hp
    omega
  have sy := small i hi
  rw [y1] at sy
  refine ⟨?_, fun p hp => ?_, fun p r h4 h5 => ?_, fun _ p hp => ?_, fun v hv h4 => ?_, fun p hp => ?_, fun v hv h9 => ?_⟩
  · have := cN_lt (p := fun v => ¬ tx v = 1000000) (q := fun v => ¬ updA tx x (tx y + 1) v = 1000000) (y := x) (by rw [x0]; omega) (fun z => z h0) (nG g) hx (fun v _ z => by rw [ua_n (nx v z)]; exact z)
    omega
  · by_cases e : p = q
    · subst e
      obtain ⟨v, v1, v2, k, v3, v4, v5⟩ := a2 i hi
      have e2 : v = y := by omega
      subst e2
      exact ⟨x, hx, xq, k + 1, by rw [x0]; omega, by omega, Or.inr ⟨hr, v, v1, v5, av⟩⟩
    · obtain ⟨v, v1, v2, k, v3, v4, v5⟩ := a2 p (by omega)
      have e3 : updA tx x (tx y + 1) v = tx v := ua_n (nx v (by omega))
      exact ⟨v, v1, by rw [q1 p (by omega)]; exact v2, k, by rw [e3]; exact v3, v4, v5⟩
  · by_cases e : r = q
    · subst e
      rw [xq, Int.toNat_natCast, x0]
      by_cases e2 : p = r
      · subst e2; rw [xq, Int.toNat_natCast, x0]; exact Int.le_refl _
      · rw [q1 p (by omega), q2 p (by omega), ← y1]
        exact a4 hi p (by omega)
    · rw [q1 p (by omega), q1 r (by omega), q2 p (by omega), q2 r (by omega)]
      exact a3 p r h4 (by omega)
  · rw [q1 i hi, qi]
    by_cases e : p = q
    · subst e; rw [xq, Int.toNat_natCast, x0, y1]; exact Int.le_refl _
    · rw [q1 p (by omega), q2 p (by omega)]
      exact a4 hi p (by omega)
  · by_cases e : v = x
    · subst e; exact ⟨q, by omega, xq⟩
    · rw [ua_n e] at h4
      obtain ⟨p, p1, p2⟩ := a5 v hv h4
      exact ⟨p, by omega, by rw [q1 p p1]; exact p2⟩
  · by_cases e : p = q
    · subst e
      exact fun x2 _ z => by rcases z with ⟨z, _⟩ | ⟨z, _⟩ <;> omega
    · have hp2 : p < q := by omega
      rw [q1 p hp2]
      intro x2 hx2 z z2
      rw [q2 p hp2]
      by_cases e2 : x2 = x
      · subst e2
        rw [x0]
        rcases z with z | ⟨z3, j2, z4, z5⟩
        · exact absurd (un p hp2 (Or.inl z)) id
        · by_cases e3 : j2 = j
          · subst e3; subst z3; rw [y1]; exact Int.le_refl _
          · exact absurd (un p hp2 (Or.inr ⟨z3, j2, by omega, z5⟩)) id
      · rw [ua_n e2]
        refine a6 p hp2 x2 hx2 ?_ z2
        rcases z with z | ⟨z3, j2, z4, z5⟩
        · exact Or.inl z
        · by_cases e3 : j2 = j
          · subst e3; subst z3; rw [y1, hnb] at z5; omega
          · exact Or.inr ⟨z3, j2, by omega, z5⟩
  · rw [ua_n (nx v (by have := a7 v hv h9; omega))]; exact a7 v hv h9
theorem DQ_skip (h : DQ g tx qu q i j) (hi : i < q) {y : Nat} (hy : qu i = y) (hs : ∀ x : Nat, x < nG g → nbF g y (2 * j) = x → ¬ tx x = 1000000 ∨ ¬ g 8 x = 1) : DQ g tx qu q i (j + 1) := by
  obtain ⟨a1, a2, a3, a4, a5, a6, a7⟩ := h
  have y1 : (qu i).toNat = y := by omega
  refine ⟨a1, a2, a3, a4, a5, fun p hp x hx z z2 => ?_, a7⟩
  rcases z with z | ⟨z3, j2, z4, z5⟩
  · exact a6 p hp x hx (Or.inl z) z2
  · by_cases e3 : j2 = j
    · subst e3; subst z3
      rw [y1] at z5 ⊢
      rcases hs x hx z5 with w | w
      · obtain ⟨p2, p3, p4⟩ := a5 x hx w
        have := a4 hi p2 p3
        rw [p4, Int.toNat_natCast, y1] at this
        exact this
      · exact absurd z2 w
    · exact a6 p hp x hx (Or.inr ⟨z3, j2, by omega, z5⟩) z2
theorem DQ_next (h : DQ g tx qu q i 4) (hi : i < q) : DQ g tx qu q (i + 1) 0 := by
  obtain ⟨a1, a2, a3, a4, a5, a6, a7⟩ := h
  refine ⟨a1, a2, a3, fun hq p hp => ?_, a5, fun p hp x hx z z2 => ?_, a7⟩
  · have := a4 hi p hp
    have := a3 i (i + 1) (by omega) hq
    omega
  · rcases z with ⟨z3, z4⟩ | ⟨z3, j2, z4, z5⟩
    · by_cases e : p = i
      · exact a6 p hp x hx (Or.inr ⟨e, z4⟩) z2
      · exact a6 p hp x hx (Or.inl ⟨by omega, z4⟩) z2
    · omega
theorem DQ_end (hn : nG g ≤ 64) (h : DQ g tx qu q i j) (hi : i = q) {v : Nat} (hv : v < nG g) : tx v = tG g v := by
  have qn := DQ_n h
  obtain ⟨a1, a2, a3, a4, a5, a6, a7⟩ := h
  have key : ∀ (k v : Nat), v < nG g → RLx g k v → ¬ tx v = 1000000 ∧ tx v ≤ k := by
    intro k
    induction k with
    | zero =>
      intro v hv h
      have := a7 v hv h
      omega
    | succ k ih =>
      intro v hv h
      rcases h with h | ⟨h1, y, y1, y2, y3⟩
      · have := ih v hv h
        exact ⟨this.1, by omega⟩
      · obtain ⟨i1, i2⟩ := ih y y1 y2
        obtain ⟨p, p1, p2⟩ := a5 y y1 i1
        have := a6 p p1 v hv (Or.inl ⟨by omega, by rw [p2, Int.toNat_natCast]; exact y3⟩) h1
        rw [p2, Int.toNat_natCast] at this
        obtain ⟨w, w1, w2, l, w3, w4, _⟩ := a2 p p1
        have e : w = y := by omega
        subst e
        exact ⟨by omega, by omega⟩
  by_cases q0 : tx v = 1000000
  · rcases tG_r (g := g) v with ⟨z, _⟩ | ⟨t, z1, z2, _⟩
    · rw [q0, z]
    · exact absurd q0 (key t v hv z2).1
  · obtain ⟨p, p1, p2⟩ := a5 v hv q0
    obtain ⟨w, w1, w2, k, w3, w4, w5⟩ := a2 p p1
    have e : w = v := by omega
    subst e
    rw [w3]
    refine (lst_eq (P := fun k => RLx g k w) w5 (fun l hl h => ?_)).symm
    have := (key l w hv h).2
    omega
end
def hM (x : AH) (tx qu : Nat → Int) : AH := updC (updC x 33 tx) 34 qu
theorem hM_33 {x : AH} {tx qu : Nat → Int} : hM x tx qu 33 = tx := rfl
theorem hM_34 {x : AH} {tx qu : Nat → Int} : hM x tx qu 34 = qu := rfl
theorem hM_o {x : AH} {tx qu : Nat → Int} {k : Nat} (h1 : ¬ k = 33) (h2 : ¬ k = 34) : hM x tx qu k = x k := by unfold hM; rw [uc_n h2, uc_n h1]
theorem hM_u33 {x : AH} {tx qu f : Nat → Int} : updC (hM x tx qu) 33 f = hM x f qu := by
  funext k
  by_cases e : k = 33
  · subst e; rw [uc_s]; rfl
  · rw [uc_n e]
    by_cases e2 : k = 34
    · subst e2; rfl
    · rw [hM_o e e2, hM_o e e2]
theorem hM_u34 {x : AH} {tx qu f : Nat → Int} : updC (hM x tx qu) 34 f = hM x tx f := by
  funext k
  by_cases e : k = 34
  · subst e; rw [uc_s]; rfl
  · rw [uc_n e]
    by_cases e2 : k = 33
    · subst e2; rfl
    · rw [hM_o e2 e, hM_o e2 e]
theorem hM_rf {x : AH} : hM x (x 33) (x 34) = x := by
  funext k
  by_cases e : k = 33
  · subst e; rfl
  · by_cases e2 : k = 34
    · subst e2; rfl
    · exact hM_o e e2
theorem o_queueR {x g : AH} (hg : gi g) (hG : rG x g) {tx qu : Nat → Int} (cr : ∀ v, v < nG g → inR (tx v)) {q i y : Nat} (hB : DQ g tx qu q i 0) (hi : i < q) (hy : qu i = y) (hyn : y < nG g) : Ok SC mX6_queueRoadsBeside [ar 7, ar 1, ai y, ai q] (hM x tx qu) (fun r h2 => ∃ (tx2 qu2 : Nat → Int) (q2 : Nat), r = some (ai q2) ∧ h2 = hM x tx2 qu2 ∧ DQ g tx2 qu2 q2 i 4 ∧ q ≤ q2 ∧ ∀ v, v < nG g → inR (tx2 v)) := by
  have hn := gi_n hg
  have o18 : ∀ cm qu, hM x cm qu 18 = x 18 := fun cm qu => hM_o (by omega) (by omega)
  have o16 : ∀ cm qu, hM x cm qu 16 = x 16 := fun cm qu => hM_o (by omega) (by omega)
  generalize hQ : (fun (r : Option AV) (h2 : AH) => ∃ (tx2 qu2 : Nat → Int) (q2 : Nat), r = some (ai q2) ∧ h2 = hM x tx2 qu2 ∧ DQ g tx2 qu2 q2 i 4 ∧ q ≤ q2 ∧ ∀ v, v < nG g → inR (tx2 v)) = Q
  have lp : ∀ (j d : Nat) (tx2 qu2 : Nat → Int) (q2 : Nat) (u : Int) (v6 : AV), d + j = 4 → u = 2 * (d : Int) → DQ g tx2 qu2 q2 i d → q ≤ q2 → qu2 i = y → (∀ v, v < nG g → inR (tx2 v)) → SG SC mX6_queueRoadsBeside Q 6 [ar 7, ar 1, ai y, ai q, ai q2, ai u, v6] [] (hM x tx2 qu2) := by
    intro j
    induction j with
    | zero =>
      intro d tx2 qu2 q2 u v6 hd hu B h1 h2 h4
      have e : d = 4 := by omega
      subst e; subst hu
      rw [sX6_queueRoadsBeside_6]
      simp only [sX6_queueRoadsBeside_0, sX6_queueRoadsBeside_1, sX6_queueRoadsBeside_3, sX6_queueRoadsBeside_4, sX6_queueRoadsBeside_8, sX6_queueRoadsBeside_10, sX6_queueRoadsBeside_13, sX6_queueRoadsBeside_14, sX6_queueRoadsBeside_17, sX6_queueRoadsBeside_18, sX6_queueRoadsBeside_20, sX6_queueRoadsBeside_21, sX6_queueRoadsBeside_23, sX6_queueRoadsBeside_24, sX6_queueRoadsBeside_25, sX6_queueRoadsBeside_27, sX6_queueRoadsBeside_29, sX6_queueRoadsBeside_30, sX6_queueRoadsBeside_33, sX6_queueRoadsBeside_34, sX6_queueRoadsBeside_37, sX6_queueRoadsBeside_39, sX6_queueRoadsBeside_40, sX6_queueRoadsBeside_43, sX6_queueRoadsBeside_44, sX6_queueRoadsBeside_47, sX6_queueRoadsBeside_49, sX6_queueRoadsBeside_50, sX6_queueRoadsBeside_52, sX6_queueRoadsBeside_55, sX6_queueRoadsBeside_57, sX6_queueRoadsBeside_59, sX6_queueRoadsBeside_62, sX6_queueRoadsBeside_63, sX6_queueRoadsBeside_66, sX6_queueRoadsBeside_68, sX6_queueRoadsBeside_69, sX6_queueRoadsBeside_72, sX6_queueRoadsBeside_73, sX6_queueRoadsBeside_74, sX6_queueRoadsBeside_75, sX6_queueRoadsBeside_76, sX6_queueRoadsBeside_77, sX6_queueRoadsBeside_78, sX6_queueRoadsBeside_81, sX6_queueRoadsBeside_83, sX6_queueRoadsBeside_85, sX6_queueRoadsBeside_86, sX6_queueRoadsBeside_89, sX6_queueRoadsBeside_92, sX6_queueRoadsBeside_95, sX6_queueRoadsBeside_97, onI_i, onR_r, onS_s, slotA_i, slotA_b, slotA_l, slotA_r, ptk_i, ptk_b, ptk_l, aldP_s, aldP_n, uc_s, uc_n, uc_uc, ua_s, ua_n, Nat.reduceEqDiff, not_false_eq_true, true_or, or_true, true_and, and_true, implies_true, Option.some.injEq, Sum.inl.injEq, Int.toNat_natCast, true_implies, not_true_eq_false, false_implies, Int.reduceEq, Int.reduceLT, Int.reduceLE, Int.reduceNeg, Int.reduceAdd, Int.reduceSub, Int.reduceMul, Int.reduceToNat, lg_0, lg_1, lg_2, lg_3, lg_4, lg_5, lg_6, lz_0, lz_1, lz_2, lz_3, lz_4, lz_5, lz_6, scs_0_0, scs_0_1, scs_0_2, scs_0_3, scs_0_4, scs_0_5, scs_0_6, scs_0_7, scs_0_8, scs_0_9, scs_1_0, scs_1_1, scs_1_2, scs_1_3, scs_1_4, scs_1_5, scs_1_6, scs_1_7, scs_1_8, scs_1_9, scs_1_10, scs_1_11, scs_1_12, scs_1_13, scs_1_14, scs_1_15, scs_1_16, scs_1_17, scs_1_18, scr_2, scr_3, scs_4_0, scs_4_1, scs_5_0, scs_5_1, scs_5_2, scs_5_3, scs_5_4, scs_6_0, scs_6_1, scs_6_2, scs_6_3, scs_7_0, scs_7_1, scs_7_2, scs_7_3, scs_8_0, scs_8_1, scs_8_2, sca_9, sca_10, sca_11, sca_12, sca_13, sca_14, sca_15, sca_16, sca_17, sca_18, sca_19, sca_20, sca_21, sca_22, sca_23, sca_24, sca_25, sca_26, sca_27, sca_28, sca_29, sca_30, sca_31, sca_32, sca_33, sca_34, sca_35, sca_36, scs_37_0, scs_37_1, scs_37_2, scs_37_3, sca_38, sca_39, sca_40, scs_41_0, scs_41_1, scs_41_2, scs_41_3, sca_42, sca_43, sca_44, scs_45_0, scs_45_1, scs_45_2, scs_45_3, sca_46, sca_47, sca_48, scs_49_0, scs_49_1, scs_49_2, scs_49_3, sca_50, sca_51, sca_52, scs_53_0, scs_53_1, scs_53_2, scs_53_3, sca_54, sca_55, sca_56, scs_57_0, scs_57_1, scs_57_2, scs_57_3, sca_58, sca_59, sca_60, scs_61_0, scs_61_1, scs_61_2, scs_61_3, sca_62, sca_63, sca_64, scs_65_0, scs_65_1, scs_65_2, scs_65_3, sca_66, sca_67, sca_68, scs_69_0, scs_69_1, scs_69_2, scs_69_3, sca_70, sca_71, sca_72, sc_st0, sc_st1, sc_st2, sc_sv0, sc_sv1, sc_sv2]
      refine ⟨by omega, by omega, fun _ => ?_, fun z => absurd z (by omega)⟩
      rw [← hQ]
      exact ⟨tx2, qu2, q2, rfl, rfl, B, h1, h4⟩
    | succ j ih =>
      intro d tx2 qu2 q2 u v6 hd hu B h1 h2 h4
      subst hu
      have x18 := hG.2.2.2.2.2.1 y (2 * d) hyn (by omega)
      have ei : ((y : Int) * 8 + 2 * (d : Int)).toNat = 8 * y + 2 * d := by omega
      have nr := nbF_r hg y (2 * d)
      have yb : 0 ≤ tx2 y ∧ tx2 y ≤ 64 := by
        obtain ⟨v, v1, v2, k, v3, v4, _⟩ := B.2.1 i (by omega)
        have := DQ_n B
        have e : v = y := by omega
        subst e; omega
      have skip : ∀ v6, (∀ z : Nat, z < nG g → nbF g y (2 * d) = z → ¬ tx2 z = 1000000 ∨ ¬ g 8 z = 1) → SG SC mX6_queueRoadsBeside Q 6 [ar 7, ar 1, ai y, ai q, ai q2, ai (2 * (d : Int) + 2), v6] [] (hM x tx2 qu2) := by
        intro v6 hs
        exact ih (d + 1) tx2 qu2 q2 _ _ (by omega) (by omega) (DQ_skip B (by omega) h2 hs) h1 h2 h4
      rw [sX6_queueRoadsBeside_6]
      simp only [sX6_queueRoadsBeside_0, sX6_queueRoadsBeside_1, sX6_queueRoadsBeside_3, sX6_queueRoadsBeside_4, sX6_queueRoadsBeside_8, sX6_queueRoadsBeside_10, sX6_queueRoadsBeside_13, sX6_queueRoadsBeside_14, sX6_queueRoadsBeside_17, sX6_queueRoadsBeside_18, sX6_queueRoadsBeside_20, sX6_queueRoadsBeside_21, sX6_queueRoadsBeside_23, sX6_queueRoadsBeside_24, sX6_queueRoadsBeside_25, sX6_queueRoadsBeside_27, sX6_queueRoadsBeside_29, sX6_queueRoadsBeside_30, sX6_queueRoadsBeside_33, sX6_queueRoadsBeside_34, sX6_queueRoadsBeside_37, sX6_queueRoadsBeside_39, sX6_queueRoadsBeside_40, sX6_queueRoadsBeside_43, sX6_queueRoadsBeside_44, sX6_queueRoadsBeside_47, sX6_queueRoadsBeside_49, sX6_queueRoadsBeside_50, sX6_queueRoadsBeside_52, sX6_queueRoadsBeside_55, sX6_queueRoadsBeside_57, sX6_queueRoadsBeside_59, sX6_queueRoadsBeside_62, sX6_queueRoadsBeside_63, sX6_queueRoadsBeside_66, sX6_queueRoadsBeside_68, sX6_queueRoadsBeside_69, sX6_queueRoadsBeside_72, sX6_queueRoadsBeside_73, sX6_queueRoadsBeside_74, sX6_queueRoadsBeside_75, sX6_queueRoadsBeside_76, sX6_queueRoadsBeside_77, sX6_queueRoadsBeside_78, sX6_queueRoadsBeside_81, sX6_queueRoadsBeside_83, sX6_queueRoadsBeside_85, sX6_queueRoadsBeside_86, sX6_queueRoadsBeside_89, sX6_queueRoadsBeside_92, sX6_queueRoadsBeside_95, sX6_queueRoadsBeside_97, onI_i, onR_r, onS_s, slotA_i, slotA_b, slotA_l, slotA_r, ptk_i, ptk_b, ptk_l, aldP_s, aldP_n, uc_s, uc_n, uc_uc, ua_s, ua_n, Nat.reduceEqDiff, not_false_eq_true, true_or, or_true, true_and, and_true, implies_true, Option.some.injEq, Sum.inl.injEq, Int.toNat_natCast, true_implies, not_true_eq_false, false_implies, Int.reduceEq, Int.reduceLT, Int.reduceLE, Int.reduceNeg, Int.reduceAdd, Int.reduceSub, Int.reduceMul, Int.reduceToNat, lg_0, lg_1, lg_2, lg_3, lg_4, lg_5, lg_6, lz_0, lz_1, lz_2, lz_3, lz_4, lz_5, lz_6, scs_0_0, scs_0_1, scs_0_2, scs_0_3, scs_0_4, scs_0_5, scs_0_6, scs_0_7, scs_0_8, scs_0_9, scs_1_0, scs_1_1, scs_1_2, scs_1_3, scs_1_4, scs_1_5, scs_1_6, scs_1_7, scs_1_8, scs_1_9, scs_1_10, scs_1_11, scs_1_12, scs_1_13, scs_1_14, scs_1_15, scs_1_16, scs_1_17, scs_1_18, scr_2, scr_3, scs_4_0, scs_4_1, scs_5_0, scs_5_1, scs_5_2, scs_5_3, scs_5_4, scs_6_0, scs_6_1, scs_6_2, scs_6_3, scs_7_0, scs_7_1, scs_7_2, scs_7_3, scs_8_0, scs_8_1, scs_8_2, sca_9, sca_10, sca_11, sca_12, sca_13, sca_14, sca_15, sca_16, sca_17, sca_18, sca_19, sca_20, sca_21, sca_22, sca_23, sca_24, sca_25, sca_26, sca_27, sca_28, sca_29, sca_30, sca_31, sca_32, sca_33, sca_34, sca_35, sca_36, scs_37_0, scs_37_1, scs_37_2, scs_37_3, sca_38, sca_39, sca_40, scs_41_0, scs_41_1, scs_41_2, scs_41_3, sca_42, sca_43, sca_44, scs_45_0, scs_45_1, scs_45_2, scs_45_3, sca_46, sca_47, sca_48, scs_49_0, scs_49_1, scs_49_2, scs_49_3, sca_50, sca_51, sca_52, scs_53_0, scs_53_1, scs_53_2, scs_53_3, sca_54, sca_55, sca_56, scs_57_0, scs_57_1, scs_57_2, scs_57_3, sca_58, sca_59, sca_60, scs_61_0, scs_61_1, scs_61_2, scs_61_3, sca_62, sca_63, sca_64, scs_65_0, scs_65_1, scs_65_2, scs_65_3, sca_66, sca_67, sca_68, scs_69_0, scs_69_1, scs_69_2, scs_69_3, sca_70, sca_71, sca_72, sc_st0, sc_st1, sc_st2, sc_sv0, sc_sv1, sc_sv2, o18, o16, ei, x18, hM_33, hM_34]
      refine ⟨by omega, by omega, fun z => absurd z (by omega), fun _ => ⟨by omega, by omega, by omega, fun z => skip _ (fun z2 _ h => by omega), fun z => ?_⟩⟩
      generalize hto : nbF g y (2 * d) = to at *
      obtain ⟨to, rfl⟩ : ∃ z : Nat, to = z := ⟨to.toNat, by omega⟩
      have ht : to < nG g := by omega
      rw [Int.toNat_natCast]
      have xt := (hG.2.2.2.2.1 to (by omega)).2.2.2.2.2.2.1
      have g8 := (hg.2.1 to (by omega)).2.2.2.2.2.2.2.1
      have ct := h4 to ht
      rw [xt]
      refine ⟨by omega, by omega, fun z2 => skip _ (fun z3 _ h => ?_), fun z2 => ⟨by omega, by omega, by omega, fun z3 => skip _ (fun z4 _ h => ?_), fun z3 => ?_⟩⟩
      · have e : z3 = to := by omega
        subst e; exact Or.inr (by omega)
      · have e : z4 = to := by omega
        subst e; exact Or.inl z3
      · have qn := DQ_q B ht (by omega)
        refine ⟨by omega, by omega, fun z => absurd z (by omega), fun _ => ⟨by omega, by omega, by omega, ?_⟩⟩
        rw [hM_u33, hM_u34]
        refine ih (d + 1) _ _ (q2 + 1) _ _ (by omega) (by omega) (DQ_add hn.2.1 B (by omega) (by omega) ht h2 hto (by omega) (by omega)) (by omega) (by rw [ua_n (by omega)]; exact h2) (fun v hv => ?_)
        by_cases e : v = to
        · subst e; rw [ua_s]; omega
        · rw [ua_n e]; exact h4 v hv
  refine Ok_of SC_ok (by decide +kernel) rfl (Nat.le_of_ble_eq_true rfl) ?_
  show SG SC mX6_queueRoadsBeside _ 0 [ar 7, ar 1, ai y, ai q, au, au, au] [] _
  simp only [sX6_queueRoadsBeside_0, sX6_queueRoadsBeside_1, sX6_queueRoadsBeside_3, sX6_queueRoadsBeside_4, sX6_queueRoadsBeside_8, sX6_queueRoadsBeside_10, sX6_queueRoadsBeside_13, sX6_queueRoadsBeside_14, sX6_queueRoadsBeside_17, sX6_queueRoadsBeside_18, sX6_queueRoadsBeside_20, sX6_queueRoadsBeside_21, sX6_queueRoadsBeside_23, sX6_queueRoadsBeside_24, sX6_queueRoadsBeside_25, sX6_queueRoadsBeside_27, sX6_queueRoadsBeside_29, sX6_queueRoadsBeside_30, sX6_queueRoadsBeside_33, sX6_queueRoadsBeside_34, sX6_queueRoadsBeside_37, sX6_queueRoadsBeside_39, sX6_queueRoadsBeside_40, sX6_queueRoadsBeside_43, sX6_queueRoadsBeside_44, sX6_queueRoadsBeside_47, sX6_queueRoadsBeside_49, sX6_queueRoadsBeside_50, sX6_queueRoadsBeside_52, sX6_queueRoadsBeside_55, sX6_queueRoadsBeside_57, sX6_queueRoadsBeside_59, sX6_queueRoadsBeside_62, sX6_queueRoadsBeside_63, sX6_queueRoadsBeside_66, sX6_queueRoadsBeside_68, sX6_queueRoadsBeside_69, sX6_queueRoadsBeside_72, sX6_queueRoadsBeside_73, sX6_queueRoadsBeside_74, sX6_queueRoadsBeside_75, sX6_queueRoadsBeside_76, sX6_queueRoadsBeside_77, sX6_queueRoadsBeside_78, sX6_queueRoadsBeside_81, sX6_queueRoadsBeside_83, sX6_queueRoadsBeside_85, sX6_queueRoadsBeside_86, sX6_queueRoadsBeside_89, sX6_queueRoadsBeside_92, sX6_queueRoadsBeside_95, sX6_queueRoadsBeside_97, onI_i, onR_r, onS_s, slotA_i, slotA_b, slotA_l, slotA_r, ptk_i, ptk_b, ptk_l, aldP_s, aldP_n, uc_s, uc_n, uc_uc, ua_s, ua_n, Nat.reduceEqDiff, not_false_eq_true, true_or, or_true, true_and, and_true, implies_true, Option.some.injEq, Sum.inl.injEq, Int.toNat_natCast, true_implies, not_true_eq_false, false_implies, Int.reduceEq, Int.reduceLT, Int.reduceLE, Int.reduceNeg, Int.reduceAdd, Int.reduceSub, Int.reduceMul, Int.reduceToNat, lg_0, lg_1, lg_2, lg_3, lg_4, lg_5, lg_6, lz_0, lz_1, lz_2, lz_3, lz_4, lz_5, lz_6, scs_0_0, scs_0_1, scs_0_2, scs_0_3, scs_0_4, scs_0_5, scs_0_6, scs_0_7, scs_0_8, scs_0_9, scs_1_0, scs_1_1, scs_1_2, scs_1_3, scs_1_4, scs_1_5, scs_1_6, scs_1_7, scs_1_8, scs_1_9, scs_1_10, scs_1_11, scs_1_12, scs_1_13, scs_1_14, scs_1_15, scs_1_16, scs_1_17, scs_1_18, scr_2, scr_3, scs_4_0, scs_4_1, scs_5_0, scs_5_1, scs_5_2, scs_5_3, scs_5_4, scs_6_0, scs_6_1, scs_6_2, scs_6_3, scs_7_0, scs_7_1, scs_7_2, scs_7_3, scs_8_0, scs_8_1, scs_8_2, sca_9, sca_10, sca_11, sca_12, sca_13, sca_14, sca_15, sca_16, sca_17, sca_18, sca_19, sca_20, sca_21, sca_22, sca_23, sca_24, sca_25, sca_26, sca_27, sca_28, sca_29, sca_30, sca_31, sca_32, sca_33, sca_34, sca_35, sca_36, scs_37_0, scs_37_1, scs_37_2, scs_37_3, sca_38, sca_39, sca_40, scs_41_0, scs_41_1, scs_41_2, scs_41_3, sca_42, sca_43, sca_44, scs_45_0, scs_45_1, scs_45_2, scs_45_3, sca_46, sca_47, sca_48, scs_49_0, scs_49_1, scs_49_2, scs_49_3, sca_50, sca_51, sca_52, scs_53_0, scs_53_1, scs_53_2, scs_53_3, sca_54, sca_55, sca_56, scs_57_0, scs_57_1, scs_57_2, scs_57_3, sca_58, sca_59, sca_60, scs_61_0, scs_61_1, scs_61_2, scs_61_3, sca_62, sca_63, sca_64, scs_65_0, scs_65_1, scs_65_2, scs_65_3, sca_66, sca_67, sca_68, scs_69_0, scs_69_1, scs_69_2, scs_69_3, sca_70, sca_71, sca_72, sc_st0, sc_st1, sc_st2, sc_sv0, sc_sv1, sc_sv2]
  exact lp 4 0 tx qu q 0 _ rfl rfl hB (Nat.le_refl q) hy cr
/-- while the exits are queued -/
def EQ (g : AH) (tx qu : Nat → Int) (q k : Nat) : Prop := q ≤ cN (fun v => g 9 v = 1) k ∧ (∀ v, v < nG g → tx v = if v < k ∧ g 9 v = 1 then 0 else 1000000) ∧ (∀ p, p < q → ∃ v : Nat, v < k ∧ qu p = v ∧ g 9 v = 1) ∧ ∀ v : Nat, v < k → g 9 v = 1 → ∃ p, p < q ∧ qu p = v
theorem EQ_DQ {g : AH} {tx qu : Nat → Int} {q : Nat} (h : EQ g tx qu q (nG g)) : DQ g tx qu q 0 0 := by
  obtain ⟨a1, a2, a3, a4⟩ := h
  have z : ∀ p, p < q → tx (qu p).toNat = 0 := by
    intro p hp
    obtain ⟨v, v1, v2, v3⟩ := a3 p hp
    rw [v2, Int.toNat_natCast, a2 v v1, if_pos ⟨v1, v3⟩]
  refine ⟨?_, fun p hp => ?_, fun p r h4 h5 => ?_, fun hq p hp => ?_, fun v hv h4 => ?_, fun p hp x hx w => ?_, fun v hv h9 => ?_⟩
  · refine Nat.le_trans a1 (cN_sub _ (fun v hv h => ?_))
    rw [a2 v hv, if_pos ⟨hv, h⟩]; omega
  · obtain ⟨v, v1, v2, v3⟩ := a3 p hp
    refine ⟨v, v1, v2, 0, ?_, by omega, v3⟩
    rw [a2 v v1, if_pos ⟨v1, v3⟩]; rfl
  · rw [z p (by omega), z r h5]; exact Int.le_refl _
  · rw [z p hp, z 0 hq]; omega
  · rw [a2 v hv] at h4
    by_cases e : v < nG g ∧ g 9 v = 1
    · exact a4 v hv e.2
    · rw [if_neg e] at h4; exact absurd rfl h4
  · rcases w with ⟨w, _⟩ | ⟨_, j, w, _⟩ <;> omega
  · rw [a2 v hv, if_pos ⟨hv, h9⟩]
set_option maxHeartbeats 1000000 in
theorem o_measure {x g : AH} (hg : gi g) (hG : rG x g) : Ok SC mX6_measure [ar 7, ar 1] x (fun r h2 => r = none ∧ ∃ tx qu : Nat → Int, h2 = hM x tx qu ∧ ∀ v, v < nG g → tx v = tG g v) := by
  have hn := gi_n hg
  have o1 : ∀ cm qu, hM x cm qu 1 = x 1 := fun cm qu => hM_o (by omega) (by omega)
  have o17 : ∀ cm qu, hM x cm qu 17 = x 17 := fun cm qu => hM_o (by omega) (by omega)
  have x2 : x 1 2 = nG g := by rw [hG.2.2.1]; exact hn.2.2
  generalize hQ : (fun (r : Option AV) (h2 : AH) => r = none ∧ ∃ tx qu : Nat → Int, h2 = hM x tx qu ∧ ∀ v, v < nG g → tx v = tG g v) = Q
  have l2 : ∀ (j i : Nat) (tx qu : Nat → Int) (q : Nat) (u : Int), i + j = nG g → u = i → i ≤ q → DQ g tx qu q i 0 → (∀ v, v < nG g → inR (tx v)) → SG SC mX6_measure Q 55 [ar 7, ar 1, ai q, ai u] [] (hM x tx qu) := by
    intro j
    have fin : ∀ (i : Nat) (tx qu : Nat → Int) (q : Nat), DQ g tx qu q i 0 → i = q → SG SC mX6_measure Q 85 [ar 7, ar 1, ai q, ai i] [] (hM x tx qu) := by
      intro i tx qu q B e
      simp only [sX6_measure_0, sX6_measure_1, sX6_measure_4, sX6_measure_9, sX6_measure_10, sX6_measure_11, sX6_measure_12, sX6_measure_13, sX6_measure_14, sX6_measure_15, sX6_measure_18, sX6_measure_21, sX6_measure_22, sX6_measure_25, sX6_measure_26, sX6_measure_27, sX6_measure_30, sX6_measure_31, sX6_measure_34, sX6_measure_35, sX6_measure_36, sX6_measure_37, sX6_measure_38, sX6_measure_41, sX6_measure_42, sX6_measure_43, sX6_measure_44, sX6_measure_47, sX6_measure_50, sX6_measure_53, sX6_measure_54, sX6_measure_56, sX6_measure_57, sX6_measure_60, sX6_measure_61, sX6_measure_63, sX6_measure_66, sX6_measure_67, sX6_measure_68, sX6_measure_69, sX6_measure_72, sX6_measure_73, sX6_measure_74, sX6_measure_78, sX6_measure_79, sX6_measure_82, sX6_measure_85, onI_i, onR_r, onS_s, slotA_i, slotA_b, slotA_l, slotA_r, ptk_i, ptk_b, ptk_l, aldP_s, aldP_n, uc_s, uc_n, uc_uc, ua_s, ua_n, Nat.reduceEqDiff, not_false_eq_true, true_or, or_true, true_and, and_true, implies_true, Option.some.injEq, Sum.inl.injEq, Int.toNat_natCast, true_implies, not_true_eq_false, false_implies, Int.reduceEq, Int.reduceLT, Int.reduceLE, Int.reduceNeg, Int.reduceAdd, Int.reduceSub, Int.reduceMul, Int.reduceToNat, lg_0, lg_1, lg_2, lg_3, lz_0, lz_1, lz_2, lz_3, scs_0_0, scs_0_1, scs_0_2, scs_0_3, scs_0_4, scs_0_5, scs_0_6, scs_0_7, scs_0_8, scs_0_9, scs_1_0, scs_1_1, scs_1_2, scs_1_3, scs_1_4, scs_1_5, scs_1_6, scs_1_7, scs_1_8, scs_1_9, scs_1_10, scs_1_11, scs_1_12, scs_1_13, scs_1_14, scs_1_15, scs_1_16, scs_1_17, scs_1_18, scr_2, scr_3, scs_4_0, scs_4_1, scs_5_0, scs_5_1, scs_5_2, scs_5_3, scs_5_4, scs_6_0, scs_6_1, scs_6_2, scs_6_3, scs_7_0, scs_7_1, scs_7_2, scs_7_3, scs_8_0, scs_8_1, scs_8_2, sca_9, sca_10, sca_11, sca_12, sca_13, sca_14, sca_15, sca_16, sca_17, sca_18, sca_19, sca_20, sca_21, sca_22, sca_23, sca_24, sca_25, sca_26, sca_27, sca_28, sca_29, sca_30, sca_31, sca_32, sca_33, sca_34, sca_35, sca_36, scs_37_0, scs_37_1, scs_37_2, scs_37_3, sca_38, sca_39, sca_40, scs_41_0, scs_41_1, scs_41_2, scs_41_3, sca_42, sca_43, sca_44, scs_45_0, scs_45_1, scs_45_2, scs_45_3, sca_46, sca_47, sca_48, scs_49_0, scs_49_1, scs_49_2, scs_49_3, sca_50, sca_51, sca_52, scs_53_0, scs_53_1, scs_53_2, scs_53_3, sca_54, sca_55, sca_56, scs_57_0, scs_57_1, scs_57_2, scs_57_3, sca_58, sca_59, sca_60, scs_61_0, scs_61_1, scs_61_2, scs_61_3, sca_62, sca_63, sca_64, scs_65_0, scs_65_1, scs_65_2, scs_65_3, sca_66, sca_67, sca_68, scs_69_0, scs_69_1, scs_69_2, scs_69_3, sca_70, sca_71, sca_72, sc_st0, sc_st1, sc_st2, sc_sv0, sc_sv1, sc_sv2]
      rw [← hQ]
      exact ⟨rfl, tx, qu, rfl, fun v hv => DQ_end hn.2.1 B e hv⟩
    induction j with
    | zero =>
      intro i tx qu q u hi hu hq B cr
      have q1 := DQ_n B
      subst hu
      rw [sX6_measure_55]
      simp only [sX6_measure_0, sX6_measure_1, sX6_measure_4, sX6_measure_9, sX6_measure_10, sX6_measure_11, sX6_measure_12, sX6_measure_13, sX6_measure_14, sX6_measure_15, sX6_measure_18, sX6_measure_21, sX6_measure_22, sX6_measure_25, sX6_measure_26, sX6_measure_27, sX6_measure_30, sX6_measure_31, sX6_measure_34, sX6_measure_35, sX6_measure_36, sX6_measure_37, sX6_measure_38, sX6_measure_41, sX6_measure_42, sX6_measure_43, sX6_measure_44, sX6_measure_47, sX6_measure_50, sX6_measure_53, sX6_measure_54, sX6_measure_56, sX6_measure_57, sX6_measure_60, sX6_measure_61, sX6_measure_63, sX6_measure_66, sX6_measure_67, sX6_measure_68, sX6_measure_69, sX6_measure_72, sX6_measure_73, sX6_measure_74, sX6_measure_78, sX6_measure_79, sX6_measure_82, onI_i, onR_r, onS_s, slotA_i, slotA_b, slotA_l, slotA_r, ptk_i, ptk_b, ptk_l, aldP_s, aldP_n, uc_s, uc_n, uc_uc, ua_s, ua_n, Nat.reduceEqDiff, not_false_eq_true, true_or, or_true, true_and, and_true, implies_true, Option.some.injEq, Sum.inl.injEq, Int.toNat_natCast, true_implies, not_true_eq_false, false_implies, Int.reduceEq, Int.reduceLT, Int.reduceLE, Int.reduceNeg, Int.reduceAdd, Int.reduceSub, Int.reduceMul, Int.reduceToNat, lg_0, lg_1, lg_2, lg_3, lz_0, lz_1, lz_2, lz_3, scs_0_0, scs_0_1, scs_0_2, scs_0_3, scs_0_4, scs_0_5, scs_0_6, scs_0_7, scs_0_8, scs_0_9, scs_1_0, scs_1_1, scs_1_2, scs_1_3, scs_1_4, scs_1_5, scs_1_6, scs_1_7, scs_1_8, scs_1_9, scs_1_10, scs_1_11, scs_1_12, scs_1_13, scs_1_14, scs_1_15, scs_1_16, scs_1_17, scs_1_18, scr_2, scr_3, scs_4_0, scs_4_1, scs_5_0, scs_5_1, scs_5_2, scs_5_3, scs_5_4, scs_6_0, scs_6_1, scs_6_2, scs_6_3, scs_7_0, scs_7_1, scs_7_2, scs_7_3, scs_8_0, scs_8_1, scs_8_2, sca_9, sca_10, sca_11, sca_12, sca_13, sca_14, sca_15, sca_16, sca_17, sca_18, sca_19, sca_20, sca_21, sca_22, sca_23, sca_24, sca_25, sca_26, sca_27, sca_28, sca_29, sca_30, sca_31, sca_32, sca_33, sca_34, sca_35, sca_36, scs_37_0, scs_37_1, scs_37_2, scs_37_3, sca_38, sca_39, sca_40, scs_41_0, scs_41_1, scs_41_2, scs_41_3, sca_42, sca_43, sca_44, scs_45_0, scs_45_1, scs_45_2, scs_45_3, sca_46, sca_47, sca_48, scs_49_0, scs_49_1, scs_49_2, scs_49_3, sca_50, sca_51, sca_52, scs_53_0, scs_53_1, scs_53_2, scs_53_3, sca_54, sca_55, sca_56, scs_57_0, scs_57_1, scs_57_2, scs_57_3, sca_58, sca_59, sca_60, scs_61_0, scs_61_1, scs_61_2, scs_61_3, sca_62, sca_63, sca_64, scs_65_0, scs_65_1, scs_65_2, scs_65_3, sca_66, sca_67, sca_68, scs_69_0, scs_69_1, scs_69_2, scs_69_3, sca_70, sca_71, sca_72, sc_st0, sc_st1, sc_st2, sc_sv0, sc_sv1, sc_sv2]
      exact ⟨by omega, by omega, fun _ => fin i tx qu q B (by omega), fun z => absurd z (by omega)⟩
    | succ j ih =>
      intro i tx qu q u hi hu hq B cr
      have q1 := DQ_n B
      subst hu
      rw [sX6_measure_55]
      by_cases hiq : i = q
      · simp only [sX6_measure_0, sX6_measure_1, sX6_measure_4, sX6_measure_9, sX6_measure_10, sX6_measure_11, sX6_measure_12, sX6_measure_13, sX6_measure_14, sX6_measure_15, sX6_measure_18, sX6_measure_21, sX6_measure_22, sX6_measure_25, sX6_measure_26, sX6_measure_27, sX6_measure_30, sX6_measure_31, sX6_measure_34, sX6_measure_35, sX6_measure_36, sX6_measure_37, sX6_measure_38, sX6_measure_41, sX6_measure_42, sX6_measure_43, sX6_measure_44, sX6_measure_47, sX6_measure_50, sX6_measure_53, sX6_measure_54, sX6_measure_56, sX6_measure_57, sX6_measure_61, sX6_measure_63, sX6_measure_66, sX6_measure_67, sX6_measure_68, sX6_measure_69, sX6_measure_72, sX6_measure_73, sX6_measure_74, sX6_measure_78, sX6_measure_79, sX6_measure_82, onI_i, onR_r, onS_s, slotA_i, slotA_b, slotA_l, slotA_r, ptk_i, ptk_b, ptk_l, aldP_s, aldP_n, uc_s, uc_n, uc_uc, ua_s, ua_n, Nat.reduceEqDiff, not_false_eq_true, true_or, or_true, true_and, and_true, implies_true, Option.some.injEq, Sum.inl.injEq, Int.toNat_natCast, true_implies, not_true_eq_false, false_implies, Int.reduceEq, Int.reduceLT, Int.reduceLE, Int.reduceNeg, Int.reduceAdd, Int.reduceSub, Int.reduceMul, Int.reduceToNat, lg_0, lg_1, lg_2, lg_3, lz_0, lz_1, lz_2, lz_3, scs_0_0, scs_0_1, scs_0_2, scs_0_3, scs_0_4, scs_0_5, scs_0_6, scs_0_7, scs_0_8, scs_0_9, scs_1_0, scs_1_1, scs_1_2, scs_1_3, scs_1_4, scs_1_5, scs_1_6, scs_1_7, scs_1_8, scs_1_9, scs_1_10, scs_1_11, scs_1_12, scs_1_13, scs_1_14, scs_1_15, scs_1_16, scs_1_17, scs_1_18, scr_2, scr_3, scs_4_0, scs_4_1, scs_5_0, scs_5_1, scs_5_2, scs_5_3, scs_5_4, scs_6_0, scs_6_1, scs_6_2, scs_6_3, scs_7_0, scs_7_1, scs_7_2, scs_7_3, scs_8_0, scs_8_1, scs_8_2, sca_9, sca_10, sca_11, sca_12, sca_13, sca_14, sca_15, sca_16, sca_17, sca_18, sca_19, sca_20, sca_21, sca_22, sca_23, sca_24, sca_25, sca_26, sca_27, sca_28, sca_29, sca_30, sca_31, sca_32, sca_33, sca_34, sca_35, sca_36, scs_37_0, scs_37_1, scs_37_2, scs_37_3, sca_38, sca_39, sca_40, scs_41_0, scs_41_1, scs_41_2, scs_41_3, sca_42, sca_43, sca_44, scs_45_0, scs_45_1, scs_45_2, scs_45_3, sca_46, sca_47, sca_48, scs_49_0, scs_49_1, scs_49_2, scs_49_3, sca_50, sca_51, sca_52, scs_53_0, scs_53_1, scs_53_2, scs_53_3, sca_54, sca_55, sca_56, scs_57_0, scs_57_1, scs_57_2, scs_57_3, sca_58, sca_59, sca_60, scs_61_0, scs_61_1, scs_61_2, scs_61_3, sca_62, sca_63, sca_64, scs_65_0, scs_65_1, scs_65_2, scs_65_3, sca_66, sca_67, sca_68, scs_69_0, scs_69_1, scs_69_2, scs_69_3, sca_70, sca_71, sca_72, sc_st0, sc_st1, sc_st2, sc_sv0, sc_sv1, sc_sv2]
        exact ⟨by omega, by omega, fun _ => fin i tx qu q B (by omega), fun z => absurd z (by omega)⟩
      · obtain ⟨y, y1, y2, y3⟩ := B.2.1 i (by omega)
        simp only [sX6_measure_0, sX6_measure_1, sX6_measure_4, sX6_measure_9, sX6_measure_10, sX6_measure_11, sX6_measure_12, sX6_measure_13, sX6_measure_14, sX6_measure_15, sX6_measure_18, sX6_measure_21, sX6_measure_22, sX6_measure_25, sX6_measure_26, sX6_measure_27, sX6_measure_30, sX6_measure_31, sX6_measure_34, sX6_measure_35, sX6_measure_36, sX6_measure_37, sX6_measure_38, sX6_measure_41, sX6_measure_42, sX6_measure_43, sX6_measure_44, sX6_measure_47, sX6_measure_50, sX6_measure_53, sX6_measure_54, sX6_measure_56, sX6_measure_57, sX6_measure_60, sX6_measure_61, sX6_measure_63, sX6_measure_66, sX6_measure_67, sX6_measure_68, sX6_measure_69, sX6_measure_72, sX6_measure_73, sX6_measure_74, sX6_measure_78, sX6_measure_79, sX6_measure_82, onI_i, onR_r, onS_s, slotA_i, slotA_b, slotA_l, slotA_r, ptk_i, ptk_b, ptk_l, aldP_s, aldP_n, uc_s, uc_n, uc_uc, ua_s, ua_n, Nat.reduceEqDiff, not_false_eq_true, true_or, or_true, true_and, and_true, implies_true, Option.some.injEq, Sum.inl.injEq, Int.toNat_natCast, true_implies, not_true_eq_false, false_implies, Int.reduceEq, Int.reduceLT, Int.reduceLE, Int.reduceNeg, Int.reduceAdd, Int.reduceSub, Int.reduceMul, Int.reduceToNat, lg_0, lg_1, lg_2, lg_3, lz_0, lz_1, lz_2, lz_3, scs_0_0, scs_0_1, scs_0_2, scs_0_3, scs_0_4, scs_0_5, scs_0_6, scs_0_7, scs_0_8, scs_0_9, scs_1_0, scs_1_1, scs_1_2, scs_1_3, scs_1_4, scs_1_5, scs_1_6, scs_1_7, scs_1_8, scs_1_9, scs_1_10, scs_1_11, scs_1_12, scs_1_13, scs_1_14, scs_1_15, scs_1_16, scs_1_17, scs_1_18, scr_2, scr_3, scs_4_0, scs_4_1, scs_5_0, scs_5_1, scs_5_2, scs_5_3, scs_5_4, scs_6_0, scs_6_1, scs_6_2, scs_6_3, scs_7_0, scs_7_1, scs_7_2, scs_7_3, scs_8_0, scs_8_1, scs_8_2, sca_9, sca_10, sca_11, sca_12, sca_13, sca_14, sca_15, sca_16, sca_17, sca_18, sca_19, sca_20, sca_21, sca_22, sca_23, sca_24, sca_25, sca_26, sca_27, sca_28, sca_29, sca_30, sca_31, sca_32, sca_33, sca_34, sca_35, sca_36, scs_37_0, scs_37_1, scs_37_2, scs_37_3, sca_38, sca_39, sca_40, scs_41_0, scs_41_1, scs_41_2, scs_41_3, sca_42, sca_43, sca_44, scs_45_0, scs_45_1, scs_45_2, scs_45_3, sca_46, sca_47, sca_48, scs_49_0, scs_49_1, scs_49_2, scs_49_3, sca_50, sca_51, sca_52, scs_53_0, scs_53_1, scs_53_2, scs_53_3, sca_54, sca_55, sca_56, scs_57_0, scs_57_1, scs_57_2, scs_57_3, sca_58, sca_59, sca_60, scs_61_0, scs_61_1, scs_61_2, scs_61_3, sca_62, sca_63, sca_64, scs_65_0, scs_65_1, scs_65_2, scs_65_3, sca_66, sca_67, sca_68, scs_69_0, scs_69_1, scs_69_2, scs_69_3, sca_70, sca_71, sca_72, sc_st0, sc_st1, sc_st2, sc_sv0, sc_sv1, sc_sv2, hM_34, y2]
        refine ⟨by omega, by omega, fun z => absurd z (by omega), fun _ => ⟨by omega, by omega, fun z => absurd z (by omega), fun _ => ⟨by omega, ?_⟩⟩⟩
        refine kX6_measure_75 (Nat.le_of_ble_eq_true rfl) rfl (o_queueR hg hG cr B (by omega) y2 y1) (fun r h' w => ?_)
        obtain ⟨tx2, qu2, q2, rfl, rfl, B2, w1, w3⟩ := w
        show SG SC mX6_measure _ 78 _ [_] (hM x tx2 qu2)
        simp only [sX6_measure_0, sX6_measure_1, sX6_measure_4, sX6_measure_9, sX6_measure_10, sX6_measure_11, sX6_measure_12, sX6_measure_13, sX6_measure_14, sX6_measure_15, sX6_measure_18, sX6_measure_21, sX6_measure_22, sX6_measure_25, sX6_measure_26, sX6_measure_27, sX6_measure_30, sX6_measure_31, sX6_measure_34, sX6_measure_35, sX6_measure_36, sX6_measure_37, sX6_measure_38, sX6_measure_41, sX6_measure_42, sX6_measure_43, sX6_measure_44, sX6_measure_47, sX6_measure_50, sX6_measure_53, sX6_measure_54, sX6_measure_56, sX6_measure_57, sX6_measure_60, sX6_measure_61, sX6_measure_63, sX6_measure_66, sX6_measure_67, sX6_measure_68, sX6_measure_69, sX6_measure_72, sX6_measure_73, sX6_measure_74, sX6_measure_78, sX6_measure_79, sX6_measure_82, sX6_measure_85, onI_i, onR_r, onS_s, slotA_i, slotA_b, slotA_l, slotA_r, ptk_i, ptk_b, ptk_l, aldP_s, aldP_n, uc_s, uc_n, uc_uc, ua_s, ua_n, Nat.reduceEqDiff, not_false_eq_true, true_or, or_true, true_and, and_true, implies_true, Option.some.injEq, Sum.inl.injEq, Int.toNat_natCast, true_implies, not_true_eq_false, false_implies, Int.reduceEq, Int.reduceLT, Int.reduceLE, Int.reduceNeg, Int.reduceAdd, Int.reduceSub, Int.reduceMul, Int.reduceToNat, lg_0, lg_1, lg_2, lg_3, lz_0, lz_1, lz_2, lz_3, scs_0_0, scs_0_1, scs_0_2, scs_0_3, scs_0_4, scs_0_5, scs_0_6, scs_0_7, scs_0_8, scs_0_9, scs_1_0, scs_1_1, scs_1_2, scs_1_3, scs_1_4, scs_1_5, scs_1_6, scs_1_7, scs_1_8, scs_1_9, scs_1_10, scs_1_11, scs_1_12, scs_1_13, scs_1_14, scs_1_15, scs_1_16, scs_1_17, scs_1_18, scr_2, scr_3, scs_4_0, scs_4_1, scs_5_0, scs_5_1, scs_5_2, scs_5_3, scs_5_4, scs_6_0, scs_6_1, scs_6_2, scs_6_3, scs_7_0, scs_7_1, scs_7_2, scs_7_3, scs_8_0, scs_8_1, scs_8_2, sca_9, sca_10, sca_11, sca_12, sca_13, sca_14, sca_15, sca_16, sca_17, sca_18, sca_19, sca_20, sca_21, sca_22, sca_23, sca_24, sca_25, sca_26, sca_27, sca_28, sca_29, sca_30, sca_31, sca_32, sca_33, sca_34, sca_35, sca_36, scs_37_0, scs_37_1, scs_37_2, scs_37_3, sca_38, sca_39, sca_40, scs_41_0, scs_41_1, scs_41_2, scs_41_3, sca_42, sca_43, sca_44, scs_45_0, scs_45_1, scs_45_2, scs_45_3, sca_46, sca_47, sca_48, scs_49_0, scs_49_1, scs_49_2, scs_49_3, sca_50, sca_51, sca_52, scs_53_0, scs_53_1, scs_53_2, scs_53_3, sca_54, sca_55, sca_56, scs_57_0, scs_57_1, scs_57_2, scs_57_3, sca_58, sca_59, sca_60, scs_61_0, scs_61_1, scs_61_2, scs_61_3, sca_62, sca_63, sca_64, scs_65_0, scs_65_1, scs_65_2, scs_65_3, sca_66, sca_67, sca_68, scs_69_0, scs_69_1, scs_69_2, scs_69_3, sca_70, sca_71, sca_72, sc_st0, sc_st1, sc_st2, sc_sv0, sc_sv1, sc_sv2]
        exact ih (i + 1) tx2 qu2 q2 _ (by omega) rfl (by omega) (DQ_next B2 (by omega)) w3
  have l1 : ∀ (j k : Nat) (tx qu : Nat → Int) (q : Nat) (u : Int), k + j = nG g → u = k → EQ g tx qu q k → SG SC mX6_measure Q 13 [ar 7, ar 1, ai q, ai u] [] (hM x tx qu) := by
    intro j
    induction j with
    | zero =>
      intro k tx qu q u hk hu E
      have e : k = nG g := by omega
      subst e; subst hu
      have B := EQ_DQ E
      have q1 := DQ_n B
      rw [sX6_measure_13]
      simp only [sX6_measure_0, sX6_measure_1, sX6_measure_4, sX6_measure_9, sX6_measure_10, sX6_measure_11, sX6_measure_12, sX6_measure_14, sX6_measure_15, sX6_measure_18, sX6_measure_21, sX6_measure_22, sX6_measure_25, sX6_measure_26, sX6_measure_27, sX6_measure_30, sX6_measure_31, sX6_measure_34, sX6_measure_35, sX6_measure_36, sX6_measure_37, sX6_measure_38, sX6_measure_41, sX6_measure_42, sX6_measure_43, sX6_measure_44, sX6_measure_47, sX6_measure_50, sX6_measure_53, sX6_measure_54, sX6_measure_56, sX6_measure_57, sX6_measure_60, sX6_measure_61, sX6_measure_63, sX6_measure_66, sX6_measure_67, sX6_measure_68, sX6_measure_69, sX6_measure_72, sX6_measure_73, sX6_measure_74, sX6_measure_78, sX6_measure_79, sX6_measure_82, sX6_measure_85, onI_i, onR_r, onS_s, slotA_i, slotA_b, slotA_l, slotA_r, ptk_i, ptk_b, ptk_l, aldP_s, aldP_n, uc_s, uc_n, uc_uc, ua_s, ua_n, Nat.reduceEqDiff, not_false_eq_true, true_or, or_true, true_and, and_true, implies_true, Option.some.injEq, Sum.inl.injEq, Int.toNat_natCast, true_implies, not_true_eq_false, false_implies, Int.reduceEq, Int.reduceLT, Int.reduceLE, Int.reduceNeg, Int.reduceAdd, Int.reduceSub, Int.reduceMul, Int.reduceToNat, lg_0, lg_1, lg_2, lg_3, lz_0, lz_1, lz_2, lz_3, scs_0_0, scs_0_1, scs_0_2, scs_0_3, scs_0_4, scs_0_5, scs_0_6, scs_0_7, scs_0_8, scs_0_9, scs_1_0, scs_1_1, scs_1_2, scs_1_3, scs_1_4, scs_1_5, scs_1_6, scs_1_7, scs_1_8, scs_1_9, scs_1_10, scs_1_11, scs_1_12, scs_1_13, scs_1_14, scs_1_15, scs_1_16, scs_1_17, scs_1_18, scr_2, scr_3, scs_4_0, scs_4_1, scs_5_0, scs_5_1, scs_5_2, scs_5_3, scs_5_4, scs_6_0, scs_6_1, scs_6_2, scs_6_3, scs_7_0, scs_7_1, scs_7_2, scs_7_3, scs_8_0, scs_8_1, scs_8_2, sca_9, sca_10, sca_11, sca_12, sca_13, sca_14, sca_15, sca_16, sca_17, sca_18, sca_19, sca_20, sca_21, sca_22, sca_23, sca_24, sca_25, sca_26, sca_27, sca_28, sca_29, sca_30, sca_31, sca_32, sca_33, sca_34, sca_35, sca_36, scs_37_0, scs_37_1, scs_37_2, scs_37_3, sca_38, sca_39, sca_40, scs_41_0, scs_41_1, scs_41_2, scs_41_3, sca_42, sca_43, sca_44, scs_45_0, scs_45_1, scs_45_2, scs_45_3, sca_46, sca_47, sca_48, scs_49_0, scs_49_1, scs_49_2, scs_49_3, sca_50, sca_51, sca_52, scs_53_0, scs_53_1, scs_53_2, scs_53_3, sca_54, sca_55, sca_56, scs_57_0, scs_57_1, scs_57_2, scs_57_3, sca_58, sca_59, sca_60, scs_61_0, scs_61_1, scs_61_2, scs_61_3, sca_62, sca_63, sca_64, scs_65_0, scs_65_1, scs_65_2, scs_65_3, sca_66, sca_67, sca_68, scs_69_0, scs_69_1, scs_69_2, scs_69_3, sca_70, sca_71, sca_72, sc_st0, sc_st1, sc_st2, sc_sv0, sc_sv1, sc_sv2, o1, x2]
      refine ⟨by omega, by omega, fun _ => ?_, fun z => absurd z (by omega)⟩
      refine l2 (nG g) 0 tx qu q 0 (by omega) rfl (by omega) B (fun v hv => ?_)
      rw [E.2.1 v hv]; split <;> omega
    | succ j ih =>
      intro k tx qu q u hk hu E
      subst hu
      have x17 := (hG.2.2.2.2.1 k (by omega)).2.2.2.2.2.2.2
      have g9 := (hg.2.1 k (by omega)).2.2.2.2.2.2.2.2
      have qk : q ≤ k := Nat.le_trans E.1 (cN_le _ k)
      obtain ⟨a1, a2, a3, a4⟩ := E
      have ce : cN (fun v => g 9 v = 1) (k + 1) = cN (fun v => g 9 v = 1) k + (clI (g 9 k = 1)).toNat := rfl
      rw [sX6_measure_13]
      simp only [sX6_measure_0, sX6_measure_1, sX6_measure_4, sX6_measure_9, sX6_measure_10, sX6_measure_11, sX6_measure_12, sX6_measure_14, sX6_measure_15, sX6_measure_18, sX6_measure_21, sX6_measure_22, sX6_measure_25, sX6_measure_26, sX6_measure_27, sX6_measure_30, sX6_measure_31, sX6_measure_34, sX6_measure_35, sX6_measure_36, sX6_measure_37, sX6_measure_38, sX6_measure_41, sX6_measure_42, sX6_measure_43, sX6_measure_44, sX6_measure_47, sX6_measure_50, sX6_measure_53, sX6_measure_54, sX6_measure_56, sX6_measure_57, sX6_measure_60, sX6_measure_61, sX6_measure_63, sX6_measure_66, sX6_measure_67, sX6_measure_68, sX6_measure_69, sX6_measure_72, sX6_measure_73, sX6_measure_74, sX6_measure_78, sX6_measure_79, sX6_measure_82, sX6_measure_85, onI_i, onR_r, onS_s, slotA_i, slotA_b, slotA_l, slotA_r, ptk_i, ptk_b, ptk_l, aldP_s, aldP_n, uc_s, uc_n, uc_uc, ua_s, ua_n, Nat.reduceEqDiff, not_false_eq_true, true_or, or_true, true_and, and_true, implies_true, Option.some.injEq, Sum.inl.injEq, Int.toNat_natCast, true_implies, not_true_eq_false, false_implies, Int.reduceEq, Int.reduceLT, Int.reduceLE, Int.reduceNeg, Int.reduceAdd, Int.reduceSub, Int.reduceMul, Int.reduceToNat, lg_0, lg_1, lg_2, lg_3, lz_0, lz_1, lz_2, lz_3, scs_0_0, scs_0_1, scs_0_2, scs_0_3, scs_0_4, scs_0_5, scs_0_6, scs_0_7, scs_0_8, scs_0_9, scs_1_0, scs_1_1, scs_1_2, scs_1_3, scs_1_4, scs_1_5, scs_1_6, scs_1_7, scs_1_8, scs_1_9, scs_1_10, scs_1_11, scs_1_12, scs_1_13, scs_1_14, scs_1_15, scs_1_16, scs_1_17, scs_1_18, scr_2, scr_3, scs_4_0, scs_4_1, scs_5_0, scs_5_1, scs_5_2, scs_5_3, scs_5_4, scs_6_0, scs_6_1, scs_6_2, scs_6_3, scs_7_0, scs_7_1, scs_7_2, scs_7_3, scs_8_0, scs_8_1, scs_8_2, sca_9, sca_10, sca_11, sca_12, sca_13, sca_14, sca_15, sca_16, sca_17, sca_18, sca_19, sca_20, sca_21, sca_22, sca_23, sca_24, sca_25, sca_26, sca_27, sca_28, sca_29, sca_30, sca_31, sca_32, sca_33, sca_34, sca_35, sca_36, scs_37_0, scs_37_1, scs_37_2, scs_37_3, sca_38, sca_39, sca_40, scs_41_0, scs_41_1, scs_41_2, scs_41_3, sca_42, sca_43, sca_44, scs_45_0, scs_45_1, scs_45_2, scs_45_3, sca_46, sca_47, sca_48, scs_49_0, scs_49_1, scs_49_2, scs_49_3, sca_50, sca_51, sca_52, scs_53_0, scs_53_1, scs_53_2, scs_53_3, sca_54, sca_55, sca_56, scs_57_0, scs_57_1, scs_57_2, scs_57_3, sca_58, sca_59, sca_60, scs_61_0, scs_61_1, scs_61_2, scs_61_3, sca_62, sca_63, sca_64, scs_65_0, scs_65_1, scs_65_2, scs_65_3, sca_66, sca_67, sca_68, scs_69_0, scs_69_1, scs_69_2, scs_69_3, sca_70, sca_71, sca_72, sc_st0, sc_st1, sc_st2, sc_sv0, sc_sv1, sc_sv2, o1, x2, o17, x17, hM_33, hM_34]
      refine ⟨by omega, by omega, fun z => absurd z (by omega), fun _ => ⟨by omega, by omega, fun z => ?_, fun z => ⟨by omega, by omega, ?_⟩⟩⟩
      · refine ih (k + 1) tx qu q _ (by omega) rfl ⟨by omega, fun v hv => ?_, fun p hp => ?_, fun v hv h9 => ?_⟩
        · rw [a2 v hv]
          by_cases e : v = k
          · subst e; rw [if_neg (by omega), if_neg (by omega)]
          · by_cases c : v < k ∧ g 9 v = 1
            · rw [if_pos c, if_pos ⟨by omega, c.2⟩]
            · rw [if_neg c, if_neg (fun y => c ⟨by omega, y.2⟩)]
        · obtain ⟨v, v1, v2⟩ := a3 p hp
          exact ⟨v, by omega, v2⟩
        · refine a4 v ?_ h9
          by_cases e : v = k
          · subst e; omega
          · omega
      · rw [hM_u33, hM_u34]
        have h9 : g 9 k = 1 := by omega
        rw [clI_t h9] at ce
        refine ih (k + 1) _ _ (q + 1) _ (by omega) rfl ⟨?_, fun v hv => ?_, fun p hp => ?_, fun v hv hh => ?_⟩
        · rw [ce]
          have : (1 : Int).toNat = 1 := rfl
          omega
        · by_cases e : v = k
          · subst e; rw [ua_s, if_pos ⟨by omega, h9⟩]
          · rw [ua_n e, a2 v hv]
            by_cases c : v < k ∧ g 9 v = 1
            · rw [if_pos c, if_pos ⟨by omega, c.2⟩]
            · rw [if_neg c, if_neg (fun y => c ⟨by omega, y.2⟩)]
        · by_cases e : p = q
          · subst e; exact ⟨k, by omega, ua_s, h9⟩
          · obtain ⟨v, v1, v2, v3⟩ := a3 p (by omega)
            exact ⟨v, by omega, by rw [ua_n e]; exact v2, v3⟩
        · by_cases e : v = k
          · subst e; exact ⟨q, by omega, ua_s⟩
          · obtain ⟨p, p1, p2⟩ := a4 v (by omega) hh
            exact ⟨p, by omega, by rw [ua_n (by omega)]; exact p2⟩
  refine Ok_of SC_ok (by decide +kernel) rfl (Nat.le_of_ble_eq_true rfl) ?_
  show SG SC mX6_measure _ 0 [ar 7, ar 1, au, au] [] _
  simp only [sX6_measure_0, sX6_measure_1, sX6_measure_4, sX6_measure_9, sX6_measure_10, sX6_measure_11, sX6_measure_12, sX6_measure_14, sX6_measure_15, sX6_measure_18, sX6_measure_21, sX6_measure_22, sX6_measure_25, sX6_measure_26, sX6_measure_27, sX6_measure_30, sX6_measure_31, sX6_measure_34, sX6_measure_35, sX6_measure_36, sX6_measure_37, sX6_measure_38, sX6_measure_41, sX6_measure_42, sX6_measure_43, sX6_measure_44, sX6_measure_47, sX6_measure_50, sX6_measure_53, sX6_measure_54, sX6_measure_55, sX6_measure_56, sX6_measure_57, sX6_measure_60, sX6_measure_61, sX6_measure_63, sX6_measure_66, sX6_measure_67, sX6_measure_68, sX6_measure_69, sX6_measure_72, sX6_measure_73, sX6_measure_74, sX6_measure_78, sX6_measure_79, sX6_measure_82, sX6_measure_85, onI_i, onR_r, onS_s, slotA_i, slotA_b, slotA_l, slotA_r, ptk_i, ptk_b, ptk_l, aldP_s, aldP_n, uc_s, uc_n, uc_uc, ua_s, ua_n, Nat.reduceEqDiff, not_false_eq_true, true_or, or_true, true_and, and_true, implies_true, Option.some.injEq, Sum.inl.injEq, Int.toNat_natCast, true_implies, not_true_eq_false, false_implies, Int.reduceEq, Int.reduceLT, Int.reduceLE, Int.reduceNeg, Int.reduceAdd, Int.reduceSub, Int.reduceMul, Int.reduceToNat, lg_0, lg_1, lg_2, lg_3, lz_0, lz_1, lz_2, lz_3, scs_0_0, scs_0_1, scs_0_2, scs_0_3, scs_0_4, scs_0_5, scs_0_6, scs_0_7, scs_0_8, scs_0_9, scs_1_0, scs_1_1, scs_1_2, scs_1_3, scs_1_4, scs_1_5, scs_1_6, scs_1_7, scs_1_8, scs_1_9, scs_1_10, scs_1_11, scs_1_12, scs_1_13, scs_1_14, scs_1_15, scs_1_16, scs_1_17, scs_1_18, scr_2, scr_3, scs_4_0, scs_4_1, scs_5_0, scs_5_1, scs_5_2, scs_5_3, scs_5_4, scs_6_0, scs_6_1, scs_6_2, scs_6_3, scs_7_0, scs_7_1, scs_7_2, scs_7_3, scs_8_0, scs_8_1, scs_8_2, sca_9, sca_10, sca_11, sca_12, sca_13, sca_14, sca_15, sca_16, sca_17, sca_18, sca_19, sca_20, sca_21, sca_22, sca_23, sca_24, sca_25, sca_26, sca_27, sca_28, sca_29, sca_30, sca_31, sca_32, sca_33, sca_34, sca_35, sca_36, scs_37_0, scs_37_1, scs_37_2, scs_37_3, sca_38, sca_39, sca_40, scs_41_0, scs_41_1, scs_41_2, scs_41_3, sca_42, sca_43, sca_44, scs_45_0, scs_45_1, scs_45_2, scs_45_3, sca_46, sca_47, sca_48, scs_49_0, scs_49_1, scs_49_2, scs_49_3, sca_50, sca_51, sca_52, scs_53_0, scs_53_1, scs_53_2, scs_53_3, sca_54, sca_55, sca_56, scs_57_0, scs_57_1, scs_57_2, scs_57_3, sca_58, sca_59, sca_60, scs_61_0, scs_61_1, scs_61_2, scs_61_3, sca_62, sca_63, sca_64, scs_65_0, scs_65_1, scs_65_2, scs_65_3, sca_66, sca_67, sca_68, scs_69_0, scs_69_1, scs_69_2, scs_69_3, sca_70, sca_71, sca_72, sc_st0, sc_st1, sc_st2, sc_sv0, sc_sv1, sc_sv2]
  refine vX6_measure_6 (Nat.le_of_ble_eq_true rfl) (o_fill sca_33 (by omega)) ?_
  simp only [sX6_measure_0, sX6_measure_1, sX6_measure_4, sX6_measure_9, sX6_measure_10, sX6_measure_11, sX6_measure_12, sX6_measure_14, sX6_measure_15, sX6_measure_18, sX6_measure_21, sX6_measure_22, sX6_measure_25, sX6_measure_26, sX6_measure_27, sX6_measure_30, sX6_measure_31, sX6_measure_34, sX6_measure_35, sX6_measure_36, sX6_measure_37, sX6_measure_38, sX6_measure_41, sX6_measure_42, sX6_measure_43, sX6_measure_44, sX6_measure_47, sX6_measure_50, sX6_measure_53, sX6_measure_54, sX6_measure_55, sX6_measure_56, sX6_measure_57, sX6_measure_60, sX6_measure_61, sX6_measure_63, sX6_measure_66, sX6_measure_67, sX6_measure_68, sX6_measure_69, sX6_measure_72, sX6_measure_73, sX6_measure_74, sX6_measure_78, sX6_measure_79, sX6_measure_82, sX6_measure_85, onI_i, onR_r, onS_s, slotA_i, slotA_b, slotA_l, slotA_r, ptk_i, ptk_b, ptk_l, aldP_s, aldP_n, uc_s, uc_n, uc_uc, ua_s, ua_n, Nat.reduceEqDiff, not_false_eq_true, true_or, or_true, true_and, and_true, implies_true, Option.some.injEq, Sum.inl.injEq, Int.toNat_natCast, true_implies, not_true_eq_false, false_implies, Int.reduceEq, Int.reduceLT, Int.reduceLE, Int.reduceNeg, Int.reduceAdd, Int.reduceSub, Int.reduceMul, Int.reduceToNat, lg_0, lg_1, lg_2, lg_3, lz_0, lz_1, lz_2, lz_3, scs_0_0, scs_0_1, scs_0_2, scs_0_3, scs_0_4, scs_0_5, scs_0_6, scs_0_7, scs_0_8, scs_0_9, scs_1_0, scs_1_1, scs_1_2, scs_1_3, scs_1_4, scs_1_5, scs_1_6, scs_1_7, scs_1_8, scs_1_9, scs_1_10, scs_1_11, scs_1_12, scs_1_13, scs_1_14, scs_1_15, scs_1_16, scs_1_17, scs_1_18, scr_2, scr_3, scs_4_0, scs_4_1, scs_5_0, scs_5_1, scs_5_2, scs_5_3, scs_5_4, scs_6_0, scs_6_1, scs_6_2, scs_6_3, scs_7_0, scs_7_1, scs_7_2, scs_7_3, scs_8_0, scs_8_1, scs_8_2, sca_9, sca_10, sca_11, sca_12, sca_13, sca_14, sca_15, sca_16, sca_17, sca_18, sca_19, sca_20, sca_21, sca_22, sca_23, sca_24, sca_25, sca_26, sca_27, sca_28, sca_29, sca_30, sca_31, sca_32, sca_33, sca_34, sca_35, sca_36, scs_37_0, scs_37_1, scs_37_2, scs_37_3, sca_38, sca_39, sca_40, scs_41_0, scs_41_1, scs_41_2, scs_41_3, sca_42, sca_43, sca_44, scs_45_0, scs_45_1, scs_45_2, scs_45_3, sca_46, sca_47, sca_48, scs_49_0, scs_49_1, scs_49_2, scs_49_3, sca_50, sca_51, sca_52, scs_53_0, scs_53_1, scs_53_2, scs_53_3, sca_54, sca_55, sca_56, scs_57_0, scs_57_1, scs_57_2, scs_57_3, sca_58, sca_59, sca_60, scs_61_0, scs_61_1, scs_61_2, scs_61_3, sca_62, sca_63, sca_64, scs_65_0, scs_65_1, scs_65_2, scs_65_3, sca_66, sca_67, sca_68, scs_69_0, scs_69_1, scs_69_2, scs_69_3, sca_70, sca_71, sca_72, sc_st0, sc_st1, sc_st2, sc_sv0, sc_sv1, sc_sv2]
  have := l1 (nG g) 0 (filN 64 1000000 (x 33)) (x 34) 0 0 (by omega) rfl ⟨by omega, fun v hv => by unfold filN; rw [if_pos (by omega), if_neg (by omega)], fun p hp => absurd hp (by omega), fun v hv => absurd hv (by omega)⟩
  have e : hM x (filN 64 1000000 (x 33)) (x 34) = updC x 33 (filN 64 1000000 (x 33)) := by
    funext k
    by_cases e : k = 34
    · subst e; rfl
    · unfold hM; rw [uc_n e]
  rw [e] at this
  exact this
theorem o_nearest {x g : AH} (hg : gi g) (hG : rG x g) (hT : ∀ v, v < nG g → x 33 v = tG g v) {c : Nat} (hc : c < nG g) : Ok SC mX6_nearestBeside [ar 7, ar 1, ai c] x (fun r h2 => ∃ v : Nat, r = some (ai v) ∧ NB g c v ∧ h2 = x) := by
  have hn := gi_n hg
  generalize hQ : (fun (r : Option AV) (h2 : AH) => ∃ v : Nat, r = some (ai v) ∧ NB g c v ∧ h2 = x) = Q
  have lp : ∀ (j d : Nat) (a u : Int) (v5 : AV), d + j = 4 → u = 2 * (d : Int) → ((a = -1 ∧ ∀ y : Nat, y < nG g → ¬ ad2 (nbF g) c y d) ∨ ∃ v : Nat, a = v ∧ v < nG g ∧ ad2 (nbF g) c v d ∧ ∀ y, y < nG g → ad2 (nbF g) c y d → tG g v < tG g y ∨ (tG g v = tG g y ∧ v ≤ y)) → SG SC mX6_nearestBeside Q 5 [ar 7, ar 1, ai c, ai a, ai u, v5] [] x := by
    intro j
    induction j with
    | zero =>
      intro d a u v5 hd hu hi
      have e : d = 4 := by omega
      subst e; subst hu
      rw [sX6_nearestBeside_5]
      rcases hi with ⟨_, z⟩ | ⟨v, rfl, v1, v2, v3⟩
      · obtain ⟨y, y1, y2⟩ := ad2_some hg hc
        exact absurd y2 (z y y1)
      · simp only [sX6_nearestBeside_0, sX6_nearestBeside_1, sX6_nearestBeside_2, sX6_nearestBeside_3, sX6_nearestBeside_7, sX6_nearestBeside_9, sX6_nearestBeside_12, sX6_nearestBeside_13, sX6_nearestBeside_16, sX6_nearestBeside_17, sX6_nearestBeside_19, sX6_nearestBeside_20, sX6_nearestBeside_22, sX6_nearestBeside_23, sX6_nearestBeside_24, sX6_nearestBeside_26, sX6_nearestBeside_28, sX6_nearestBeside_29, sX6_nearestBeside_32, sX6_nearestBeside_33, sX6_nearestBeside_34, sX6_nearestBeside_37, sX6_nearestBeside_38, sX6_nearestBeside_41, sX6_nearestBeside_43, sX6_nearestBeside_44, sX6_nearestBeside_45, sX6_nearestBeside_48, sX6_nearestBeside_49, sX6_nearestBeside_50, sX6_nearestBeside_53, sX6_nearestBeside_54, sX6_nearestBeside_57, sX6_nearestBeside_59, sX6_nearestBeside_60, sX6_nearestBeside_61, sX6_nearestBeside_64, sX6_nearestBeside_65, sX6_nearestBeside_66, sX6_nearestBeside_69, sX6_nearestBeside_71, sX6_nearestBeside_72, sX6_nearestBeside_75, sX6_nearestBeside_77, sX6_nearestBeside_78, sX6_nearestBeside_81, sX6_nearestBeside_84, sX6_nearestBeside_85, sX6_nearestBeside_86, sX6_nearestBeside_89, sX6_nearestBeside_90, sX6_nearestBeside_93, sX6_nearestBeside_94, onI_i, onR_r, onS_s, slotA_i, slotA_b, slotA_l, slotA_r, ptk_i, ptk_b, ptk_l, aldP_s, aldP_n, uc_s, uc_n, uc_uc, ua_s, ua_n, Nat.reduceEqDiff, not_false_eq_true, true_or, or_true, true_and, and_true, implies_true, Option.some.injEq, Sum.inl.injEq, Int.toNat_natCast, true_implies, not_true_eq_false, false_implies, Int.reduceEq, Int.reduceLT, Int.reduceLE, Int.reduceNeg, Int.reduceAdd, Int.reduceSub, Int.reduceMul, Int.reduceToNat, lg_0, lg_1, lg_2, lg_3, lg_4, lg_5, lz_0, lz_1, lz_2, lz_3, lz_4, lz_5, scs_0_0, scs_0_1, scs_0_2, scs_0_3, scs_0_4, scs_0_5, scs_0_6, scs_0_7, scs_0_8, scs_0_9, scs_1_0, scs_1_1, scs_1_2, scs_1_3, scs_1_4, scs_1_5, scs_1_6, scs_1_7, scs_1_8, scs_1_9, scs_1_10, scs_1_11, scs_1_12, scs_1_13, scs_1_14, scs_1_15, scs_1_16, scs_1_17, scs_1_18, scr_2, scr_3, scs_4_0, scs_4_1, scs_5_0, scs_5_1, scs_5_2, scs_5_3, scs_5_4, scs_6_0, scs_6_1, scs_6_2, scs_6_3, scs_7_0, scs_7_1, scs_7_2, scs_7_3, scs_8_0, scs_8_1, scs_8_2, sca_9, sca_10, sca_11, sca_12, sca_13, sca_14, sca_15, sca_16, sca_17, sca_18, sca_19, sca_20, sca_21, sca_22, sca_23, sca_24, sca_25, sca_26, sca_27, sca_28, sca_29, sca_30, sca_31, sca_32, sca_33, sca_34, sca_35, sca_36, scs_37_0, scs_37_1, scs_37_2, scs_37_3, sca_38, sca_39, sca_40, scs_41_0, scs_41_1, scs_41_2, scs_41_3, sca_42, sca_43, sca_44, scs_45_0, scs_45_1, scs_45_2, scs_45_3, sca_46, sca_47, sca_48, scs_49_0, scs_49_1, scs_49_2, scs_49_3, sca_50, sca_51, sca_52, scs_53_0, scs_53_1, scs_53_2, scs_53_3, sca_54, sca_55, sca_56, scs_57_0, scs_57_1, scs_57_2, scs_57_3, sca_58, sca_59, sca_60, scs_61_0, scs_61_1, scs_61_2, scs_61_3, sca_62, sca_63, sca_64, scs_65_0, scs_65_1, scs_65_2, scs_65_3, sca_66, sca_67, sca_68, scs_69_0, scs_69_1, scs_69_2, scs_69_3, sca_70, sca_71, sca_72, sc_st0, sc_st1, sc_st2, sc_sv0, sc_sv1, sc_sv2]
        refine ⟨by omega, by omega, fun _ => ⟨by omega, by omega, fun _ => ?_, fun z => absurd z (by omega)⟩, fun z => absurd z (by omega)⟩
        rw [← hQ]
        exact ⟨v, rfl, ⟨v1, v2, v3⟩, rfl⟩
    | succ j ih =>
      intro d a u v5 hd hu hi
      subst hu
      have x18 := hG.2.2.2.2.2.1 c (2 * d) hc (by omega)
      have ei : ((c : Int) * 8 + 2 * (d : Int)).toNat = 8 * c + 2 * d := by omega
      have nr := nbF_r hg c (2 * d)
      have ih2 := fun a v5 => ih (d + 1) a (2 * (d : Int) + 2) v5 (by omega) (by omega)
      rw [sX6_nearestBeside_5]
      simp only [sX6_nearestBeside_0, sX6_nearestBeside_1, sX6_nearestBeside_2, sX6_nearestBeside_3, sX6_nearestBeside_7, sX6_nearestBeside_9, sX6_nearestBeside_12, sX6_nearestBeside_13, sX6_nearestBeside_16, sX6_nearestBeside_17, sX6_nearestBeside_19, sX6_nearestBeside_20, sX6_nearestBeside_22, sX6_nearestBeside_23, sX6_nearestBeside_24, sX6_nearestBeside_26, sX6_nearestBeside_28, sX6_nearestBeside_29, sX6_nearestBeside_32, sX6_nearestBeside_33, sX6_nearestBeside_34, sX6_nearestBeside_37, sX6_nearestBeside_38, sX6_nearestBeside_41, sX6_nearestBeside_43, sX6_nearestBeside_44, sX6_nearestBeside_45, sX6_nearestBeside_48, sX6_nearestBeside_49, sX6_nearestBeside_50, sX6_nearestBeside_53, sX6_nearestBeside_54, sX6_nearestBeside_57, sX6_nearestBeside_59, sX6_nearestBeside_60, sX6_nearestBeside_61, sX6_nearestBeside_64, sX6_nearestBeside_65, sX6_nearestBeside_66, sX6_nearestBeside_69, sX6_nearestBeside_71, sX6_nearestBeside_72, sX6_nearestBeside_75, sX6_nearestBeside_77, sX6_nearestBeside_78, sX6_nearestBeside_81, sX6_nearestBeside_84, sX6_nearestBeside_85, sX6_nearestBeside_86, sX6_nearestBeside_89, sX6_nearestBeside_90, sX6_nearestBeside_93, sX6_nearestBeside_94, onI_i, onR_r, onS_s, slotA_i, slotA_b, slotA_l, slotA_r, ptk_i, ptk_b, ptk_l, aldP_s, aldP_n, uc_s, uc_n, uc_uc, ua_s, ua_n, Nat.reduceEqDiff, not_false_eq_true, true_or, or_true, true_and, and_true, implies_true, Option.some.injEq, Sum.inl.injEq, Int.toNat_natCast, true_implies, not_true_eq_false, false_implies, Int.reduceEq, Int.reduceLT, Int.reduceLE, Int.reduceNeg, Int.reduceAdd, Int.reduceSub, Int.reduceMul, Int.reduceToNat, lg_0, lg_1, lg_2, lg_3, lg_4, lg_5, lz_0, lz_1, lz_2, lz_3, lz_4, lz_5, scs_0_0, scs_0_1, scs_0_2, scs_0_3, scs_0_4, scs_0_5, scs_0_6, scs_0_7, scs_0_8, scs_0_9, scs_1_0, scs_1_1, scs_1_2, scs_1_3, scs_1_4, scs_1_5, scs_1_6, scs_1_7, scs_1_8, scs_1_9, scs_1_10, scs_1_11, scs_1_12, scs_1_13, scs_1_14, scs_1_15, scs_1_16, scs_1_17, scs_1_18, scr_2, scr_3, scs_4_0, scs_4_1, scs_5_0, scs_5_1, scs_5_2, scs_5_3, scs_5_4, scs_6_0, scs_6_1, scs_6_2, scs_6_3, scs_7_0, scs_7_1, scs_7_2, scs_7_3, scs_8_0, scs_8_1, scs_8_2, sca_9, sca_10, sca_11, sca_12, sca_13, sca_14, sca_15, sca_16, sca_17, sca_18, sca_19, sca_20, sca_21, sca_22, sca_23, sca_24, sca_25, sca_26, sca_27, sca_28, sca_29, sca_30, sca_31, sca_32, sca_33, sca_34, sca_35, sca_36, scs_37_0, scs_37_1, scs_37_2, scs_37_3, sca_38, sca_39, sca_40, scs_41_0, scs_41_1, scs_41_2, scs_41_3, sca_42, sca_43, sca_44, scs_45_0, scs_45_1, scs_45_2, scs_45_3, sca_46, sca_47, sca_48, scs_49_0, scs_49_1, scs_49_2, scs_49_3, sca_50, sca_51, sca_52, scs_53_0, scs_53_1, scs_53_2, scs_53_3, sca_54, sca_55, sca_56, scs_57_0, scs_57_1, scs_57_2, scs_57_3, sca_58, sca_59, sca_60, scs_61_0, scs_61_1, scs_61_2, scs_61_3, sca_62, sca_63, sca_64, scs_65_0, scs_65_1, scs_65_2, scs_65_3, sca_66, sca_67, sca_68, scs_69_0, scs_69_1, scs_69_2, scs_69_3, sca_70, sca_71, sca_72, sc_st0, sc_st1, sc_st2, sc_sv0, sc_sv1, sc_sv2, ei, x18]
      refine ⟨by omega, by omega, fun z => absurd z (by omega), fun _ => ⟨by omega, by omega, by omega, fun z => ?_, fun z => ?_⟩⟩
      · refine ih2 a _ ?_
        have same : ∀ y : Nat, ad2 (nbF g) c y (d + 1) → ad2 (nbF g) c y d := by
          rintro y ⟨k, k1, k2⟩
          by_cases e : k = d
          · subst e; omega
          · exact ⟨k, by omega, k2⟩
        rcases hi with ⟨h1, h2⟩ | ⟨v, h1, v1, ⟨k, k1, k2⟩, v3⟩
        · exact Or.inl ⟨h1, fun y hy h => h2 y hy (same y h)⟩
        · exact Or.inr ⟨v, h1, v1, ⟨k, by omega, k2⟩, fun y hy h => v3 y hy (same y h)⟩
      · generalize hto : nbF g c (2 * d) = to at *
        obtain ⟨to, rfl⟩ : ∃ z : Nat, to = z := ⟨to.toNat, by omega⟩
        have ht : to < nG g := by omega
        have xt := hT to ht
        have tb := tG_b hg ht
        have two : ∀ y : Nat, ad2 (nbF g) c y (d + 1) → ad2 (nbF g) c y d ∨ y = to := by
          rintro y ⟨k, k1, k2⟩
          by_cases e : k = d
          · subst e; right; omega
          · exact Or.inl ⟨k, by omega, k2⟩
        have take : (∀ y : Nat, y < nG g → ad2 (nbF g) c y d → tG g to < tG g y ∨ (tG g to = tG g y ∧ to ≤ y)) → ∀ v5, SG SC mX6_nearestBeside Q 5 [ar 7, ar 1, ai c, ai to, ai (2 * (d : Int) + 2), v5] [] x := by
          intro h v5
          refine ih2 to v5 (Or.inr ⟨to, rfl, ht, ⟨d, by omega, hto⟩, fun y hy hh => ?_⟩)
          rcases two y hh with w | w
          · exact h y hy w
          · subst w; exact Or.inr ⟨rfl, Nat.le_refl _⟩
        rw [Int.toNat_natCast, xt]
        rcases hi with ⟨rfl, h2⟩ | ⟨v, rfl, v1, v2, v3⟩
        · exact ⟨by omega, by omega, fun _ => take (fun y hy h => absurd h (h2 y hy)) _, fun z2 => absurd rfl z2⟩
        · have xv := hT v v1
          have vb := tG_b hg v1
          have keep : (tG g v < tG g to ∨ (tG g v = tG g to ∧ v ≤ to)) → ∀ v5, SG SC mX6_nearestBeside Q 5 [ar 7, ar 1, ai c, ai v, ai (2 * (d : Int) + 2), v5] [] x := by
            intro h v5
            obtain ⟨k, k1, k2⟩ := v2
            refine ih2 v v5 (Or.inr ⟨v, rfl, v1, ⟨k, by omega, k2⟩, fun y hy hh => ?_⟩)
            rcases two y hh with w | w
            · exact v3 y hy w
            · subst w; exact h
          rw [Int.toNat_natCast, xv]
          refine ⟨by omega, by omega, fun z2 => absurd z2 (by omega), fun _ => ⟨by omega, by omega, by omega, by omega, fun z3 => take (fun y hy h => ?_) _, fun z3 => ⟨by omega, by omega, by omega, by omega, fun z4 => keep (by omega) _, fun z4 => ⟨by omega, by omega, fun z5 => keep (by omega) _, fun z5 => take (fun y hy h => ?_) _⟩⟩⟩⟩
          · have := v3 y hy h; omega
          · have := v3 y hy h; omega
  refine Ok_of SC_ok (by decide +kernel) rfl (Nat.le_of_ble_eq_true rfl) ?_
  show SG SC mX6_nearestBeside _ 0 [ar 7, ar 1, ai c, au, au, au] [] _
  simp only [sX6_nearestBeside_0, sX6_nearestBeside_1, sX6_nearestBeside_2, sX6_nearestBeside_3, sX6_nearestBeside_7, sX6_nearestBeside_9, sX6_nearestBeside_12, sX6_nearestBeside_13, sX6_nearestBeside_16, sX6_nearestBeside_17, sX6_nearestBeside_19, sX6_nearestBeside_20, sX6_nearestBeside_22, sX6_nearestBeside_23, sX6_nearestBeside_24, sX6_nearestBeside_26, sX6_nearestBeside_28, sX6_nearestBeside_29, sX6_nearestBeside_32, sX6_nearestBeside_33, sX6_nearestBeside_34, sX6_nearestBeside_37, sX6_nearestBeside_38, sX6_nearestBeside_41, sX6_nearestBeside_43, sX6_nearestBeside_44, sX6_nearestBeside_45, sX6_nearestBeside_48, sX6_nearestBeside_49, sX6_nearestBeside_50, sX6_nearestBeside_53, sX6_nearestBeside_54, sX6_nearestBeside_57, sX6_nearestBeside_59, sX6_nearestBeside_60, sX6_nearestBeside_61, sX6_nearestBeside_64, sX6_nearestBeside_65, sX6_nearestBeside_66, sX6_nearestBeside_69, sX6_nearestBeside_71, sX6_nearestBeside_72, sX6_nearestBeside_75, sX6_nearestBeside_77, sX6_nearestBeside_78, sX6_nearestBeside_81, sX6_nearestBeside_84, sX6_nearestBeside_85, sX6_nearestBeside_86, sX6_nearestBeside_89, sX6_nearestBeside_90, sX6_nearestBeside_93, sX6_nearestBeside_94, onI_i, onR_r, onS_s, slotA_i, slotA_b, slotA_l, slotA_r, ptk_i, ptk_b, ptk_l, aldP_s, aldP_n, uc_s, uc_n, uc_uc, ua_s, ua_n, Nat.reduceEqDiff, not_false_eq_true, true_or, or_true, true_and, and_true, implies_true, Option.some.injEq, Sum.inl.injEq, Int.toNat_natCast, true_implies, not_true_eq_false, false_implies, Int.reduceEq, Int.reduceLT, Int.reduceLE, Int.reduceNeg, Int.reduceAdd, Int.reduceSub, Int.reduceMul, Int.reduceToNat, lg_0, lg_1, lg_2, lg_3, lg_4, lg_5, lz_0, lz_1, lz_2, lz_3, lz_4, lz_5, scs_0_0, scs_0_1, scs_0_2, scs_0_3, scs_0_4, scs_0_5, scs_0_6, scs_0_7, scs_0_8, scs_0_9, scs_1_0, scs_1_1, scs_1_2, scs_1_3, scs_1_4, scs_1_5, scs_1_6, scs_1_7, scs_1_8, scs_1_9, scs_1_10, scs_1_11, scs_1_12, scs_1_13, scs_1_14, scs_1_15, scs_1_16, scs_1_17, scs_1_18, scr_2, scr_3, scs_4_0, scs_4_1, scs_5_0, scs_5_1, scs_5_2, scs_5_3, scs_5_4, scs_6_0, scs_6_1, scs_6_2, scs_6_3, scs_7_0, scs_7_1, scs_7_2, scs_7_3, scs_8_0, scs_8_1, scs_8_2, sca_9, sca_10, sca_11, sca_12, sca_13, sca_14, sca_15, sca_16, sca_17, sca_18, sca_19, sca_20, sca_21, sca_22, sca_23, sca_24, sca_25, sca_26, sca_27, sca_28, sca_29, sca_30, sca_31, sca_32, sca_33, sca_34, sca_35, sca_36, scs_37_0, scs_37_1, scs_37_2, scs_37_3, sca_38, sca_39, sca_40, scs_41_0, scs_41_1, scs_41_2, scs_41_3, sca_42, sca_43, sca_44, scs_45_0, scs_45_1, scs_45_2, scs_45_3, sca_46, sca_47, sca_48, scs_49_0, scs_49_1, scs_49_2, scs_49_3, sca_50, sca_51, sca_52, scs_53_0, scs_53_1, scs_53_2, scs_53_3, sca_54, sca_55, sca_56, scs_57_0, scs_57_1, scs_57_2, scs_57_3, sca_58, sca_59, sca_60, scs_61_0, scs_61_1, scs_61_2, scs_61_3, sca_62, sca_63, sca_64, scs_65_0, scs_65_1, scs_65_2, scs_65_3, sca_66, sca_67, sca_68, scs_69_0, scs_69_1, scs_69_2, scs_69_3, sca_70, sca_71, sca_72, sc_st0, sc_st1, sc_st2, sc_sv0, sc_sv1, sc_sv2]
  exact lp 4 0 (-1) 0 _ rfl rfl (Or.inl ⟨rfl, fun y hy h => by obtain ⟨_, z, _⟩ := h; omega⟩)
/-- all but the ways' own cells -/
def sW (x y : AH) : Prop := ∀ k, ¬ k = 7 → ¬ k = 32 → ¬ k = 33 → ¬ k = 34 → y k = x k
theorem rG_w {x y g : AH} (e : sW x y) (h : rG x g) : rG y g := by
  unfold rG at *
  simp only [e 0 (by omega) (by omega) (by omega) (by omega), e 1 (by omega) (by omega) (by omega) (by omega), e 9 (by omega) (by omega) (by omega) (by omega), e 10 (by omega) (by omega) (by omega) (by omega), e 11 (by omega) (by omega) (by omega) (by omega), e 12 (by omega) (by omega) (by omega) (by omega), e 13 (by omega) (by omega) (by omega) (by omega), e 15 (by omega) (by omega) (by omega) (by omega), e 16 (by omega) (by omega) (by omega) (by omega), e 17 (by omega) (by omega) (by omega) (by omega), e 18 (by omega) (by omega) (by omega) (by omega), e 19 (by omega) (by omega) (by omega) (by omega)]
  exact h
theorem sW_u {x y : AH} (e : sW x y) {k : Nat} (hk : k = 7 ∨ k = 32 ∨ k = 33 ∨ k = 34) (f : Nat → Int) : sW x (updC y k f) := by
  intro q h1 h2 h3 h4
  rw [uc_n (by omega)]
  exact e q h1 h2 h3 h4
theorem sW_M (x : AH) (tx qu : Nat → Int) : sW x (hM x tx qu) := fun k _ _ h3 h4 => hM_o h3 h4
set_option maxHeartbeats 1000000 in
theorem o_find {x g : AH} (hg : gi g) (hG : rG x g) {o : Nat} (ho : o < nG g) : Ok SC mX6_find [ar 7, ar 1, ai o] x (fun r h2 => r = none ∧ sW x h2 ∧ h2 7 0 = lnG g o ∧ ∀ i : Nat, (i : Int) < lnG g o → h2 32 i = wyG g o i) := by
  have hn := gi_n hg
  have g9 := (hg.2.1 o (by omega)).2.2.2.2.2.2.2.2
  generalize hQ : (fun (r : Option AV) (h2 : AH) => r = none ∧ sW x h2 ∧ h2 7 0 = lnG g o ∧ ∀ i : Nat, (i : Int) < lnG g o → h2 32 i = wyG g o i) = Q
  have lp : ∀ K : Nat, K < nG g → fG g o o = K → (0 < K → ¬ g 9 o = 1) → ∀ (j i : Nat) (y : AH) (u : Int), i + j = K → u = (i : Int) + 1 → sW x y → (∀ v, v < nG g → y 33 v = tG g v) → (∀ z : Nat, z ≤ i → y 32 z = wyG g o z) → SG SC mX6_find Q 56 [ar 7, ar 1, ai o, ai K, ai u] [] y := by
    intro K hKn hK he j
    have hl : lnG g o = (K : Int) + 1 := by
      rcases ln_r hg ho with ⟨z, _⟩ | ⟨K2, z1, z2, z3⟩ <;> omega
    induction j with
    | zero =>
      intro i y u hi hu hs hT hR
      have e : i = K := by omega
      subst e; subst hu
      rw [sX6_find_56]
      simp only [sX6_find_0, sX6_find_1, sX6_find_5, sX6_find_6, sX6_find_9, sX6_find_10, sX6_find_11, sX6_find_14, sX6_find_15, sX6_find_18, sX6_find_19, sX6_find_20, sX6_find_23, sX6_find_24, sX6_find_25, sX6_find_29, sX6_find_30, sX6_find_31, sX6_find_32, sX6_find_33, sX6_find_34, sX6_find_37, sX6_find_38, sX6_find_39, sX6_find_42, sX6_find_45, sX6_find_46, sX6_find_47, sX6_find_50, sX6_find_51, sX6_find_52, sX6_find_53, sX6_find_54, sX6_find_58, sX6_find_59, sX6_find_62, sX6_find_63, sX6_find_66, sX6_find_68, sX6_find_69, sX6_find_70, sX6_find_71, sX6_find_74, sX6_find_76, sX6_find_77, sX6_find_78, sX6_find_82, sX6_find_83, sX6_find_86, sX6_find_89, sX6_find_90, sX6_find_91, sX6_find_92, sX6_find_93, sX6_find_96, onI_i, onR_r, onS_s, slotA_i, slotA_b, slotA_l, slotA_r, ptk_i, ptk_b, ptk_l, aldP_s, aldP_n, uc_s, uc_n, uc_uc, ua_s, ua_n, Nat.reduceEqDiff, not_false_eq_true, true_or, or_true, true_and, and_true, implies_true, Option.some.injEq, Sum.inl.injEq, Int.toNat_natCast, true_implies, not_true_eq_false, false_implies, Int.reduceEq, Int.reduceLT, Int.reduceLE, Int.reduceNeg, Int.reduceAdd, Int.reduceSub, Int.reduceMul, Int.reduceToNat, lg_0, lg_1, lg_2, lg_3, lg_4, lz_0, lz_1, lz_2, lz_3, lz_4, scs_0_0, scs_0_1, scs_0_2, scs_0_3, scs_0_4, scs_0_5, scs_0_6, scs_0_7, scs_0_8, scs_0_9, scs_1_0, scs_1_1, scs_1_2, scs_1_3, scs_1_4, scs_1_5, scs_1_6, scs_1_7, scs_1_8, scs_1_9, scs_1_10, scs_1_11, scs_1_12, scs_1_13, scs_1_14, scs_1_15, scs_1_16, scs_1_17, scs_1_18, scr_2, scr_3, scs_4_0, scs_4_1, scs_5_0, scs_5_1, scs_5_2, scs_5_3, scs_5_4, scs_6_0, scs_6_1, scs_6_2, scs_6_3, scs_7_0, scs_7_1, scs_7_2, scs_7_3, scs_8_0, scs_8_1, scs_8_2, sca_9, sca_10, sca_11, sca_12, sca_13, sca_14, sca_15, sca_16, sca_17, sca_18, sca_19, sca_20, sca_21, sca_22, sca_23, sca_24, sca_25, sca_26, sca_27, sca_28, sca_29, sca_30, sca_31, sca_32, sca_33, sca_34, sca_35, sca_36, scs_37_0, scs_37_1, scs_37_2, scs_37_3, sca_38, sca_39, sca_40, scs_41_0, scs_41_1, scs_41_2, scs_41_3, sca_42, sca_43, sca_44, scs_45_0, scs_45_1, scs_45_2, scs_45_3, sca_46, sca_47, sca_48, scs_49_0, scs_49_1, scs_49_2, scs_49_3, sca_50, sca_51, sca_52, scs_53_0, scs_53_1, scs_53_2, scs_53_3, sca_54, sca_55, sca_56, scs_57_0, scs_57_1, scs_57_2, scs_57_3, sca_58, sca_59, sca_60, scs_61_0, scs_61_1, scs_61_2, scs_61_3, sca_62, sca_63, sca_64, scs_65_0, scs_65_1, scs_65_2, scs_65_3, sca_66, sca_67, sca_68, scs_69_0, scs_69_1, scs_69_2, scs_69_3, sca_70, sca_71, sca_72, sc_st0, sc_st1, sc_st2, sc_sv0, sc_sv1, sc_sv2]
      refine ⟨by omega, by omega, fun _ => ?_, fun z => absurd z (by omega)⟩
      rw [← hQ, hl]
      exact ⟨rfl, sW_u hs (by omega) _, rfl, fun z hz => hR z (by omega)⟩
    | succ j ih =>
      intro i y u hi hu hs hT hR
      subst hu
      obtain ⟨a, a1, a2, _⟩ := wy_r hg ho hKn hK i (by omega)
      have ra := hR i (Nat.le_refl i)
      rw [a2] at ra
      have ei : ((i : Int) + 1 - 1).toNat = i := by omega
      have ei2 : ((i : Int) + 1).toNat = i + 1 := by omega
      rw [sX6_find_56]
      simp only [sX6_find_0, sX6_find_1, sX6_find_5, sX6_find_6, sX6_find_9, sX6_find_10, sX6_find_11, sX6_find_14, sX6_find_15, sX6_find_18, sX6_find_19, sX6_find_20, sX6_find_23, sX6_find_24, sX6_find_25, sX6_find_29, sX6_find_30, sX6_find_31, sX6_find_32, sX6_find_33, sX6_find_34, sX6_find_37, sX6_find_38, sX6_find_39, sX6_find_42, sX6_find_45, sX6_find_46, sX6_find_47, sX6_find_50, sX6_find_51, sX6_find_52, sX6_find_53, sX6_find_54, sX6_find_58, sX6_find_59, sX6_find_62, sX6_find_63, sX6_find_66, sX6_find_68, sX6_find_69, sX6_find_70, sX6_find_71, sX6_find_74, sX6_find_76, sX6_find_77, sX6_find_78, sX6_find_82, sX6_find_83, sX6_find_86, sX6_find_89, sX6_find_90, sX6_find_91, sX6_find_92, sX6_find_93, sX6_find_96, onI_i, onR_r, onS_s, slotA_i, slotA_b, slotA_l, slotA_r, ptk_i, ptk_b, ptk_l, aldP_s, aldP_n, uc_s, uc_n, uc_uc, ua_s, ua_n, Nat.reduceEqDiff, not_false_eq_true, true_or, or_true, true_and, and_true, implies_true, Option.some.injEq, Sum.inl.injEq, Int.toNat_natCast, true_implies, not_true_eq_false, false_implies, Int.reduceEq, Int.reduceLT, Int.reduceLE, Int.reduceNeg, Int.reduceAdd, Int.reduceSub, Int.reduceMul, Int.reduceToNat, lg_0, lg_1, lg_2, lg_3, lg_4, lz_0, lz_1, lz_2, lz_3, lz_4, scs_0_0, scs_0_1, scs_0_2, scs_0_3, scs_0_4, scs_0_5, scs_0_6, scs_0_7, scs_0_8, scs_0_9, scs_1_0, scs_1_1, scs_1_2, scs_1_3, scs_1_4, scs_1_5, scs_1_6, scs_1_7, scs_1_8, scs_1_9, scs_1_10, scs_1_11, scs_1_12, scs_1_13, scs_1_14, scs_1_15, scs_1_16, scs_1_17, scs_1_18, scr_2, scr_3, scs_4_0, scs_4_1, scs_5_0, scs_5_1, scs_5_2, scs_5_3, scs_5_4, scs_6_0, scs_6_1, scs_6_2, scs_6_3, scs_7_0, scs_7_1, scs_7_2, scs_7_3, scs_8_0, scs_8_1, scs_8_2, sca_9, sca_10, sca_11, sca_12, sca_13, sca_14, sca_15, sca_16, sca_17, sca_18, sca_19, sca_20, sca_21, sca_22, sca_23, sca_24, sca_25, sca_26, sca_27, sca_28, sca_29, sca_30, sca_31, sca_32, sca_33, sca_34, sca_35, sca_36, scs_37_0, scs_37_1, scs_37_2, scs_37_3, sca_38, sca_39, sca_40, scs_41_0, scs_41_1, scs_41_2, scs_41_3, sca_42, sca_43, sca_44, scs_45_0, scs_45_1, scs_45_2, scs_45_3, sca_46, sca_47, sca_48, scs_49_0, scs_49_1, scs_49_2, scs_49_3, sca_50, sca_51, sca_52, scs_53_0, scs_53_1, scs_53_2, scs_53_3, sca_54, sca_55, sca_56, scs_57_0, scs_57_1, scs_57_2, scs_57_3, sca_58, sca_59, sca_60, scs_61_0, scs_61_1, scs_61_2, scs_61_3, sca_62, sca_63, sca_64, scs_65_0, scs_65_1, scs_65_2, scs_65_3, sca_66, sca_67, sca_68, scs_69_0, scs_69_1, scs_69_2, scs_69_3, sca_70, sca_71, sca_72, sc_st0, sc_st1, sc_st2, sc_sv0, sc_sv1, sc_sv2, ei, ra]
      refine ⟨by omega, by omega, fun z => absurd z (by omega), fun _ => ⟨by omega, ?_⟩⟩
      refine kX6_find_79 (Nat.le_of_ble_eq_true rfl) rfl (o_nearest hg (rG_w hs hG) hT a1) (fun r h' w => ?_)
      obtain ⟨v, rfl, hv, rfl⟩ := w
      have wn := wy_next hg ho (he (by omega)) hK hKn (show i < K by omega) a1 a2 hv
      show SG SC mX6_find _ 82 _ [_, _, _] h'
      simp only [sX6_find_0, sX6_find_1, sX6_find_5, sX6_find_6, sX6_find_9, sX6_find_10, sX6_find_11, sX6_find_14, sX6_find_15, sX6_find_18, sX6_find_19, sX6_find_20, sX6_find_23, sX6_find_24, sX6_find_25, sX6_find_29, sX6_find_30, sX6_find_31, sX6_find_32, sX6_find_33, sX6_find_34, sX6_find_37, sX6_find_38, sX6_find_39, sX6_find_42, sX6_find_45, sX6_find_46, sX6_find_47, sX6_find_50, sX6_find_51, sX6_find_52, sX6_find_53, sX6_find_54, sX6_find_58, sX6_find_59, sX6_find_62, sX6_find_63, sX6_find_66, sX6_find_68, sX6_find_69, sX6_find_70, sX6_find_71, sX6_find_74, sX6_find_76, sX6_find_77, sX6_find_78, sX6_find_82, sX6_find_83, sX6_find_86, sX6_find_89, sX6_find_90, sX6_find_91, sX6_find_92, sX6_find_93, sX6_find_96, onI_i, onR_r, onS_s, slotA_i, slotA_b, slotA_l, slotA_r, ptk_i, ptk_b, ptk_l, aldP_s, aldP_n, uc_s, uc_n, uc_uc, ua_s, ua_n, Nat.reduceEqDiff, not_false_eq_true, true_or, or_true, true_and, and_true, implies_true, Option.some.injEq, Sum.inl.injEq, Int.toNat_natCast, true_implies, not_true_eq_false, false_implies, Int.reduceEq, Int.reduceLT, Int.reduceLE, Int.reduceNeg, Int.reduceAdd, Int.reduceSub, Int.reduceMul, Int.reduceToNat, lg_0, lg_1, lg_2, lg_3, lg_4, lz_0, lz_1, lz_2, lz_3, lz_4, scs_0_0, scs_0_1, scs_0_2, scs_0_3, scs_0_4, scs_0_5, scs_0_6, scs_0_7, scs_0_8, scs_0_9, scs_1_0, scs_1_1, scs_1_2, scs_1_3, scs_1_4, scs_1_5, scs_1_6, scs_1_7, scs_1_8, scs_1_9, scs_1_10, scs_1_11, scs_1_12, scs_1_13, scs_1_14, scs_1_15, scs_1_16, scs_1_17, scs_1_18, scr_2, scr_3, scs_4_0, scs_4_1, scs_5_0, scs_5_1, scs_5_2, scs_5_3, scs_5_4, scs_6_0, scs_6_1, scs_6_2, scs_6_3, scs_7_0, scs_7_1, scs_7_2, scs_7_3, scs_8_0, scs_8_1, scs_8_2, sca_9, sca_10, sca_11, sca_12, sca_13, sca_14, sca_15, sca_16, sca_17, sca_18, sca_19, sca_20, sca_21, sca_22, sca_23, sca_24, sca_25, sca_26, sca_27, sca_28, sca_29, sca_30, sca_31, sca_32, sca_33, sca_34, sca_35, sca_36, scs_37_0, scs_37_1, scs_37_2, scs_37_3, sca_38, sca_39, sca_40, scs_41_0, scs_41_1, scs_41_2, scs_41_3, sca_42, sca_43, sca_44, scs_45_0, scs_45_1, scs_45_2, scs_45_3, sca_46, sca_47, sca_48, scs_49_0, scs_49_1, scs_49_2, scs_49_3, sca_50, sca_51, sca_52, scs_53_0, scs_53_1, scs_53_2, scs_53_3, sca_54, sca_55, sca_56, scs_57_0, scs_57_1, scs_57_2, scs_57_3, sca_58, sca_59, sca_60, scs_61_0, scs_61_1, scs_61_2, scs_61_3, sca_62, sca_63, sca_64, scs_65_0, scs_65_1, scs_65_2, scs_65_3, sca_66, sca_67, sca_68, scs_69_0, scs_69_1, scs_69_2, scs_69_3, sca_70, sca_71, sca_72, sc_st0, sc_st1, sc_st2, sc_sv0, sc_sv1, sc_sv2, ei2]
      refine ⟨by omega, ?_⟩
      refine ih (i + 1) _ _ (by omega) (by omega) (sW_u hs (by omega) _) hT (fun z hz => ?_)
      show updA (h' 32) (i + 1) v z = _
      by_cases e : z = i + 1
      · subst e; rw [ua_s, wn]
      · rw [ua_n e]; exact hR z (by omega)
  have go : ∀ (K : Nat) (tx qu : Nat → Int) (v4 : AV), (∀ v, v < nG g → tx v = tG g v) → K < nG g → fG g o o = K → (0 < K → ¬ g 9 o = 1) → SG SC mX6_find Q 31 [ar 7, ar 1, ai o, au, v4] [ai K] (hM x tx qu) := by
    intro K tx qu v4 hT hKn hK he
    have o1 : hM x tx qu 1 = x 1 := hM_o (by omega) (by omega)
    have x2 : x 1 2 = nG g := by rw [hG.2.2.1]; exact hn.2.2
    simp only [sX6_find_0, sX6_find_1, sX6_find_5, sX6_find_6, sX6_find_9, sX6_find_10, sX6_find_11, sX6_find_14, sX6_find_15, sX6_find_18, sX6_find_19, sX6_find_20, sX6_find_23, sX6_find_24, sX6_find_25, sX6_find_29, sX6_find_30, sX6_find_31, sX6_find_32, sX6_find_33, sX6_find_34, sX6_find_37, sX6_find_38, sX6_find_39, sX6_find_42, sX6_find_45, sX6_find_46, sX6_find_47, sX6_find_50, sX6_find_51, sX6_find_52, sX6_find_53, sX6_find_54, sX6_find_58, sX6_find_59, sX6_find_62, sX6_find_63, sX6_find_66, sX6_find_68, sX6_find_69, sX6_find_70, sX6_find_71, sX6_find_74, sX6_find_76, sX6_find_77, sX6_find_78, sX6_find_82, sX6_find_83, sX6_find_86, sX6_find_89, sX6_find_90, sX6_find_91, sX6_find_92, sX6_find_93, sX6_find_96, onI_i, onR_r, onS_s, slotA_i, slotA_b, slotA_l, slotA_r, ptk_i, ptk_b, ptk_l, aldP_s, aldP_n, uc_s, uc_n, uc_uc, ua_s, ua_n, Nat.reduceEqDiff, not_false_eq_true, true_or, or_true, true_and, and_true, implies_true, Option.some.injEq, Sum.inl.injEq, Int.toNat_natCast, true_implies, not_true_eq_false, false_implies, Int.reduceEq, Int.reduceLT, Int.reduceLE, Int.reduceNeg, Int.reduceAdd, Int.reduceSub, Int.reduceMul, Int.reduceToNat, lg_0, lg_1, lg_2, lg_3, lg_4, lz_0, lz_1, lz_2, lz_3, lz_4, scs_0_0, scs_0_1, scs_0_2, scs_0_3, scs_0_4, scs_0_5, scs_0_6, scs_0_7, scs_0_8, scs_0_9, scs_1_0, scs_1_1, scs_1_2, scs_1_3, scs_1_4, scs_1_5, scs_1_6, scs_1_7, scs_1_8, scs_1_9, scs_1_10, scs_1_11, scs_1_12, scs_1_13, scs_1_14, scs_1_15, scs_1_16, scs_1_17, scs_1_18, scr_2, scr_3, scs_4_0, scs_4_1, scs_5_0, scs_5_1, scs_5_2, scs_5_3, scs_5_4, scs_6_0, scs_6_1, scs_6_2, scs_6_3, scs_7_0, scs_7_1, scs_7_2, scs_7_3, scs_8_0, scs_8_1, scs_8_2, sca_9, sca_10, sca_11, sca_12, sca_13, sca_14, sca_15, sca_16, sca_17, sca_18, sca_19, sca_20, sca_21, sca_22, sca_23, sca_24, sca_25, sca_26, sca_27, sca_28, sca_29, sca_30, sca_31, sca_32, sca_33, sca_34, sca_35, sca_36, scs_37_0, scs_37_1, scs_37_2, scs_37_3, sca_38, sca_39, sca_40, scs_41_0, scs_41_1, scs_41_2, scs_41_3, sca_42, sca_43, sca_44, scs_45_0, scs_45_1, scs_45_2, scs_45_3, sca_46, sca_47, sca_48, scs_49_0, scs_49_1, scs_49_2, scs_49_3, sca_50, sca_51, sca_52, scs_53_0, scs_53_1, scs_53_2, scs_53_3, sca_54, sca_55, sca_56, scs_57_0, scs_57_1, scs_57_2, scs_57_3, sca_58, sca_59, sca_60, scs_61_0, scs_61_1, scs_61_2, scs_61_3, sca_62, sca_63, sca_64, scs_65_0, scs_65_1, scs_65_2, scs_65_3, sca_66, sca_67, sca_68, scs_69_0, scs_69_1, scs_69_2, scs_69_3, sca_70, sca_71, sca_72, sc_st0, sc_st1, sc_st2, sc_sv0, sc_sv1, sc_sv2, o1, x2]
    refine ⟨by omega, by omega, fun _ => ⟨by omega, ?_⟩, fun z => absurd z (by omega)⟩
    refine lp K hKn hK he K 0 _ _ (by omega) rfl (sW_u (sW_u (sW_M x tx qu) (by omega) _) (by omega) _) (fun v hv => hT v hv) (fun z hz => ?_)
    have e : z = 0 := by omega
    subst e
    show updA (hM x tx qu 32) 0 o 0 = _
    rw [ua_s]; rfl
  refine Ok_of SC_ok (by decide +kernel) rfl (Nat.le_of_ble_eq_true rfl) ?_
  show SG SC mX6_find _ 0 [ar 7, ar 1, ai o, au, au] [] _
  simp only [sX6_find_0, sX6_find_1, sX6_find_5, sX6_find_6, sX6_find_9, sX6_find_10, sX6_find_11, sX6_find_14, sX6_find_15, sX6_find_18, sX6_find_19, sX6_find_20, sX6_find_23, sX6_find_24, sX6_find_25, sX6_find_29, sX6_find_30, sX6_find_32, sX6_find_33, sX6_find_34, sX6_find_37, sX6_find_38, sX6_find_39, sX6_find_42, sX6_find_45, sX6_find_46, sX6_find_47, sX6_find_50, sX6_find_51, sX6_find_52, sX6_find_53, sX6_find_54, sX6_find_58, sX6_find_59, sX6_find_62, sX6_find_63, sX6_find_66, sX6_find_68, sX6_find_69, sX6_find_70, sX6_find_71, sX6_find_74, sX6_find_76, sX6_find_77, sX6_find_78, sX6_find_82, sX6_find_83, sX6_find_86, sX6_find_89, sX6_find_90, sX6_find_91, sX6_find_92, sX6_find_93, sX6_find_96, onI_i, onR_r, onS_s, slotA_i, slotA_b, slotA_l, slotA_r, ptk_i, ptk_b, ptk_l, aldP_s, aldP_n, uc_s, uc_n, uc_uc, ua_s, ua_n, Nat.reduceEqDiff, not_false_eq_true, true_or, or_true, true_and, and_true, implies_true, Option.some.injEq, Sum.inl.injEq, Int.toNat_natCast, true_implies, not_true_eq_false, false_implies, Int.reduceEq, Int.reduceLT, Int.reduceLE, Int.reduceNeg, Int.reduceAdd, Int.reduceSub, Int.reduceMul, Int.reduceToNat, lg_0, lg_1, lg_2, lg_3, lg_4, lz_0, lz_1, lz_2, lz_3, lz_4, scs_0_0, scs_0_1, scs_0_2, scs_0_3, scs_0_4, scs_0_5, scs_0_6, scs_0_7, scs_0_8, scs_0_9, scs_1_0, scs_1_1, scs_1_2, scs_1_3, scs_1_4, scs_1_5, scs_1_6, scs_1_7, scs_1_8, scs_1_9, scs_1_10, scs_1_11, scs_1_12, scs_1_13, scs_1_14, scs_1_15, scs_1_16, scs_1_17, scs_1_18, scr_2, scr_3, scs_4_0, scs_4_1, scs_5_0, scs_5_1, scs_5_2, scs_5_3, scs_5_4, scs_6_0, scs_6_1, scs_6_2, scs_6_3, scs_7_0, scs_7_1, scs_7_2, scs_7_3, scs_8_0, scs_8_1, scs_8_2, sca_9, sca_10, sca_11, sca_12, sca_13, sca_14, sca_15, sca_16, sca_17, sca_18, sca_19, sca_20, sca_21, sca_22, sca_23, sca_24, sca_25, sca_26, sca_27, sca_28, sca_29, sca_30, sca_31, sca_32, sca_33, sca_34, sca_35, sca_36, scs_37_0, scs_37_1, scs_37_2, scs_37_3, sca_38, sca_39, sca_40, scs_41_0, scs_41_1, scs_41_2, scs_41_3, sca_42, sca_43, sca_44, scs_45_0, scs_45_1, scs_45_2, scs_45_3, sca_46, sca_47, sca_48, scs_49_0, scs_49_1, scs_49_2, scs_49_3, sca_50, sca_51, sca_52, scs_53_0, scs_53_1, scs_53_2, scs_53_3, sca_54, sca_55, sca_56, scs_57_0, scs_57_1, scs_57_2, scs_57_3, sca_58, sca_59, sca_60, scs_61_0, scs_61_1, scs_61_2, scs_61_3, sca_62, sca_63, sca_64, scs_65_0, scs_65_1, scs_65_2, scs_65_3, sca_66, sca_67, sca_68, scs_69_0, scs_69_1, scs_69_2, scs_69_3, sca_70, sca_71, sca_72, sc_st0, sc_st1, sc_st2, sc_sv0, sc_sv1, sc_sv2]
  refine kX6_find_2 (Nat.le_of_ble_eq_true rfl) rfl (o_measure hg hG) (fun r h' w => ?_)
  obtain ⟨rfl, tx, qu, rfl, hT⟩ := w
  show SG SC mX6_find _ 5 _ [] (hM x tx qu)
  have o17 : hM x tx qu 17 = x 17 := hM_o (by omega) (by omega)
  have x17 := (hG.2.2.2.2.1 o (by omega)).2.2.2.2.2.2.2
  simp only [sX6_find_0, sX6_find_1, sX6_find_5, sX6_find_6, sX6_find_9, sX6_find_10, sX6_find_11, sX6_find_14, sX6_find_15, sX6_find_18, sX6_find_19, sX6_find_20, sX6_find_23, sX6_find_24, sX6_find_25, sX6_find_29, sX6_find_30, sX6_find_32, sX6_find_33, sX6_find_34, sX6_find_37, sX6_find_38, sX6_find_39, sX6_find_42, sX6_find_45, sX6_find_46, sX6_find_47, sX6_find_50, sX6_find_51, sX6_find_52, sX6_find_53, sX6_find_54, sX6_find_58, sX6_find_59, sX6_find_62, sX6_find_63, sX6_find_66, sX6_find_68, sX6_find_69, sX6_find_70, sX6_find_71, sX6_find_74, sX6_find_76, sX6_find_77, sX6_find_78, sX6_find_82, sX6_find_83, sX6_find_86, sX6_find_89, sX6_find_90, sX6_find_91, sX6_find_92, sX6_find_93, sX6_find_96, onI_i, onR_r, onS_s, slotA_i, slotA_b, slotA_l, slotA_r, ptk_i, ptk_b, ptk_l, aldP_s, aldP_n, uc_s, uc_n, uc_uc, ua_s, ua_n, Nat.reduceEqDiff, not_false_eq_true, true_or, or_true, true_and, and_true, implies_true, Option.some.injEq, Sum.inl.injEq, Int.toNat_natCast, true_implies, not_true_eq_false, false_implies, Int.reduceEq, Int.reduceLT, Int.reduceLE, Int.reduceNeg, Int.reduceAdd, Int.reduceSub, Int.reduceMul, Int.reduceToNat, lg_0, lg_1, lg_2, lg_3, lg_4, lz_0, lz_1, lz_2, lz_3, lz_4, scs_0_0, scs_0_1, scs_0_2, scs_0_3, scs_0_4, scs_0_5, scs_0_6, scs_0_7, scs_0_8, scs_0_9, scs_1_0, scs_1_1, scs_1_2, scs_1_3, scs_1_4, scs_1_5, scs_1_6, scs_1_7, scs_1_8, scs_1_9, scs_1_10, scs_1_11, scs_1_12, scs_1_13, scs_1_14, scs_1_15, scs_1_16, scs_1_17, scs_1_18, scr_2, scr_3, scs_4_0, scs_4_1, scs_5_0, scs_5_1, scs_5_2, scs_5_3, scs_5_4, scs_6_0, scs_6_1, scs_6_2, scs_6_3, scs_7_0, scs_7_1, scs_7_2, scs_7_3, scs_8_0, scs_8_1, scs_8_2, sca_9, sca_10, sca_11, sca_12, sca_13, sca_14, sca_15, sca_16, sca_17, sca_18, sca_19, sca_20, sca_21, sca_22, sca_23, sca_24, sca_25, sca_26, sca_27, sca_28, sca_29, sca_30, sca_31, sca_32, sca_33, sca_34, sca_35, sca_36, scs_37_0, scs_37_1, scs_37_2, scs_37_3, sca_38, sca_39, sca_40, scs_41_0, scs_41_1, scs_41_2, scs_41_3, sca_42, sca_43, sca_44, scs_45_0, scs_45_1, scs_45_2, scs_45_3, sca_46, sca_47, sca_48, scs_49_0, scs_49_1, scs_49_2, scs_49_3, sca_50, sca_51, sca_52, scs_53_0, scs_53_1, scs_53_2, scs_53_3, sca_54, sca_55, sca_56, scs_57_0, scs_57_1, scs_57_2, scs_57_3, sca_58, sca_59, sca_60, scs_61_0, scs_61_1, scs_61_2, scs_61_3, sca_62, sca_63, sca_64, scs_65_0, scs_65_1, scs_65_2, scs_65_3, sca_66, sca_67, sca_68, scs_69_0, scs_69_1, scs_69_2, scs_69_3, sca_70, sca_71, sca_72, sc_st0, sc_st1, sc_st2, sc_sv0, sc_sv1, sc_sv2, o17, x17]
  refine ⟨by omega, by omega, fun z => ?_, fun z => ?_⟩
  · refine kX6_find_26 (Nat.le_of_ble_eq_true rfl) rfl (o_nearest hg (rG_w (sW_M x tx qu) hG) hT ho) (fun r h' w => ?_)
    obtain ⟨v, rfl, hv, rfl⟩ := w
    show SG SC mX6_find _ 29 _ [_, _, _] (hM x tx qu)
    have he : ¬ g 9 o = 1 := by omega
    have ff := fG_first hg ho he hv
    have tv := hT v hv.1
    have tb := tG_b hg hv.1
    have v1 := hv.1
    have fb := fG_b hg (o := o) ho
    by_cases q : 1000000 ≤ tG g v
    · rw [if_pos q] at ff
      have o1 : hM x tx qu 1 = x 1 := hM_o (by omega) (by omega)
      have x2 : x 1 2 = nG g := by rw [hG.2.2.1]; exact hn.2.2
      simp only [sX6_find_0, sX6_find_1, sX6_find_5, sX6_find_6, sX6_find_9, sX6_find_10, sX6_find_11, sX6_find_14, sX6_find_15, sX6_find_18, sX6_find_19, sX6_find_20, sX6_find_23, sX6_find_24, sX6_find_25, sX6_find_29, sX6_find_30, sX6_find_31, sX6_find_32, sX6_find_33, sX6_find_34, sX6_find_37, sX6_find_38, sX6_find_39, sX6_find_42, sX6_find_45, sX6_find_46, sX6_find_47, sX6_find_50, sX6_find_51, sX6_find_52, sX6_find_53, sX6_find_54, sX6_find_58, sX6_find_59, sX6_find_62, sX6_find_63, sX6_find_66, sX6_find_68, sX6_find_69, sX6_find_70, sX6_find_71, sX6_find_74, sX6_find_76, sX6_find_77, sX6_find_78, sX6_find_82, sX6_find_83, sX6_find_86, sX6_find_89, sX6_find_90, sX6_find_91, sX6_find_92, sX6_find_93, sX6_find_96, onI_i, onR_r, onS_s, slotA_i, slotA_b, slotA_l, slotA_r, ptk_i, ptk_b, ptk_l, aldP_s, aldP_n, uc_s, uc_n, uc_uc, ua_s, ua_n, Nat.reduceEqDiff, not_false_eq_true, true_or, or_true, true_and, and_true, implies_true, Option.some.injEq, Sum.inl.injEq, Int.toNat_natCast, true_implies, not_true_eq_false, false_implies, Int.reduceEq, Int.reduceLT, Int.reduceLE, Int.reduceNeg, Int.reduceAdd, Int.reduceSub, Int.reduceMul, Int.reduceToNat, lg_0, lg_1, lg_2, lg_3, lg_4, lz_0, lz_1, lz_2, lz_3, lz_4, scs_0_0, scs_0_1, scs_0_2, scs_0_3, scs_0_4, scs_0_5, scs_0_6, scs_0_7, scs_0_8, scs_0_9, scs_1_0, scs_1_1, scs_1_2, scs_1_3, scs_1_4, scs_1_5, scs_1_6, scs_1_7, scs_1_8, scs_1_9, scs_1_10, scs_1_11, scs_1_12, scs_1_13, scs_1_14, scs_1_15, scs_1_16, scs_1_17, scs_1_18, scr_2, scr_3, scs_4_0, scs_4_1, scs_5_0, scs_5_1, scs_5_2, scs_5_3, scs_5_4, scs_6_0, scs_6_1, scs_6_2, scs_6_3, scs_7_0, scs_7_1, scs_7_2, scs_7_3, scs_8_0, scs_8_1, scs_8_2, sca_9, sca_10, sca_11, sca_12, sca_13, sca_14, sca_15, sca_16, sca_17, sca_18, sca_19, sca_20, sca_21, sca_22, sca_23, sca_24, sca_25, sca_26, sca_27, sca_28, sca_29, sca_30, sca_31, sca_32, sca_33, sca_34, sca_35, sca_36, scs_37_0, scs_37_1, scs_37_2, scs_37_3, sca_38, sca_39, sca_40, scs_41_0, scs_41_1, scs_41_2, scs_41_3, sca_42, sca_43, sca_44, scs_45_0, scs_45_1, scs_45_2, scs_45_3, sca_46, sca_47, sca_48, scs_49_0, scs_49_1, scs_49_2, scs_49_3, sca_50, sca_51, sca_52, scs_53_0, scs_53_1, scs_53_2, scs_53_3, sca_54, sca_55, sca_56, scs_57_0, scs_57_1, scs_57_2, scs_57_3, sca_58, sca_59, sca_60, scs_61_0, scs_61_1, scs_61_2, scs_61_3, sca_62, sca_63, sca_64, scs_65_0, scs_65_1, scs_65_2, scs_65_3, sca_66, sca_67, sca_68, scs_69_0, scs_69_1, scs_69_2, scs_69_3, sca_70, sca_71, sca_72, sc_st0, sc_st1, sc_st2, sc_sv0, sc_sv1, sc_sv2, hM_33, tv, o1, x2]
      refine ⟨by omega, by omega, by omega, fun z => absurd z (by omega), fun _ => ?_⟩
      have hl : lnG g o = 0 := by unfold lnG; rw [if_pos (by omega)]
      rw [← hQ, hl]
      exact ⟨rfl, sW_u (sW_M x tx qu) (by omega) _, rfl, fun i hi => absurd hi (by omega)⟩
    · rw [if_neg q] at ff
      obtain ⟨K, hK⟩ : ∃ K : Nat, (1 : Int) + tG g v = K := ⟨(1 + tG g v).toNat, by omega⟩
      simp only [sX6_find_0, sX6_find_1, sX6_find_5, sX6_find_6, sX6_find_9, sX6_find_10, sX6_find_11, sX6_find_14, sX6_find_15, sX6_find_18, sX6_find_19, sX6_find_20, sX6_find_23, sX6_find_24, sX6_find_25, sX6_find_29, sX6_find_30, sX6_find_32, sX6_find_33, sX6_find_34, sX6_find_37, sX6_find_38, sX6_find_39, sX6_find_42, sX6_find_45, sX6_find_46, sX6_find_47, sX6_find_50, sX6_find_51, sX6_find_52, sX6_find_53, sX6_find_54, sX6_find_58, sX6_find_59, sX6_find_62, sX6_find_63, sX6_find_66, sX6_find_68, sX6_find_69, sX6_find_70, sX6_find_71, sX6_find_74, sX6_find_76, sX6_find_77, sX6_find_78, sX6_find_82, sX6_find_83, sX6_find_86, sX6_find_89, sX6_find_90, sX6_find_91, sX6_find_92, sX6_find_93, sX6_find_96, onI_i, onR_r, onS_s, slotA_i, slotA_b, slotA_l, slotA_r, ptk_i, ptk_b, ptk_l, aldP_s, aldP_n, uc_s, uc_n, uc_uc, ua_s, ua_n, Nat.reduceEqDiff, not_false_eq_true, true_or, or_true, true_and, and_true, implies_true, Option.some.injEq, Sum.inl.injEq, Int.toNat_natCast, true_implies, not_true_eq_false, false_implies, Int.reduceEq, Int.reduceLT, Int.reduceLE, Int.reduceNeg, Int.reduceAdd, Int.reduceSub, Int.reduceMul, Int.reduceToNat, lg_0, lg_1, lg_2, lg_3, lg_4, lz_0, lz_1, lz_2, lz_3, lz_4, scs_0_0, scs_0_1, scs_0_2, scs_0_3, scs_0_4, scs_0_5, scs_0_6, scs_0_7, scs_0_8, scs_0_9, scs_1_0, scs_1_1, scs_1_2, scs_1_3, scs_1_4, scs_1_5, scs_1_6, scs_1_7, scs_1_8, scs_1_9, scs_1_10, scs_1_11, scs_1_12, scs_1_13, scs_1_14, scs_1_15, scs_1_16, scs_1_17, scs_1_18, scr_2, scr_3, scs_4_0, scs_4_1, scs_5_0, scs_5_1, scs_5_2, scs_5_3, scs_5_4, scs_6_0, scs_6_1, scs_6_2, scs_6_3, scs_7_0, scs_7_1, scs_7_2, scs_7_3, scs_8_0, scs_8_1, scs_8_2, sca_9, sca_10, sca_11, sca_12, sca_13, sca_14, sca_15, sca_16, sca_17, sca_18, sca_19, sca_20, sca_21, sca_22, sca_23, sca_24, sca_25, sca_26, sca_27, sca_28, sca_29, sca_30, sca_31, sca_32, sca_33, sca_34, sca_35, sca_36, scs_37_0, scs_37_1, scs_37_2, scs_37_3, sca_38, sca_39, sca_40, scs_41_0, scs_41_1, scs_41_2, scs_41_3, sca_42, sca_43, sca_44, scs_45_0, scs_45_1, scs_45_2, scs_45_3, sca_46, sca_47, sca_48, scs_49_0, scs_49_1, scs_49_2, scs_49_3, sca_50, sca_51, sca_52, scs_53_0, scs_53_1, scs_53_2, scs_53_3, sca_54, sca_55, sca_56, scs_57_0, scs_57_1, scs_57_2, scs_57_3, sca_58, sca_59, sca_60, scs_61_0, scs_61_1, scs_61_2, scs_61_3, sca_62, sca_63, sca_64, scs_65_0, scs_65_1, scs_65_2, scs_65_3, sca_66, sca_67, sca_68, scs_69_0, scs_69_1, scs_69_2, scs_69_3, sca_70, sca_71, sca_72, sc_st0, sc_st1, sc_st2, sc_sv0, sc_sv1, sc_sv2, hM_33, tv]
      rw [hK]
      exact ⟨by omega, go K tx qu _ hT (by omega) (by omega) (fun _ => he)⟩
  · have f0 : fG g o o = ((0 : Nat) : Int) := lst_eq (P := fun k => MR (nbF g) (nG g) (g 8) (g 9) o k o) (show g 9 o = 1 by omega) (fun j hj => absurd hj (by omega))
    exact go 0 tx qu _ hT (by omega) f0 (fun h => absurd h (by omega))
/-- the least of b - 1 - i -/
def lsM (b : Nat → Int) (row : Nat → Int) : Nat → Int
  | 0 => 1000000
  | i + 1 => if b (row i).toNat = 1000000 then lsM b row i else if b (row i).toNat - 1 - i < lsM b row i then b (row i).toNat - 1 - i else lsM b row i
theorem lsM_r {b row : Nat → Int} {n : Nat} : ∀ i : Nat, i ≤ 64 → (∀ k, k < i → ∃ v : Nat, row k = v ∧ v < n) → (∀ v, v < n → 0 ≤ b v ∧ (b v ≤ 5000 ∨ b v = 1000000)) → lsM b row i = 1000000 ∨ (-100 ≤ lsM b row i ∧ lsM b row i ≤ 5000)
  | 0, _, _, _ => Or.inl rfl
  | i + 1, h1, h2, h3 => by
    have ih := lsM_r i (by omega) (fun k hk => h2 k (by omega)) h3
    obtain ⟨v, v1, v2⟩ := h2 i (by omega)
    have := h3 v v2
    unfold lsM
    rw [v1, Int.toNat_natCast]
    split
    · exact ih
    · split <;> omega
theorem lsM_I {b row : Nat → Int} {bh l : Int} (hl : l ≤ 5000) : ∀ i : Nat, (∀ k, k < i → b (row k).toNat ≤ 5000 ∨ b (row k).toNat = 1000000) → lsI b row bh i l = if lsM b row i = 1000000 then l else if lsM b row i - bh < l then lsM b row i - bh else l
  | 0, _ => by simp [lsI, lsM]
  | i + 1, h => by
    have ih := lsM_I (b := b) (row := row) (bh := bh) hl i (fun k hk => h k (by omega))
    have hi := h i (by omega)
    have e1 : lsI b row bh (i + 1) l = if lsT (b (row i).toNat) bh i < lsI b row bh i l then lsT (b (row i).toNat) bh i else lsI b row bh i l := rfl
    have e2 : lsM b row (i + 1) = if b (row i).toNat = 1000000 then lsM b row i else if b (row i).toNat - 1 - i < lsM b row i then b (row i).toNat - 1 - i else lsM b row i := rfl
    rw [e1, e2]
    generalize b (row i).toNat = p at *
    generalize lsM b row i = m at *
    have lr : lsI b row bh i l ≤ 5000 := by rw [ih]; (repeat' split) <;> omega
    generalize lsI b row bh i l = s at *
    unfold lsT
    by_cases q : p = 1000000
    · rw [if_pos q, if_pos q, if_neg (by omega)]; exact ih
    · rw [if_neg q, if_neg q, ih]
      (repeat' split) <;> omega
theorem o_latest {x g : AH} (hg : gi g) {f : Nat} (hf : f < 5) {b row : Nat → Int} {n : Nat} (hn : n ≤ 64) (hb : ∀ v, v < nG g → x (54 + 4 * f) v = b v) (hr : ∀ v, v < nG g → 0 ≤ b v ∧ (b v ≤ 5000 ∨ b v = 1000000)) (h7 : x 7 0 = n) (h32 : ∀ i, i < n → x 32 i = row i) (hw : ∀ i, i < n → ∃ v : Nat, row i = v ∧ v < nG g) : Ok SC mX6_latestStart [ar 7, ar (53 + 4 * f)] x (fun r h2 => r = some (ai (lsM b row n)) ∧ h2 = x) := by
  have hn2 := gi_n hg
  have e1 := scF_1 hf
  have e4 := scFa_1 hf
  have lp : ∀ (j i : Nat) (a u : Int) (v4 : AV), i + j = n → u = i → a = lsM b row i → SG SC mX6_latestStart (fun r h2 => r = some (ai (lsM b row n)) ∧ h2 = x) 5 [ar 7, ar (53 + 4 * f), ai a, ai u, v4] [] x := by
    intro j
    induction j with
    | zero =>
      intro i a u v4 hi hu ha
      have e : i = n := by omega
      subst e; subst hu
      rw [sX6_latestStart_5]
      simp only [sX6_latestStart_0, sX6_latestStart_2, sX6_latestStart_3, sX6_latestStart_4, sX6_latestStart_6, sX6_latestStart_7, sX6_latestStart_10, sX6_latestStart_13, sX6_latestStart_14, sX6_latestStart_17, sX6_latestStart_18, sX6_latestStart_21, sX6_latestStart_22, sX6_latestStart_23, sX6_latestStart_24, sX6_latestStart_26, sX6_latestStart_28, sX6_latestStart_30, sX6_latestStart_33, sX6_latestStart_34, sX6_latestStart_36, sX6_latestStart_37, sX6_latestStart_38, sX6_latestStart_39, sX6_latestStart_40, sX6_latestStart_43, sX6_latestStart_44, sX6_latestStart_47, sX6_latestStart_50, sX6_latestStart_51, onI_i, onR_r, onS_s, slotA_i, slotA_b, slotA_l, slotA_r, ptk_i, ptk_b, ptk_l, aldP_s, aldP_n, uc_s, uc_n, uc_uc, ua_s, ua_n, Nat.reduceEqDiff, not_false_eq_true, true_or, or_true, true_and, and_true, implies_true, Option.some.injEq, Sum.inl.injEq, Int.toNat_natCast, true_implies, not_true_eq_false, false_implies, Int.reduceEq, Int.reduceLT, Int.reduceLE, Int.reduceNeg, Int.reduceAdd, Int.reduceSub, Int.reduceMul, Int.reduceToNat, lg_0, lg_1, lg_2, lg_3, lg_4, lz_0, lz_1, lz_2, lz_3, lz_4, scs_0_0, scs_0_1, scs_0_2, scs_0_3, scs_0_4, scs_0_5, scs_0_6, scs_0_7, scs_0_8, scs_0_9, scs_1_0, scs_1_1, scs_1_2, scs_1_3, scs_1_4, scs_1_5, scs_1_6, scs_1_7, scs_1_8, scs_1_9, scs_1_10, scs_1_11, scs_1_12, scs_1_13, scs_1_14, scs_1_15, scs_1_16, scs_1_17, scs_1_18, scr_2, scr_3, scs_4_0, scs_4_1, scs_5_0, scs_5_1, scs_5_2, scs_5_3, scs_5_4, scs_6_0, scs_6_1, scs_6_2, scs_6_3, scs_7_0, scs_7_1, scs_7_2, scs_7_3, scs_8_0, scs_8_1, scs_8_2, sca_9, sca_10, sca_11, sca_12, sca_13, sca_14, sca_15, sca_16, sca_17, sca_18, sca_19, sca_20, sca_21, sca_22, sca_23, sca_24, sca_25, sca_26, sca_27, sca_28, sca_29, sca_30, sca_31, sca_32, sca_33, sca_34, sca_35, sca_36, scs_37_0, scs_37_1, scs_37_2, scs_37_3, sca_38, sca_39, sca_40, scs_41_0, scs_41_1, scs_41_2, scs_41_3, sca_42, sca_43, sca_44, scs_45_0, scs_45_1, scs_45_2, scs_45_3, sca_46, sca_47, sca_48, scs_49_0, scs_49_1, scs_49_2, scs_49_3, sca_50, sca_51, sca_52, scs_53_0, scs_53_1, scs_53_2, scs_53_3, sca_54, sca_55, sca_56, scs_57_0, scs_57_1, scs_57_2, scs_57_3, sca_58, sca_59, sca_60, scs_61_0, scs_61_1, scs_61_2, scs_61_3, sca_62, sca_63, sca_64, scs_65_0, scs_65_1, scs_65_2, scs_65_3, sca_66, sca_67, sca_68, scs_69_0, scs_69_1, scs_69_2, scs_69_3, sca_70, sca_71, sca_72, sc_st0, sc_st1, sc_st2, sc_sv0, sc_sv1, sc_sv2, h7]
      exact ⟨by omega, by omega, fun _ => ha, fun z => absurd z (by omega)⟩
    | succ j ih =>
      intro i a u v4 hi hu ha
      subst hu
      obtain ⟨v, v1, v2⟩ := hw i (by omega)
      have r32 := h32 i (by omega)
      rw [v1] at r32
      have xv := hb v v2
      have bv := hr v v2
      have mr := lsM_r (b := b) (row := row) (n := nG g) i (by omega) (fun k hk => hw k (by omega)) hr
      have e2 : lsM b row (i + 1) = if b v = 1000000 then lsM b row i else if b v - 1 - i < lsM b row i then b v - 1 - i else lsM b row i := by
        show (if b (row i).toNat = 1000000 then lsM b row i else if b (row i).toNat - 1 - i < lsM b row i then b (row i).toNat - 1 - i else lsM b row i) = _
        rw [v1, Int.toNat_natCast]
      rw [sX6_latestStart_5]
      simp only [sX6_latestStart_0, sX6_latestStart_2, sX6_latestStart_3, sX6_latestStart_4, sX6_latestStart_6, sX6_latestStart_7, sX6_latestStart_10, sX6_latestStart_13, sX6_latestStart_14, sX6_latestStart_17, sX6_latestStart_18, sX6_latestStart_21, sX6_latestStart_22, sX6_latestStart_23, sX6_latestStart_24, sX6_latestStart_26, sX6_latestStart_28, sX6_latestStart_30, sX6_latestStart_33, sX6_latestStart_34, sX6_latestStart_36, sX6_latestStart_37, sX6_latestStart_38, sX6_latestStart_39, sX6_latestStart_40, sX6_latestStart_43, sX6_latestStart_44, sX6_latestStart_47, sX6_latestStart_50, sX6_latestStart_51, onI_i, onR_r, onS_s, slotA_i, slotA_b, slotA_l, slotA_r, ptk_i, ptk_b, ptk_l, aldP_s, aldP_n, uc_s, uc_n, uc_uc, ua_s, ua_n, Nat.reduceEqDiff, not_false_eq_true, true_or, or_true, true_and, and_true, implies_true, Option.some.injEq, Sum.inl.injEq, Int.toNat_natCast, true_implies, not_true_eq_false, false_implies, Int.reduceEq, Int.reduceLT, Int.reduceLE, Int.reduceNeg, Int.reduceAdd, Int.reduceSub, Int.reduceMul, Int.reduceToNat, lg_0, lg_1, lg_2, lg_3, lg_4, lz_0, lz_1, lz_2, lz_3, lz_4, scs_0_0, scs_0_1, scs_0_2, scs_0_3, scs_0_4, scs_0_5, scs_0_6, scs_0_7, scs_0_8, scs_0_9, scs_1_0, scs_1_1, scs_1_2, scs_1_3, scs_1_4, scs_1_5, scs_1_6, scs_1_7, scs_1_8, scs_1_9, scs_1_10, scs_1_11, scs_1_12, scs_1_13, scs_1_14, scs_1_15, scs_1_16, scs_1_17, scs_1_18, scr_2, scr_3, scs_4_0, scs_4_1, scs_5_0, scs_5_1, scs_5_2, scs_5_3, scs_5_4, scs_6_0, scs_6_1, scs_6_2, scs_6_3, scs_7_0, scs_7_1, scs_7_2, scs_7_3, scs_8_0, scs_8_1, scs_8_2, sca_9, sca_10, sca_11, sca_12, sca_13, sca_14, sca_15, sca_16, sca_17, sca_18, sca_19, sca_20, sca_21, sca_22, sca_23, sca_24, sca_25, sca_26, sca_27, sca_28, sca_29, sca_30, sca_31, sca_32, sca_33, sca_34, sca_35, sca_36, scs_37_0, scs_37_1, scs_37_2, scs_37_3, sca_38, sca_39, sca_40, scs_41_0, scs_41_1, scs_41_2, scs_41_3, sca_42, sca_43, sca_44, scs_45_0, scs_45_1, scs_45_2, scs_45_3, sca_46, sca_47, sca_48, scs_49_0, scs_49_1, scs_49_2, scs_49_3, sca_50, sca_51, sca_52, scs_53_0, scs_53_1, scs_53_2, scs_53_3, sca_54, sca_55, sca_56, scs_57_0, scs_57_1, scs_57_2, scs_57_3, sca_58, sca_59, sca_60, scs_61_0, scs_61_1, scs_61_2, scs_61_3, sca_62, sca_63, sca_64, scs_65_0, scs_65_1, scs_65_2, scs_65_3, sca_66, sca_67, sca_68, scs_69_0, scs_69_1, scs_69_2, scs_69_3, sca_70, sca_71, sca_72, sc_st0, sc_st1, sc_st2, sc_sv0, sc_sv1, sc_sv2, h7, r32, e1, e4, xv]
      refine ⟨by omega, by omega, fun z => absurd z (by omega), fun _ => ⟨by omega, by omega, by omega, by omega, fun z => ?_, fun z => ⟨(Nat.le_of_ble_eq_true rfl), by omega, by omega, ?_⟩⟩⟩
      · exact ih (i + 1) _ _ _ (by omega) rfl (by rw [e2, if_pos z]; exact ha)
      · refine ih (i + 1) _ _ _ (by omega) rfl ?_
        rw [e2, if_neg z, ha]
  refine Ok_of SC_ok (by decide +kernel) rfl (Nat.le_of_ble_eq_true rfl) ?_
  show SG SC mX6_latestStart _ 0 [ar 7, ar (53 + 4 * f), au, au, au] [] _
  simp only [sX6_latestStart_0, sX6_latestStart_2, sX6_latestStart_3, sX6_latestStart_4, sX6_latestStart_6, sX6_latestStart_7, sX6_latestStart_10, sX6_latestStart_13, sX6_latestStart_14, sX6_latestStart_17, sX6_latestStart_18, sX6_latestStart_21, sX6_latestStart_22, sX6_latestStart_23, sX6_latestStart_24, sX6_latestStart_26, sX6_latestStart_28, sX6_latestStart_30, sX6_latestStart_33, sX6_latestStart_34, sX6_latestStart_36, sX6_latestStart_37, sX6_latestStart_38, sX6_latestStart_39, sX6_latestStart_40, sX6_latestStart_43, sX6_latestStart_44, sX6_latestStart_47, sX6_latestStart_50, sX6_latestStart_51, onI_i, onR_r, onS_s, slotA_i, slotA_b, slotA_l, slotA_r, ptk_i, ptk_b, ptk_l, aldP_s, aldP_n, uc_s, uc_n, uc_uc, ua_s, ua_n, Nat.reduceEqDiff, not_false_eq_true, true_or, or_true, true_and, and_true, implies_true, Option.some.injEq, Sum.inl.injEq, Int.toNat_natCast, true_implies, not_true_eq_false, false_implies, Int.reduceEq, Int.reduceLT, Int.reduceLE, Int.reduceNeg, Int.reduceAdd, Int.reduceSub, Int.reduceMul, Int.reduceToNat, lg_0, lg_1, lg_2, lg_3, lg_4, lz_0, lz_1, lz_2, lz_3, lz_4, scs_0_0, scs_0_1, scs_0_2, scs_0_3, scs_0_4, scs_0_5, scs_0_6, scs_0_7, scs_0_8, scs_0_9, scs_1_0, scs_1_1, scs_1_2, scs_1_3, scs_1_4, scs_1_5, scs_1_6, scs_1_7, scs_1_8, scs_1_9, scs_1_10, scs_1_11, scs_1_12, scs_1_13, scs_1_14, scs_1_15, scs_1_16, scs_1_17, scs_1_18, scr_2, scr_3, scs_4_0, scs_4_1, scs_5_0, scs_5_1, scs_5_2, scs_5_3, scs_5_4, scs_6_0, scs_6_1, scs_6_2, scs_6_3, scs_7_0, scs_7_1, scs_7_2, scs_7_3, scs_8_0, scs_8_1, scs_8_2, sca_9, sca_10, sca_11, sca_12, sca_13, sca_14, sca_15, sca_16, sca_17, sca_18, sca_19, sca_20, sca_21, sca_22, sca_23, sca_24, sca_25, sca_26, sca_27, sca_28, sca_29, sca_30, sca_31, sca_32, sca_33, sca_34, sca_35, sca_36, scs_37_0, scs_37_1, scs_37_2, scs_37_3, sca_38, sca_39, sca_40, scs_41_0, scs_41_1, scs_41_2, scs_41_3, sca_42, sca_43, sca_44, scs_45_0, scs_45_1, scs_45_2, scs_45_3, sca_46, sca_47, sca_48, scs_49_0, scs_49_1, scs_49_2, scs_49_3, sca_50, sca_51, sca_52, scs_53_0, scs_53_1, scs_53_2, scs_53_3, sca_54, sca_55, sca_56, scs_57_0, scs_57_1, scs_57_2, scs_57_3, sca_58, sca_59, sca_60, scs_61_0, scs_61_1, scs_61_2, scs_61_3, sca_62, sca_63, sca_64, scs_65_0, scs_65_1, scs_65_2, scs_65_3, sca_66, sca_67, sca_68, scs_69_0, scs_69_1, scs_69_2, scs_69_3, sca_70, sca_71, sca_72, sc_st0, sc_st1, sc_st2, sc_sv0, sc_sv1, sc_sv2]
  exact lp n 0 _ 0 _ (by omega) rfl rfl
