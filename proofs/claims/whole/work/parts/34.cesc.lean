/-! the class's ways out: a queue of cells, each once, in the order of their minutes -/
def BQ (nb : Nat → Nat → Int) (n : Nat) (b sf : Nat → Int) (c : Nat) (m : Int) (cm qu : Nat → Int) (q i j : Nat) : Prop :=
  q ≤ cN (fun v => ¬ cm v = 1000000) n ∧
  (∀ p, p < q → ∃ v : Nat, v < n ∧ qu p = v ∧ (∃ k : Nat, cm v = m + 4 * k ∧ eS nb n b c m k v) ∧ cm v < b v) ∧
  (∀ p r, p ≤ r → r < q → cm (qu p).toNat ≤ cm (qu r).toNat) ∧
  (i < q → ∀ p, p < q → cm (qu p).toNat ≤ cm (qu i).toNat + 4) ∧
  (∀ v : Nat, v < n → ¬ cm v = 1000000 → ∃ p, p < q ∧ qu p = v) ∧
  (∀ p, p < q → (p < i → sf (qu p).toNat = 0) ∧ ∀ x, x < n → ((p < i ∧ ad2 nb (qu p).toNat x 4) ∨ (p = i ∧ ad2 nb (qu p).toNat x j)) → cm (qu p).toNat + 4 < b x → cm x ≤ cm (qu p).toNat + 4) ∧
  (¬ cm c = 1000000 ∧ cm c ≤ m)
section
variable {nb : Nat → Nat → Int} {n : Nat} {b sf : Nat → Int} {c : Nat} {m : Int} {cm qu : Nat → Int} {q i j : Nat}
theorem BQ_0 (hc : c < n) (hm : m < b c) (hb : ∀ v, v < n → 0 ≤ b v ∧ b v ≤ 1000000) (h1 : cm c = m) (h2 : ∀ v, v < n → ¬ v = c → cm v = 1000000) (h3 : qu 0 = c) : BQ nb n b sf c m cm qu 1 0 0 := by
  have bc := hb c hc
  refine ⟨?_, fun p hp => ?_, fun p r h4 h5 => ?_, fun _ p hp => ?_, fun v hv h4 => ?_, fun p hp => ?_, ?_⟩
  · have := cN_lt (p := fun _ => False) (q := fun v => ¬ cm v = 1000000) (y := c) (by omega) (fun z => z) n hc (fun x _ z => z.elim)
    omega
  · have e : p = 0 := by omega
    subst e
    exact ⟨c, hc, h3, ⟨0, by omega, rfl, hm⟩, by omega⟩
  · have e : p = r := by omega
    subst e; exact Int.le_refl _
  · have e : p = 0 := by omega
    subst e; omega
  · by_cases e : v = c
    · subst e; exact ⟨0, by omega, h3⟩
    · exact absurd (h2 v hv e) h4
  · have e : p = 0 := by omega
    subst e
    refine ⟨fun z => absurd z (by omega), fun x _ z => ?_⟩
    rcases z with z | ⟨_, k, z, _⟩ <;> omega
  · omega
theorem BQ_q (hb : ∀ v, v < n → 0 ≤ b v ∧ b v ≤ 1000000) (h : BQ nb n b sf c m cm qu q i j) {x : Nat} (hx : x < n) (h0 : cm x = 1000000) : q + 1 ≤ n := by
  have a := cN_lt (p := fun v => ¬ cm v = 1000000) (q := fun _ => True) (y := x) trivial (fun z => z h0) n hx (fun _ _ _ => trivial)
  have e := cN_le (fun _ => True) n
  have := h.1
  omega
theorem BQ_add (hb : ∀ v, v < n → 0 ≤ b v ∧ b v ≤ 1000000) (h : BQ nb n b sf c m cm qu q i j) (hi : i < q) (hj : j < 4) {x y : Nat} (hx : x < n) (hy : qu i = y) (hnb : nb y (2 * j) = x) (h0 : cm x = 1000000) (ht : cm y + 4 < b x) : BQ nb n b sf c m (updA cm x (cm y + 4)) (updA qu q x) (q + 1) i (j + 1) := by
  obtain ⟨a1, a2, a3, a4, a5, a6, a7⟩ := h
  have bx := hb x hx
  have y1 : (qu i).toNat = y := by omega
  have nx : ∀ v, ¬ cm v = 1000000 → ¬ v = x := fun v hv e => hv (by rw [e]; exact h0)
  have q1 : ∀ p, p < q → updA qu q x p = qu p := fun p hp => ua_n (by omega)
  have q2 : ∀ p, p < q → updA cm x (cm y + 4) (qu p).toNat = cm (qu p).toNat := by
    intro p hp
    obtain ⟨v, v1, v2, v3, v4⟩ := a2 p hp
    have := hb v v1
    rw [v2, Int.toNat_natCast]
    exact ua_n (nx v (by omega))
  have qi := q2 i hi
  have x0 : updA cm x (cm y + 4) x = cm y + 4 := ua_s
  have xq : updA qu q (x : Int) q = (x : Int) := ua_s
  have av : ad2 nb y x 4 := ⟨j, hj, hnb⟩
  have un : ∀ p, p < q → ((p < i ∧ ad2 nb (qu p).toNat x 4) ∨ (p = i ∧ ad2 nb (qu p).toNat x j)) → ¬ cm (qu p).toNat + 4 < b x := by
    intro p hp z z2
    have := (a6 p hp).2 x hx z z2
    omega
  refine ⟨?_, fun p hp => ?_, fun p r h4 h5 => ?_, fun _ p hp => ?_, fun v hv h4 => ?_, fun p hp => ?_, ?_⟩
  · have := cN_lt (p := fun v => ¬ cm v = 1000000) (q := fun v => ¬ updA cm x (cm y + 4) v = 1000000) (y := x) (by rw [x0]; omega) (fun z => z h0) n hx (fun v _ z => by rw [ua_n (nx v z)]; exact z)
    omega
  · by_cases e : p = q
    · subst e
      obtain ⟨v, v1, v2, ⟨k, v3, v4⟩, v5⟩ := a2 i hi
      have e2 : v = y := by omega
      subst e2
      refine ⟨x, hx, xq, ⟨k + 1, by rw [x0]; omega, Or.inr ⟨⟨v, v1, v4, av⟩, by omega⟩⟩, by rw [x0]; exact ht⟩
    · obtain ⟨v, v1, v2, ⟨k, v3, v4⟩, v5⟩ := a2 p (by omega)
      have e2 := hb v v1
      have e3 : updA cm x (cm y + 4) v = cm v := ua_n (nx v (by omega))
      exact ⟨v, v1, by rw [q1 p (by omega)]; exact v2, ⟨k, by rw [e3]; exact v3, v4⟩, by rw [e3]; exact v5⟩
  · by_cases e : r = q
    · subst e
      rw [xq, Int.toNat_natCast, x0]
      by_cases e2 : p = r
      · subst e2; rw [xq, Int.toNat_natCast, x0]; exact Int.le_refl _
      · rw [q1 p (by omega), q2 p (by omega), ← y1]
        exact a4 hi p (by omega)
    · rw [q1 p (by omega), q1 r (by omega), q2 p (by omega), q2 r (by omega)]
      exact a3 p r h4 (by omega)
  · rw [q1 i hi, qi]
    by_cases e : p = q
    · subst e; rw [xq, Int.toNat_natCast, x0, y1]; exact Int.le_refl _
    · rw [q1 p (by omega), q2 p (by omega)]
      exact a4 hi p (by omega)
  · by_cases e : v = x
    · subst e; exact ⟨q, by omega, xq⟩
    · rw [ua_n e] at h4
      obtain ⟨p, p1, p2⟩ := a5 v hv h4
      exact ⟨p, by omega, by rw [q1 p p1]; exact p2⟩
  · by_cases e : p = q
    · subst e
      exact ⟨fun z => absurd z (by omega), fun x2 _ z => by rcases z with ⟨z, _⟩ | ⟨z, _⟩ <;> omega⟩
    · have hp2 : p < q := by omega
      rw [q1 p hp2]
      refine ⟨(a6 p hp2).1, fun x2 hx2 z => ?_⟩
      rw [q2 p hp2]
      intro z2
      by_cases e2 : x2 = x
      · subst e2
        rw [x0]
        rcases z with z | ⟨z3, j2, z4, z5⟩
        · exact absurd z2 (un p hp2 (Or.inl z))
        · by_cases e3 : j2 = j
          · subst e3; subst z3; rw [y1]; exact Int.le_refl _
          · exact absurd z2 (un p hp2 (Or.inr ⟨z3, j2, by omega, z5⟩))
      · rw [ua_n e2]
        refine (a6 p hp2).2 x2 hx2 ?_ z2
        rcases z with z | ⟨z3, j2, z4, z5⟩
        · exact Or.inl z
        · by_cases e3 : j2 = j
          · subst e3; subst z3; rw [y1, hnb] at z5; omega
          · exact Or.inr ⟨z3, j2, by omega, z5⟩
  · rw [ua_n (nx c a7.1)]; exact a7
theorem BQ_skip (hb : ∀ v, v < n → 0 ≤ b v ∧ b v ≤ 1000000) (h : BQ nb n b sf c m cm qu q i j) (hi : i < q) {y : Nat} (hy : qu i = y) (hs : ∀ x : Nat, x < n → nb y (2 * j) = x → ¬ cm x = 1000000 ∨ ¬ cm y + 4 < b x) : BQ nb n b sf c m cm qu q i (j + 1) := by
  obtain ⟨a1, a2, a3, a4, a5, a6, a7⟩ := h
  have y1 : (qu i).toNat = y := by omega
  refine ⟨a1, a2, a3, a4, a5, fun p hp => ⟨(a6 p hp).1, fun x hx z z2 => ?_⟩, a7⟩
  rcases z with z | ⟨z3, j2, z4, z5⟩
  · exact (a6 p hp).2 x hx (Or.inl z) z2
  · by_cases e3 : j2 = j
    · subst e3; subst z3
      rw [y1] at z5 z2 ⊢
      rcases hs x hx z5 with w | w
      · obtain ⟨p2, p3, p4⟩ := a5 x hx w
        have := a4 hi p2 p3
        rw [p4, Int.toNat_natCast, y1] at this
        exact this
      · exact absurd z2 w
    · exact (a6 p hp).2 x hx (Or.inr ⟨z3, j2, by omega, z5⟩) z2
theorem BQ_next (h : BQ nb n b sf c m cm qu q i 4) (hi : i < q) (hs : sf (qu i).toNat = 0) : BQ nb n b sf c m cm qu q (i + 1) 0 := by
  obtain ⟨a1, a2, a3, a4, a5, a6, a7⟩ := h
  refine ⟨a1, a2, a3, fun hq p hp => ?_, a5, fun p hp => ⟨fun z => ?_, fun x hx z z2 => ?_⟩, a7⟩
  · have := a4 hi p hp
    have := a3 i (i + 1) (by omega) hq
    omega
  · by_cases e : p = i
    · subst e; exact hs
    · exact (a6 p hp).1 (by omega)
  · rcases z with ⟨z3, z4⟩ | ⟨z3, j2, z4, z5⟩
    · by_cases e : p = i
      · exact (a6 p hp).2 x hx (Or.inr ⟨e, z4⟩) z2
      · exact (a6 p hp).2 x hx (Or.inl ⟨by omega, z4⟩) z2
    · omega
theorem eS_pig (hn : 1 ≤ n) : ∀ k x, x < n → eS nb n b c m k x → eS nb n b c m (n - 1) x := by
  refine pig hn (fun k x h => Or.inl h) (fun k st x hx h => ?_) (fun e x hx h => ?_)
  · rcases h with h | ⟨⟨y, y1, y2, y3⟩, h4⟩
    · exact h
    · exact Or.inr ⟨⟨y, y1, st y y1 y2, y3⟩, by omega⟩
  · rcases h with h | ⟨⟨y, y1, y2, y3⟩, h4⟩
    · exact e x hx h
    · exact e y y1 y2
theorem BQ_yes (h : BQ nb n b sf c m cm qu q i j) (hi : i < q) (hs : sf (qu i).toNat = 1) : esc nb n b sf c m := by
  obtain ⟨v, v1, v2, ⟨k, v3, v4⟩, v5⟩ := h.2.1 i hi
  rw [v2, Int.toNat_natCast] at hs
  refine ⟨v, v1, ?_, hs⟩
  have := eS_m (eS_pig (by omega) k v v1 v4) 1
  rw [show n - 1 + 1 = n by omega] at this
  exact this
theorem BQ_no (hb : ∀ v, v < n → 0 ≤ b v ∧ b v ≤ 1000000) (hc : c < n) (h : BQ nb n b sf c m cm qu q i j) (hi : i = q) : ¬ esc nb n b sf c m := by
  obtain ⟨a1, a2, a3, a4, a5, a6, a7⟩ := h
  have key : ∀ (k v : Nat), v < n → eS nb n b c m k v → ¬ cm v = 1000000 ∧ cm v ≤ m + 4 * k := by
    intro k
    induction k with
    | zero =>
      intro v hv h
      rw [h.1]; exact ⟨a7.1, by have := a7.2; omega⟩
    | succ k ih =>
      intro v hv h
      rcases h with h | ⟨⟨y, y1, y2, y3⟩, h4⟩
      · have := ih v hv h
        exact ⟨this.1, by omega⟩
      · obtain ⟨i1, i2⟩ := ih y y1 y2
        obtain ⟨p, p1, p2⟩ := a5 y y1 i1
        have := (a6 p p1).2 v hv (Or.inl ⟨by omega, by rw [p2, Int.toNat_natCast]; exact y3⟩)
        rw [p2, Int.toNat_natCast] at this
        have t := this (by omega)
        have := hb v hv
        exact ⟨by omega, by omega⟩
  rintro ⟨v, v1, v2, v3⟩
  obtain ⟨p, p1, p2⟩ := a5 v v1 (key n v v1 v2).1
  have := (a6 p p1).1 (by omega)
  rw [p2, Int.toNat_natCast] at this
  omega
end
def hE (x : AH) (cm qu : Nat → Int) : AH := updC (updC x 25 cm) 24 qu
theorem hE_25 {x : AH} {cm qu : Nat → Int} : hE x cm qu 25 = cm := rfl
theorem hE_24 {x : AH} {cm qu : Nat → Int} : hE x cm qu 24 = qu := rfl
theorem hE_o {x : AH} {cm qu : Nat → Int} {k : Nat} (h1 : ¬ k = 24) (h2 : ¬ k = 25) : hE x cm qu k = x k := by unfold hE; rw [uc_n h1, uc_n h2]
theorem hE_u25 {x : AH} {cm qu f : Nat → Int} : updC (hE x cm qu) 25 f = hE x f qu := by
  funext k
  by_cases e : k = 25
  · subst e; rw [uc_s]; rfl
  · rw [uc_n e]
    by_cases e2 : k = 24
    · subst e2; rfl
    · rw [hE_o e2 e, hE_o e2 e]
theorem hE_u24 {x : AH} {cm qu f : Nat → Int} : updC (hE x cm qu) 24 f = hE x cm f := by
  funext k
  by_cases e : k = 24
  · subst e; rw [uc_s]; rfl
  · rw [uc_n e]
    by_cases e2 : k = 25
    · subst e2; rfl
    · rw [hE_o e e2, hE_o e e2]
theorem hE_rf {x : AH} : hE x (x 25) (x 24) = x := by
  funext k
  by_cases e : k = 24
  · subst e; rfl
  · by_cases e2 : k = 25
    · subst e2; rfl
    · exact hE_o e e2
theorem hE_m {x : AH} {F G Q : Nat → Int} : updC (updC (updC x 25 F) 24 Q) 25 G = hE x G Q := by
  funext k
  by_cases e : k = 24
  · subst e; rfl
  · by_cases e2 : k = 25
    · subst e2; rfl
    · rw [hE_o e e2, uc_n e2, uc_n e, uc_n e2]
theorem o_queueB {x g : AH} (hg : gi g) (hG : rG x g) {f : Nat} (hf : f < 5) {b : Nat → Int} (hx : ∀ v, v < nG g → x (54 + 4 * f) v = b v) (hb : ∀ v, v < nG g → 0 ≤ b v ∧ b v ≤ 1000000) {c : Nat} {m : Int} (hm : 0 ≤ m) {cm qu : Nat → Int} (cr : ∀ v, v < nG g → inR (cm v)) {q i y : Nat} (hB : BQ (nbF g) (nG g) b (g 7) c m cm qu q i 0) (hi : i < q) (hy : qu i = y) (hyn : y < nG g) : Ok SC mX1_queueBeside [ar 4, ar 1, ar (53 + 4 * f), ai y, ai q] (hE x cm qu) (fun r h2 => ∃ (cm2 qu2 : Nat → Int) (q2 : Nat), r = some (ai q2) ∧ h2 = hE x cm2 qu2 ∧ BQ (nbF g) (nG g) b (g 7) c m cm2 qu2 q2 i 4 ∧ q ≤ q2 ∧ qu2 i = y ∧ ∀ v, v < nG g → inR (cm2 v)) := by
  have hn := gi_n hg
  have e1 := scF_1 hf
  have e4 := scFa_1 hf
  have o18 : ∀ cm qu, hE x cm qu 18 = x 18 := fun cm qu => hE_o (by omega) (by omega)
  have oF : ∀ cm qu, hE x cm qu (54 + 4 * f) = x (54 + 4 * f) := fun cm qu => hE_o (by omega) (by omega)
  generalize hQ : (fun (r : Option AV) (h2 : AH) => ∃ (cm2 qu2 : Nat → Int) (q2 : Nat), r = some (ai q2) ∧ h2 = hE x cm2 qu2 ∧ BQ (nbF g) (nG g) b (g 7) c m cm2 qu2 q2 i 4 ∧ q ≤ q2 ∧ qu2 i = y ∧ ∀ v, v < nG g → inR (cm2 v)) = Q
  have cy : 0 ≤ cm y ∧ cm y < b y := by
    obtain ⟨v, v1, v2, ⟨k, v3, _⟩, v5⟩ := hB.2.1 i hi
    have e : v = y := by omega
    subst e; omega
  have by1 := hb y hyn
  have lp : ∀ (j d : Nat) (cm2 qu2 : Nat → Int) (q2 : Nat) (u : Int) (v8 : AV), d + j = 4 → u = 2 * (d : Int) → BQ (nbF g) (nG g) b (g 7) c m cm2 qu2 q2 i d → q ≤ q2 → qu2 i = y → cm2 y = cm y → (∀ v, v < nG g → inR (cm2 v)) → SG SC mX1_queueBeside Q 17 [ar 4, ar 1, ar (53 + 4 * f), ai y, ai q, ai q2, ai (cm y + 4), ai u, v8] [] (hE x cm2 qu2) := by
    intro j
    induction j with
    | zero =>
      intro d cm2 qu2 q2 u v8 hd hu B h1 h2 h3 h4
      have e : d = 4 := by omega
      subst e; subst hu
      rw [sX1_queueBeside_17]
      simp only [sX1_queueBeside_0, sX1_queueBeside_2, sX1_queueBeside_4, sX1_queueBeside_5, sX1_queueBeside_8, sX1_queueBeside_9, sX1_queueBeside_10, sX1_queueBeside_11, sX1_queueBeside_12, sX1_queueBeside_14, sX1_queueBeside_15, sX1_queueBeside_19, sX1_queueBeside_21, sX1_queueBeside_24, sX1_queueBeside_25, sX1_queueBeside_28, sX1_queueBeside_29, sX1_queueBeside_31, sX1_queueBeside_32, sX1_queueBeside_34, sX1_queueBeside_35, sX1_queueBeside_36, sX1_queueBeside_38, sX1_queueBeside_40, sX1_queueBeside_41, sX1_queueBeside_44, sX1_queueBeside_45, sX1_queueBeside_48, sX1_queueBeside_50, sX1_queueBeside_51, sX1_queueBeside_53, sX1_queueBeside_56, sX1_queueBeside_58, sX1_queueBeside_59, sX1_queueBeside_62, sX1_queueBeside_64, sX1_queueBeside_65, sX1_queueBeside_68, sX1_queueBeside_70, sX1_queueBeside_72, sX1_queueBeside_75, sX1_queueBeside_76, sX1_queueBeside_79, sX1_queueBeside_81, sX1_queueBeside_83, sX1_queueBeside_84, sX1_queueBeside_85, sX1_queueBeside_88, sX1_queueBeside_90, sX1_queueBeside_92, sX1_queueBeside_93, sX1_queueBeside_96, sX1_queueBeside_99, sX1_queueBeside_102, sX1_queueBeside_104, onI_i, onR_r, onS_s, slotA_i, slotA_b, slotA_l, slotA_r, ptk_i, ptk_b, ptk_l, aldP_s, aldP_n, uc_s, uc_n, uc_uc, ua_s, ua_n, Nat.reduceEqDiff, not_false_eq_true, true_or, or_true, true_and, and_true, implies_true, Option.some.injEq, Sum.inl.injEq, Int.toNat_natCast, true_implies, not_true_eq_false, false_implies, Int.reduceEq, Int.reduceLT, Int.reduceLE, Int.reduceNeg, Int.reduceAdd, Int.reduceSub, Int.reduceMul, Int.reduceToNat, lg_0, lg_1, lg_2, lg_3, lg_4, lg_5, lg_6, lg_7, lg_8, lz_0, lz_1, lz_2, lz_3, lz_4, lz_5, lz_6, lz_7, lz_8, scs_0_0, scs_0_1, scs_0_2, scs_0_3, scs_0_4, scs_0_5, scs_0_6, scs_0_7, scs_0_8, scs_0_9, scs_1_0, scs_1_1, scs_1_2, scs_1_3, scs_1_4, scs_1_5, scs_1_6, scs_1_7, scs_1_8, scs_1_9, scs_1_10, scs_1_11, scs_1_12, scs_1_13, scs_1_14, scs_1_15, scs_1_16, scs_1_17, scs_1_18, scr_2, scr_3, scs_4_0, scs_4_1, scs_5_0, scs_5_1, scs_5_2, scs_5_3, scs_5_4, scs_6_0, scs_6_1, scs_6_2, scs_6_3, scs_7_0, scs_7_1, scs_7_2, scs_7_3, scs_8_0, scs_8_1, scs_8_2, sca_9, sca_10, sca_11, sca_12, sca_13, sca_14, sca_15, sca_16, sca_17, sca_18, sca_19, sca_20, sca_21, sca_22, sca_23, sca_24, sca_25, sca_26, sca_27, sca_28, sca_29, sca_30, sca_31, sca_32, sca_33, sca_34, sca_35, sca_36, scs_37_0, scs_37_1, scs_37_2, scs_37_3, sca_38, sca_39, sca_40, scs_41_0, scs_41_1, scs_41_2, scs_41_3, sca_42, sca_43, sca_44, scs_45_0, scs_45_1, scs_45_2, scs_45_3, sca_46, sca_47, sca_48, scs_49_0, scs_49_1, scs_49_2, scs_49_3, sca_50, sca_51, sca_52, scs_53_0, scs_53_1, scs_53_2, scs_53_3, sca_54, sca_55, sca_56, scs_57_0, scs_57_1, scs_57_2, scs_57_3, sca_58, sca_59, sca_60, scs_61_0, scs_61_1, scs_61_2, scs_61_3, sca_62, sca_63, sca_64, scs_65_0, scs_65_1, scs_65_2, scs_65_3, sca_66, sca_67, sca_68, scs_69_0, scs_69_1, scs_69_2, scs_69_3, sca_70, sca_71, sca_72, sc_st0, sc_st1, sc_st2, sc_sv0, sc_sv1, sc_sv2]
      refine ⟨by omega, by omega, fun _ => ?_, fun z => absurd z (by omega)⟩
      rw [← hQ]
      exact ⟨cm2, qu2, q2, rfl, rfl, B, h1, h2, h4⟩
    | succ j ih =>
      intro d cm2 qu2 q2 u v8 hd hu B h1 h2 h3 h4
      subst hu
      have x18 := hG.2.2.2.2.2.1 y (2 * d) hyn (by omega)
      have ei : ((y : Int) * 8 + 2 * (d : Int)).toNat = 8 * y + 2 * d := by omega
      have nr := nbF_r hg y (2 * d)
      have skip : ∀ v8, (∀ z : Nat, z < nG g → nbF g y (2 * d) = z → ¬ cm2 z = 1000000 ∨ ¬ cm2 y + 4 < b z) → SG SC mX1_queueBeside Q 17 [ar 4, ar 1, ar (53 + 4 * f), ai y, ai q, ai q2, ai (cm y + 4), ai (2 * (d : Int) + 2), v8] [] (hE x cm2 qu2) := by
        intro v8 hs
        exact ih (d + 1) cm2 qu2 q2 _ _ (by omega) (by omega) (BQ_skip hb B (by omega) h2 hs) h1 h2 h3 h4
      rw [sX1_queueBeside_17]
      simp only [sX1_queueBeside_0, sX1_queueBeside_2, sX1_queueBeside_4, sX1_queueBeside_5, sX1_queueBeside_8, sX1_queueBeside_9, sX1_queueBeside_10, sX1_queueBeside_11, sX1_queueBeside_12, sX1_queueBeside_14, sX1_queueBeside_15, sX1_queueBeside_19, sX1_queueBeside_21, sX1_queueBeside_24, sX1_queueBeside_25, sX1_queueBeside_28, sX1_queueBeside_29, sX1_queueBeside_31, sX1_queueBeside_32, sX1_queueBeside_34, sX1_queueBeside_35, sX1_queueBeside_36, sX1_queueBeside_38, sX1_queueBeside_40, sX1_queueBeside_41, sX1_queueBeside_44, sX1_queueBeside_45, sX1_queueBeside_48, sX1_queueBeside_50, sX1_queueBeside_51, sX1_queueBeside_53, sX1_queueBeside_56, sX1_queueBeside_58, sX1_queueBeside_59, sX1_queueBeside_62, sX1_queueBeside_64, sX1_queueBeside_65, sX1_queueBeside_68, sX1_queueBeside_70, sX1_queueBeside_72, sX1_queueBeside_75, sX1_queueBeside_76, sX1_queueBeside_79, sX1_queueBeside_81, sX1_queueBeside_83, sX1_queueBeside_84, sX1_queueBeside_85, sX1_queueBeside_88, sX1_queueBeside_90, sX1_queueBeside_92, sX1_queueBeside_93, sX1_queueBeside_96, sX1_queueBeside_99, sX1_queueBeside_102, sX1_queueBeside_104, onI_i, onR_r, onS_s, slotA_i, slotA_b, slotA_l, slotA_r, ptk_i, ptk_b, ptk_l, aldP_s, aldP_n, uc_s, uc_n, uc_uc, ua_s, ua_n, Nat.reduceEqDiff, not_false_eq_true, true_or, or_true, true_and, and_true, implies_true, Option.some.injEq, Sum.inl.injEq, Int.toNat_natCast, true_implies, not_true_eq_false, false_implies, Int.reduceEq, Int.reduceLT, Int.reduceLE, Int.reduceNeg, Int.reduceAdd, Int.reduceSub, Int.reduceMul, Int.reduceToNat, lg_0, lg_1, lg_2, lg_3, lg_4, lg_5, lg_6, lg_7, lg_8, lz_0, lz_1, lz_2, lz_3, lz_4, lz_5, lz_6, lz_7, lz_8, scs_0_0, scs_0_1, scs_0_2, scs_0_3, scs_0_4, scs_0_5, scs_0_6, scs_0_7, scs_0_8, scs_0_9, scs_1_0, scs_1_1, scs_1_2, scs_1_3, scs_1_4, scs_1_5, scs_1_6, scs_1_7, scs_1_8, scs_1_9, scs_1_10, scs_1_11, scs_1_12, scs_1_13, scs_1_14, scs_1_15, scs_1_16, scs_1_17, scs_1_18, scr_2, scr_3, scs_4_0, scs_4_1, scs_5_0, scs_5_1, scs_5_2, scs_5_3, scs_5_4, scs_6_0, scs_6_1, scs_6_2, scs_6_3, scs_7_0, scs_7_1, scs_7_2, scs_7_3, scs_8_0, scs_8_1, scs_8_2, sca_9, sca_10, sca_11, sca_12, sca_13, sca_14, sca_15, sca_16, sca_17, sca_18, sca_19, sca_20, sca_21, sca_22, sca_23, sca_24, sca_25, sca_26, sca_27, sca_28, sca_29, sca_30, sca_31, sca_32, sca_33, sca_34, sca_35, sca_36, scs_37_0, scs_37_1, scs_37_2, scs_37_3, sca_38, sca_39, sca_40, scs_41_0, scs_41_1, scs_41_2, scs_41_3, sca_42, sca_43, sca_44, scs_45_0, scs_45_1, scs_45_2, scs_45_3, sca_46, sca_47, sca_48, scs_49_0, scs_49_1, scs_49_2, scs_49_3, sca_50, sca_51, sca_52, scs_53_0, scs_53_1, scs_53_2, scs_53_3, sca_54, sca_55, sca_56, scs_57_0, scs_57_1, scs_57_2, scs_57_3, sca_58, sca_59, sca_60, scs_61_0, scs_61_1, scs_61_2, scs_61_3, sca_62, sca_63, sca_64, scs_65_0, scs_65_1, scs_65_2, scs_65_3, sca_66, sca_67, sca_68, scs_69_0, scs_69_1, scs_69_2, scs_69_3, sca_70, sca_71, sca_72, sc_st0, sc_st1, sc_st2, sc_sv0, sc_sv1, sc_sv2, o18, oF, ei, x18, e1, e4, hE_25, hE_24]
      refine ⟨by omega, by omega, fun z => absurd z (by omega), fun _ => ⟨by omega, by omega, by omega, fun z => skip _ (fun z2 _ h => by omega), fun z => ?_⟩⟩
      generalize hto : nbF g y (2 * d) = to at *
      obtain ⟨to, rfl⟩ : ∃ z : Nat, to = z := ⟨to.toNat, by omega⟩
      have ht : to < nG g := by omega
      rw [Int.toNat_natCast]
      have xt := hx to ht
      have bt := hb to ht
      have ct := h4 to ht
      rw [xt]
      refine ⟨by omega, by omega, by omega, fun z2 => skip _ (fun z3 _ h => ?_), fun z2 => ⟨by omega, by omega, by omega, fun z3 => skip _ (fun z4 _ h => ?_), fun z3 => ?_⟩⟩
      · have e : z3 = to := by omega
        subst e; exact Or.inl z2
      · have e : z4 = to := by omega
        subst e; exact Or.inr (by omega)
      · have qn := BQ_q hb B ht (by omega)
        refine ⟨by omega, by omega, fun z => absurd z (by omega), fun _ => ⟨by omega, by omega, ?_⟩⟩
        rw [hE_u25, hE_u24]
        have B2 := BQ_add hb B (by omega) (by omega) ht h2 hto (by omega) (by omega)
        rw [h3] at B2
        refine ih (d + 1) _ _ (q2 + 1) _ _ (by omega) (by omega) B2 (by omega) (by rw [ua_n (by omega)]; exact h2) ?_ (fun v hv => ?_)
        · rw [ua_n (fun e => by subst e; omega)]; exact h3
        · by_cases e : v = to
          · subst e; rw [ua_s]; omega
          · rw [ua_n e]; exact h4 v hv
  refine Ok_of SC_ok (by decide +kernel) rfl (Nat.le_of_ble_eq_true rfl) ?_
  show SG SC mX1_queueBeside _ 0 [ar 4, ar 1, ar (53 + 4 * f), ai y, ai q, au, au, au, au] [] _
  simp only [sX1_queueBeside_0, sX1_queueBeside_2, sX1_queueBeside_4, sX1_queueBeside_5, sX1_queueBeside_8, sX1_queueBeside_9, sX1_queueBeside_10, sX1_queueBeside_11, sX1_queueBeside_12, sX1_queueBeside_14, sX1_queueBeside_15, sX1_queueBeside_19, sX1_queueBeside_21, sX1_queueBeside_24, sX1_queueBeside_25, sX1_queueBeside_28, sX1_queueBeside_29, sX1_queueBeside_31, sX1_queueBeside_32, sX1_queueBeside_34, sX1_queueBeside_35, sX1_queueBeside_36, sX1_queueBeside_38, sX1_queueBeside_40, sX1_queueBeside_41, sX1_queueBeside_44, sX1_queueBeside_45, sX1_queueBeside_48, sX1_queueBeside_50, sX1_queueBeside_51, sX1_queueBeside_53, sX1_queueBeside_56, sX1_queueBeside_58, sX1_queueBeside_59, sX1_queueBeside_62, sX1_queueBeside_64, sX1_queueBeside_65, sX1_queueBeside_68, sX1_queueBeside_70, sX1_queueBeside_72, sX1_queueBeside_75, sX1_queueBeside_76, sX1_queueBeside_79, sX1_queueBeside_81, sX1_queueBeside_83, sX1_queueBeside_84, sX1_queueBeside_85, sX1_queueBeside_88, sX1_queueBeside_90, sX1_queueBeside_92, sX1_queueBeside_93, sX1_queueBeside_96, sX1_queueBeside_99, sX1_queueBeside_102, sX1_queueBeside_104, onI_i, onR_r, onS_s, slotA_i, slotA_b, slotA_l, slotA_r, ptk_i, ptk_b, ptk_l, aldP_s, aldP_n, uc_s, uc_n, uc_uc, ua_s, ua_n, Nat.reduceEqDiff, not_false_eq_true, true_or, or_true, true_and, and_true, implies_true, Option.some.injEq, Sum.inl.injEq, Int.toNat_natCast, true_implies, not_true_eq_false, false_implies, Int.reduceEq, Int.reduceLT, Int.reduceLE, Int.reduceNeg, Int.reduceAdd, Int.reduceSub, Int.reduceMul, Int.reduceToNat, lg_0, lg_1, lg_2, lg_3, lg_4, lg_5, lg_6, lg_7, lg_8, lz_0, lz_1, lz_2, lz_3, lz_4, lz_5, lz_6, lz_7, lz_8, scs_0_0, scs_0_1, scs_0_2, scs_0_3, scs_0_4, scs_0_5, scs_0_6, scs_0_7, scs_0_8, scs_0_9, scs_1_0, scs_1_1, scs_1_2, scs_1_3, scs_1_4, scs_1_5, scs_1_6, scs_1_7, scs_1_8, scs_1_9, scs_1_10, scs_1_11, scs_1_12, scs_1_13, scs_1_14, scs_1_15, scs_1_16, scs_1_17, scs_1_18, scr_2, scr_3, scs_4_0, scs_4_1, scs_5_0, scs_5_1, scs_5_2, scs_5_3, scs_5_4, scs_6_0, scs_6_1, scs_6_2, scs_6_3, scs_7_0, scs_7_1, scs_7_2, scs_7_3, scs_8_0, scs_8_1, scs_8_2, sca_9, sca_10, sca_11, sca_12, sca_13, sca_14, sca_15, sca_16, sca_17, sca_18, sca_19, sca_20, sca_21, sca_22, sca_23, sca_24, sca_25, sca_26, sca_27, sca_28, sca_29, sca_30, sca_31, sca_32, sca_33, sca_34, sca_35, sca_36, scs_37_0, scs_37_1, scs_37_2, scs_37_3, sca_38, sca_39, sca_40, scs_41_0, scs_41_1, scs_41_2, scs_41_3, sca_42, sca_43, sca_44, scs_45_0, scs_45_1, scs_45_2, scs_45_3, sca_46, sca_47, sca_48, scs_49_0, scs_49_1, scs_49_2, scs_49_3, sca_50, sca_51, sca_52, scs_53_0, scs_53_1, scs_53_2, scs_53_3, sca_54, sca_55, sca_56, scs_57_0, scs_57_1, scs_57_2, scs_57_3, sca_58, sca_59, sca_60, scs_61_0, scs_61_1, scs_61_2, scs_61_3, sca_62, sca_63, sca_64, scs_65_0, scs_65_1, scs_65_2, scs_65_3, sca_66, sca_67, sca_68, scs_69_0, scs_69_1, scs_69_2, scs_69_3, sca_70, sca_71, sca_72, sc_st0, sc_st1, sc_st2, sc_sv0, sc_sv1, sc_sv2, hE_25]
  exact ⟨by omega, lp 4 0 cm qu q 0 _ rfl rfl hB (Nat.le_refl q) hy rfl cr⟩
theorem o_leads {x g : AH} (hg : gi g) (hG : rG x g) {f : Nat} (hf : f < 5) {b : Nat → Int} (hx : ∀ v, v < nG g → x (54 + 4 * f) v = b v) (hb : ∀ v, v < nG g → 0 ≤ b v ∧ b v ≤ 1000000) {c : Nat} (hc : c < nG g) {m : Int} (hm : 0 ≤ m ∧ m ≤ 6000) : Ok SC mX1_leads [ar 4, ar 1, ar (53 + 4 * f), ai c, ai m] x (fun r h2 => r = some (ai (clI (esc (nbF g) (nG g) b (g 7) c m))) ∧ ∃ cm qu : Nat → Int, h2 = hE x cm qu) := by
  have hn := gi_n hg
  have e1 := scF_1 hf
  have e4 := scFa_1 hf
  have o15 : ∀ cm qu, hE x cm qu 15 = x 15 := fun cm qu => hE_o (by omega) (by omega)
  have xc := hx c hc
  have bc := hb c hc
  generalize hQ : (fun (r : Option AV) (h2 : AH) => r = some (ai (clI (esc (nbF g) (nG g) b (g 7) c m))) ∧ ∃ cm qu : Nat → Int, h2 = hE x cm qu) = Q
  have lp : ∀ (j i : Nat) (cm qu : Nat → Int) (q : Nat) (u : Int), i + j = nG g → u = i → i ≤ q → BQ (nbF g) (nG g) b (g 7) c m cm qu q i 0 → (∀ v, v < nG g → inR (cm v)) → SG SC mX1_leads Q 43 [ar 4, ar 1, ar (53 + 4 * f), ai c, ai m, ai q, ai u] [] (hE x cm qu) := by
    intro j
    have qn : ∀ {cm qu : Nat → Int} {q i d : Nat}, BQ (nbF g) (nG g) b (g 7) c m cm qu q i d → q ≤ nG g := by
      intro cm qu q i d B
      have := B.1
      have := cN_le (fun v => ¬ cm v = 1000000) (nG g)
      omega
    induction j with
    | zero =>
      intro i cm qu q u hi hu hq B cr
      have q1 := qn B
      subst hu
      rw [sX1_leads_43]
      simp only [sX1_leads_0, sX1_leads_2, sX1_leads_3, sX1_leads_6, sX1_leads_7, sX1_leads_8, sX1_leads_11, sX1_leads_12, sX1_leads_13, sX1_leads_14, sX1_leads_17, sX1_leads_22, sX1_leads_23, sX1_leads_26, sX1_leads_27, sX1_leads_28, sX1_leads_29, sX1_leads_30, sX1_leads_33, sX1_leads_34, sX1_leads_36, sX1_leads_37, sX1_leads_38, sX1_leads_40, sX1_leads_41, sX1_leads_45, sX1_leads_47, sX1_leads_50, sX1_leads_52, sX1_leads_54, sX1_leads_57, sX1_leads_58, sX1_leads_61, sX1_leads_62, sX1_leads_65, sX1_leads_67, sX1_leads_68, sX1_leads_69, sX1_leads_72, sX1_leads_73, sX1_leads_74, sX1_leads_75, sX1_leads_76, sX1_leads_77, sX1_leads_78, sX1_leads_81, sX1_leads_83, sX1_leads_84, sX1_leads_89, sX1_leads_91, sX1_leads_94, sX1_leads_98, onI_i, onR_r, onS_s, slotA_i, slotA_b, slotA_l, slotA_r, ptk_i, ptk_b, ptk_l, aldP_s, aldP_n, uc_s, uc_n, uc_uc, ua_s, ua_n, Nat.reduceEqDiff, not_false_eq_true, true_or, or_true, true_and, and_true, implies_true, Option.some.injEq, Sum.inl.injEq, Int.toNat_natCast, true_implies, not_true_eq_false, false_implies, Int.reduceEq, Int.reduceLT, Int.reduceLE, Int.reduceNeg, Int.reduceAdd, Int.reduceSub, Int.reduceMul, Int.reduceToNat, lg_0, lg_1, lg_2, lg_3, lg_4, lg_5, lg_6, lz_0, lz_1, lz_2, lz_3, lz_4, lz_5, lz_6, scs_0_0, scs_0_1, scs_0_2, scs_0_3, scs_0_4, scs_0_5, scs_0_6, scs_0_7, scs_0_8, scs_0_9, scs_1_0, scs_1_1, scs_1_2, scs_1_3, scs_1_4, scs_1_5, scs_1_6, scs_1_7, scs_1_8, scs_1_9, scs_1_10, scs_1_11, scs_1_12, scs_1_13, scs_1_14, scs_1_15, scs_1_16, scs_1_17, scs_1_18, scr_2, scr_3, scs_4_0, scs_4_1, scs_5_0, scs_5_1, scs_5_2, scs_5_3, scs_5_4, scs_6_0, scs_6_1, scs_6_2, scs_6_3, scs_7_0, scs_7_1, scs_7_2, scs_7_3, scs_8_0, scs_8_1, scs_8_2, sca_9, sca_10, sca_11, sca_12, sca_13, sca_14, sca_15, sca_16, sca_17, sca_18, sca_19, sca_20, sca_21, sca_22, sca_23, sca_24, sca_25, sca_26, sca_27, sca_28, sca_29, sca_30, sca_31, sca_32, sca_33, sca_34, sca_35, sca_36, scs_37_0, scs_37_1, scs_37_2, scs_37_3, sca_38, sca_39, sca_40, scs_41_0, scs_41_1, scs_41_2, scs_41_3, sca_42, sca_43, sca_44, scs_45_0, scs_45_1, scs_45_2, scs_45_3, sca_46, sca_47, sca_48, scs_49_0, scs_49_1, scs_49_2, scs_49_3, sca_50, sca_51, sca_52, scs_53_0, scs_53_1, scs_53_2, scs_53_3, sca_54, sca_55, sca_56, scs_57_0, scs_57_1, scs_57_2, scs_57_3, sca_58, sca_59, sca_60, scs_61_0, scs_61_1, scs_61_2, scs_61_3, sca_62, sca_63, sca_64, scs_65_0, scs_65_1, scs_65_2, scs_65_3, sca_66, sca_67, sca_68, scs_69_0, scs_69_1, scs_69_2, scs_69_3, sca_70, sca_71, sca_72, sc_st0, sc_st1, sc_st2, sc_sv0, sc_sv1, sc_sv2]
      refine ⟨by omega, by omega, fun _ => ?_, fun z => absurd z (by omega)⟩
      simp only [sX1_leads_0, sX1_leads_2, sX1_leads_3, sX1_leads_6, sX1_leads_7, sX1_leads_8, sX1_leads_11, sX1_leads_12, sX1_leads_13, sX1_leads_14, sX1_leads_17, sX1_leads_22, sX1_leads_23, sX1_leads_26, sX1_leads_27, sX1_leads_28, sX1_leads_29, sX1_leads_30, sX1_leads_33, sX1_leads_34, sX1_leads_36, sX1_leads_37, sX1_leads_38, sX1_leads_40, sX1_leads_41, sX1_leads_45, sX1_leads_47, sX1_leads_50, sX1_leads_52, sX1_leads_54, sX1_leads_57, sX1_leads_58, sX1_leads_61, sX1_leads_62, sX1_leads_65, sX1_leads_67, sX1_leads_68, sX1_leads_69, sX1_leads_72, sX1_leads_73, sX1_leads_74, sX1_leads_75, sX1_leads_76, sX1_leads_77, sX1_leads_78, sX1_leads_81, sX1_leads_83, sX1_leads_84, sX1_leads_89, sX1_leads_91, sX1_leads_94, sX1_leads_97, sX1_leads_98, onI_i, onR_r, onS_s, slotA_i, slotA_b, slotA_l, slotA_r, ptk_i, ptk_b, ptk_l, aldP_s, aldP_n, uc_s, uc_n, uc_uc, ua_s, ua_n, Nat.reduceEqDiff, not_false_eq_true, true_or, or_true, true_and, and_true, implies_true, Option.some.injEq, Sum.inl.injEq, Int.toNat_natCast, true_implies, not_true_eq_false, false_implies, Int.reduceEq, Int.reduceLT, Int.reduceLE, Int.reduceNeg, Int.reduceAdd, Int.reduceSub, Int.reduceMul, Int.reduceToNat, lg_0, lg_1, lg_2, lg_3, lg_4, lg_5, lg_6, lz_0, lz_1, lz_2, lz_3, lz_4, lz_5, lz_6, scs_0_0, scs_0_1, scs_0_2, scs_0_3, scs_0_4, scs_0_5, scs_0_6, scs_0_7, scs_0_8, scs_0_9, scs_1_0, scs_1_1, scs_1_2, scs_1_3, scs_1_4, scs_1_5, scs_1_6, scs_1_7, scs_1_8, scs_1_9, scs_1_10, scs_1_11, scs_1_12, scs_1_13, scs_1_14, scs_1_15, scs_1_16, scs_1_17, scs_1_18, scr_2, scr_3, scs_4_0, scs_4_1, scs_5_0, scs_5_1, scs_5_2, scs_5_3, scs_5_4, scs_6_0, scs_6_1, scs_6_2, scs_6_3, scs_7_0, scs_7_1, scs_7_2, scs_7_3, scs_8_0, scs_8_1, scs_8_2, sca_9, sca_10, sca_11, sca_12, sca_13, sca_14, sca_15, sca_16, sca_17, sca_18, sca_19, sca_20, sca_21, sca_22, sca_23, sca_24, sca_25, sca_26, sca_27, sca_28, sca_29, sca_30, sca_31, sca_32, sca_33, sca_34, sca_35, sca_36, scs_37_0, scs_37_1, scs_37_2, scs_37_3, sca_38, sca_39, sca_40, scs_41_0, scs_41_1, scs_41_2, scs_41_3, sca_42, sca_43, sca_44, scs_45_0, scs_45_1, scs_45_2, scs_45_3, sca_46, sca_47, sca_48, scs_49_0, scs_49_1, scs_49_2, scs_49_3, sca_50, sca_51, sca_52, scs_53_0, scs_53_1, scs_53_2, scs_53_3, sca_54, sca_55, sca_56, scs_57_0, scs_57_1, scs_57_2, scs_57_3, sca_58, sca_59, sca_60, scs_61_0, scs_61_1, scs_61_2, scs_61_3, sca_62, sca_63, sca_64, scs_65_0, scs_65_1, scs_65_2, scs_65_3, sca_66, sca_67, sca_68, scs_69_0, scs_69_1, scs_69_2, scs_69_3, sca_70, sca_71, sca_72, sc_st0, sc_st1, sc_st2, sc_sv0, sc_sv1, sc_sv2]
      rw [← hQ, clI_f (BQ_no hb hc B (by omega))]
      exact ⟨rfl, cm, qu, rfl⟩
    | succ j ih =>
      intro i cm qu q u hi hu hq B cr
      have q1 := qn B
      subst hu
      rw [sX1_leads_43]
      by_cases hiq : i = q
      · simp only [sX1_leads_0, sX1_leads_2, sX1_leads_3, sX1_leads_6, sX1_leads_7, sX1_leads_8, sX1_leads_11, sX1_leads_12, sX1_leads_13, sX1_leads_14, sX1_leads_17, sX1_leads_22, sX1_leads_23, sX1_leads_26, sX1_leads_27, sX1_leads_28, sX1_leads_29, sX1_leads_30, sX1_leads_33, sX1_leads_34, sX1_leads_36, sX1_leads_37, sX1_leads_38, sX1_leads_40, sX1_leads_41, sX1_leads_45, sX1_leads_47, sX1_leads_52, sX1_leads_54, sX1_leads_57, sX1_leads_58, sX1_leads_61, sX1_leads_62, sX1_leads_65, sX1_leads_67, sX1_leads_68, sX1_leads_69, sX1_leads_72, sX1_leads_73, sX1_leads_74, sX1_leads_75, sX1_leads_76, sX1_leads_77, sX1_leads_78, sX1_leads_81, sX1_leads_83, sX1_leads_84, sX1_leads_89, sX1_leads_91, sX1_leads_94, sX1_leads_98, onI_i, onR_r, onS_s, slotA_i, slotA_b, slotA_l, slotA_r, ptk_i, ptk_b, ptk_l, aldP_s, aldP_n, uc_s, uc_n, uc_uc, ua_s, ua_n, Nat.reduceEqDiff, not_false_eq_true, true_or, or_true, true_and, and_true, implies_true, Option.some.injEq, Sum.inl.injEq, Int.toNat_natCast, true_implies, not_true_eq_false, false_implies, Int.reduceEq, Int.reduceLT, Int.reduceLE, Int.reduceNeg, Int.reduceAdd, Int.reduceSub, Int.reduceMul, Int.reduceToNat, lg_0, lg_1, lg_2, lg_3, lg_4, lg_5, lg_6, lz_0, lz_1, lz_2, lz_3, lz_4, lz_5, lz_6, scs_0_0, scs_0_1, scs_0_2, scs_0_3, scs_0_4, scs_0_5, scs_0_6, scs_0_7, scs_0_8, scs_0_9, scs_1_0, scs_1_1, scs_1_2, scs_1_3, scs_1_4, scs_1_5, scs_1_6, scs_1_7, scs_1_8, scs_1_9, scs_1_10, scs_1_11, scs_1_12, scs_1_13, scs_1_14, scs_1_15, scs_1_16, scs_1_17, scs_1_18, scr_2, scr_3, scs_4_0, scs_4_1, scs_5_0, scs_5_1, scs_5_2, scs_5_3, scs_5_4, scs_6_0, scs_6_1, scs_6_2, scs_6_3, scs_7_0, scs_7_1, scs_7_2, scs_7_3, scs_8_0, scs_8_1, scs_8_2, sca_9, sca_10, sca_11, sca_12, sca_13, sca_14, sca_15, sca_16, sca_17, sca_18, sca_19, sca_20, sca_21, sca_22, sca_23, sca_24, sca_25, sca_26, sca_27, sca_28, sca_29, sca_30, sca_31, sca_32, sca_33, sca_34, sca_35, sca_36, scs_37_0, scs_37_1, scs_37_2, scs_37_3, sca_38, sca_39, sca_40, scs_41_0, scs_41_1, scs_41_2, scs_41_3, sca_42, sca_43, sca_44, scs_45_0, scs_45_1, scs_45_2, scs_45_3, sca_46, sca_47, sca_48, scs_49_0, scs_49_1, scs_49_2, scs_49_3, sca_50, sca_51, sca_52, scs_53_0, scs_53_1, scs_53_2, scs_53_3, sca_54, sca_55, sca_56, scs_57_0, scs_57_1, scs_57_2, scs_57_3, sca_58, sca_59, sca_60, scs_61_0, scs_61_1, scs_61_2, scs_61_3, sca_62, sca_63, sca_64, scs_65_0, scs_65_1, scs_65_2, scs_65_3, sca_66, sca_67, sca_68, scs_69_0, scs_69_1, scs_69_2, scs_69_3, sca_70, sca_71, sca_72, sc_st0, sc_st1, sc_st2, sc_sv0, sc_sv1, sc_sv2]
        refine ⟨by omega, by omega, fun _ => ?_, fun z => absurd z (by omega)⟩
        simp only [sX1_leads_0, sX1_leads_2, sX1_leads_3, sX1_leads_6, sX1_leads_7, sX1_leads_8, sX1_leads_11, sX1_leads_12, sX1_leads_13, sX1_leads_14, sX1_leads_17, sX1_leads_22, sX1_leads_23, sX1_leads_26, sX1_leads_27, sX1_leads_28, sX1_leads_29, sX1_leads_30, sX1_leads_33, sX1_leads_34, sX1_leads_36, sX1_leads_37, sX1_leads_38, sX1_leads_40, sX1_leads_41, sX1_leads_45, sX1_leads_47, sX1_leads_50, sX1_leads_52, sX1_leads_54, sX1_leads_57, sX1_leads_58, sX1_leads_61, sX1_leads_62, sX1_leads_65, sX1_leads_67, sX1_leads_68, sX1_leads_69, sX1_leads_72, sX1_leads_73, sX1_leads_74, sX1_leads_75, sX1_leads_76, sX1_leads_77, sX1_leads_78, sX1_leads_81, sX1_leads_83, sX1_leads_84, sX1_leads_89, sX1_leads_91, sX1_leads_94, sX1_leads_97, sX1_leads_98, onI_i, onR_r, onS_s, slotA_i, slotA_b, slotA_l, slotA_r, ptk_i, ptk_b, ptk_l, aldP_s, aldP_n, uc_s, uc_n, uc_uc, ua_s, ua_n, Nat.reduceEqDiff, not_false_eq_true, true_or, or_true, true_and, and_true, implies_true, Option.some.injEq, Sum.inl.injEq, Int.toNat_natCast, true_implies, not_true_eq_false, false_implies, Int.reduceEq, Int.reduceLT, Int.reduceLE, Int.reduceNeg, Int.reduceAdd, Int.reduceSub, Int.reduceMul, Int.reduceToNat, lg_0, lg_1, lg_2, lg_3, lg_4, lg_5, lg_6, lz_0, lz_1, lz_2, lz_3, lz_4, lz_5, lz_6, scs_0_0, scs_0_1, scs_0_2, scs_0_3, scs_0_4, scs_0_5, scs_0_6, scs_0_7, scs_0_8, scs_0_9, scs_1_0, scs_1_1, scs_1_2, scs_1_3, scs_1_4, scs_1_5, scs_1_6, scs_1_7, scs_1_8, scs_1_9, scs_1_10, scs_1_11, scs_1_12, scs_1_13, scs_1_14, scs_1_15, scs_1_16, scs_1_17, scs_1_18, scr_2, scr_3, scs_4_0, scs_4_1, scs_5_0, scs_5_1, scs_5_2, scs_5_3, scs_5_4, scs_6_0, scs_6_1, scs_6_2, scs_6_3, scs_7_0, scs_7_1, scs_7_2, scs_7_3, scs_8_0, scs_8_1, scs_8_2, sca_9, sca_10, sca_11, sca_12, sca_13, sca_14, sca_15, sca_16, sca_17, sca_18, sca_19, sca_20, sca_21, sca_22, sca_23, sca_24, sca_25, sca_26, sca_27, sca_28, sca_29, sca_30, sca_31, sca_32, sca_33, sca_34, sca_35, sca_36, scs_37_0, scs_37_1, scs_37_2, scs_37_3, sca_38, sca_39, sca_40, scs_41_0, scs_41_1, scs_41_2, scs_41_3, sca_42, sca_43, sca_44, scs_45_0, scs_45_1, scs_45_2, scs_45_3, sca_46, sca_47, sca_48, scs_49_0, scs_49_1, scs_49_2, scs_49_3, sca_50, sca_51, sca_52, scs_53_0, scs_53_1, scs_53_2, scs_53_3, sca_54, sca_55, sca_56, scs_57_0, scs_57_1, scs_57_2, scs_57_3, sca_58, sca_59, sca_60, scs_61_0, scs_61_1, scs_61_2, scs_61_3, sca_62, sca_63, sca_64, scs_65_0, scs_65_1, scs_65_2, scs_65_3, sca_66, sca_67, sca_68, scs_69_0, scs_69_1, scs_69_2, scs_69_3, sca_70, sca_71, sca_72, sc_st0, sc_st1, sc_st2, sc_sv0, sc_sv1, sc_sv2]
        rw [← hQ, clI_f (BQ_no hb hc B hiq)]
        exact ⟨rfl, cm, qu, rfl⟩
      · obtain ⟨y, y1, y2, y3, y4⟩ := B.2.1 i (by omega)
        have g7 := (hg.2.1 y (by omega)).2.2.2.2.2.2.1
        have x15 := (hG.2.2.2.2.1 y (by omega)).2.2.2.2.2.1
        simp only [sX1_leads_0, sX1_leads_2, sX1_leads_3, sX1_leads_6, sX1_leads_7, sX1_leads_8, sX1_leads_11, sX1_leads_12, sX1_leads_13, sX1_leads_14, sX1_leads_17, sX1_leads_22, sX1_leads_23, sX1_leads_26, sX1_leads_27, sX1_leads_28, sX1_leads_29, sX1_leads_30, sX1_leads_33, sX1_leads_34, sX1_leads_36, sX1_leads_37, sX1_leads_38, sX1_leads_40, sX1_leads_41, sX1_leads_45, sX1_leads_47, sX1_leads_50, sX1_leads_52, sX1_leads_54, sX1_leads_57, sX1_leads_58, sX1_leads_61, sX1_leads_62, sX1_leads_65, sX1_leads_67, sX1_leads_68, sX1_leads_69, sX1_leads_72, sX1_leads_73, sX1_leads_74, sX1_leads_75, sX1_leads_76, sX1_leads_77, sX1_leads_78, sX1_leads_81, sX1_leads_83, sX1_leads_84, sX1_leads_89, sX1_leads_91, sX1_leads_94, sX1_leads_98, onI_i, onR_r, onS_s, slotA_i, slotA_b, slotA_l, slotA_r, ptk_i, ptk_b, ptk_l, aldP_s, aldP_n, uc_s, uc_n, uc_uc, ua_s, ua_n, Nat.reduceEqDiff, not_false_eq_true, true_or, or_true, true_and, and_true, implies_true, Option.some.injEq, Sum.inl.injEq, Int.toNat_natCast, true_implies, not_true_eq_false, false_implies, Int.reduceEq, Int.reduceLT, Int.reduceLE, Int.reduceNeg, Int.reduceAdd, Int.reduceSub, Int.reduceMul, Int.reduceToNat, lg_0, lg_1, lg_2, lg_3, lg_4, lg_5, lg_6, lz_0, lz_1, lz_2, lz_3, lz_4, lz_5, lz_6, scs_0_0, scs_0_1, scs_0_2, scs_0_3, scs_0_4, scs_0_5, scs_0_6, scs_0_7, scs_0_8, scs_0_9, scs_1_0, scs_1_1, scs_1_2, scs_1_3, scs_1_4, scs_1_5, scs_1_6, scs_1_7, scs_1_8, scs_1_9, scs_1_10, scs_1_11, scs_1_12, scs_1_13, scs_1_14, scs_1_15, scs_1_16, scs_1_17, scs_1_18, scr_2, scr_3, scs_4_0, scs_4_1, scs_5_0, scs_5_1, scs_5_2, scs_5_3, scs_5_4, scs_6_0, scs_6_1, scs_6_2, scs_6_3, scs_7_0, scs_7_1, scs_7_2, scs_7_3, scs_8_0, scs_8_1, scs_8_2, sca_9, sca_10, sca_11, sca_12, sca_13, sca_14, sca_15, sca_16, sca_17, sca_18, sca_19, sca_20, sca_21, sca_22, sca_23, sca_24, sca_25, sca_26, sca_27, sca_28, sca_29, sca_30, sca_31, sca_32, sca_33, sca_34, sca_35, sca_36, scs_37_0, scs_37_1, scs_37_2, scs_37_3, sca_38, sca_39, sca_40, scs_41_0, scs_41_1, scs_41_2, scs_41_3, sca_42, sca_43, sca_44, scs_45_0, scs_45_1, scs_45_2, scs_45_3, sca_46, sca_47, sca_48, scs_49_0, scs_49_1, scs_49_2, scs_49_3, sca_50, sca_51, sca_52, scs_53_0, scs_53_1, scs_53_2, scs_53_3, sca_54, sca_55, sca_56, scs_57_0, scs_57_1, scs_57_2, scs_57_3, sca_58, sca_59, sca_60, scs_61_0, scs_61_1, scs_61_2, scs_61_3, sca_62, sca_63, sca_64, scs_65_0, scs_65_1, scs_65_2, scs_65_3, sca_66, sca_67, sca_68, scs_69_0, scs_69_1, scs_69_2, scs_69_3, sca_70, sca_71, sca_72, sc_st0, sc_st1, sc_st2, sc_sv0, sc_sv1, sc_sv2, hE_24, o15, y2, x15]
        refine ⟨by omega, by omega, fun z => absurd z (by omega), fun _ => ⟨by omega, by omega, fun z => absurd z (by omega), fun _ => ⟨by omega, by omega, by omega, fun z => ⟨by omega, ?_⟩, fun z => ?_⟩⟩⟩
        · refine kX1_leads_86 (Nat.le_of_ble_eq_true rfl) rfl (o_queueB hg hG hf hx hb hm.1 cr B (by omega) y2 y1) (fun r h' w => ?_)
          obtain ⟨cm2, qu2, q2, rfl, rfl, B2, w1, w2, w3⟩ := w
          show SG SC mX1_leads _ 89 _ [_] (hE x cm2 qu2)
          simp only [sX1_leads_0, sX1_leads_2, sX1_leads_3, sX1_leads_6, sX1_leads_7, sX1_leads_8, sX1_leads_11, sX1_leads_12, sX1_leads_13, sX1_leads_14, sX1_leads_17, sX1_leads_22, sX1_leads_23, sX1_leads_26, sX1_leads_27, sX1_leads_28, sX1_leads_29, sX1_leads_30, sX1_leads_33, sX1_leads_34, sX1_leads_36, sX1_leads_37, sX1_leads_38, sX1_leads_40, sX1_leads_41, sX1_leads_45, sX1_leads_47, sX1_leads_50, sX1_leads_52, sX1_leads_54, sX1_leads_57, sX1_leads_58, sX1_leads_61, sX1_leads_62, sX1_leads_65, sX1_leads_67, sX1_leads_68, sX1_leads_69, sX1_leads_72, sX1_leads_73, sX1_leads_74, sX1_leads_75, sX1_leads_76, sX1_leads_77, sX1_leads_78, sX1_leads_81, sX1_leads_83, sX1_leads_84, sX1_leads_89, sX1_leads_91, sX1_leads_94, sX1_leads_97, sX1_leads_98, onI_i, onR_r, onS_s, slotA_i, slotA_b, slotA_l, slotA_r, ptk_i, ptk_b, ptk_l, aldP_s, aldP_n, uc_s, uc_n, uc_uc, ua_s, ua_n, Nat.reduceEqDiff, not_false_eq_true, true_or, or_true, true_and, and_true, implies_true, Option.some.injEq, Sum.inl.injEq, Int.toNat_natCast, true_implies, not_true_eq_false, false_implies, Int.reduceEq, Int.reduceLT, Int.reduceLE, Int.reduceNeg, Int.reduceAdd, Int.reduceSub, Int.reduceMul, Int.reduceToNat, lg_0, lg_1, lg_2, lg_3, lg_4, lg_5, lg_6, lz_0, lz_1, lz_2, lz_3, lz_4, lz_5, lz_6, scs_0_0, scs_0_1, scs_0_2, scs_0_3, scs_0_4, scs_0_5, scs_0_6, scs_0_7, scs_0_8, scs_0_9, scs_1_0, scs_1_1, scs_1_2, scs_1_3, scs_1_4, scs_1_5, scs_1_6, scs_1_7, scs_1_8, scs_1_9, scs_1_10, scs_1_11, scs_1_12, scs_1_13, scs_1_14, scs_1_15, scs_1_16, scs_1_17, scs_1_18, scr_2, scr_3, scs_4_0, scs_4_1, scs_5_0, scs_5_1, scs_5_2, scs_5_3, scs_5_4, scs_6_0, scs_6_1, scs_6_2, scs_6_3, scs_7_0, scs_7_1, scs_7_2, scs_7_3, scs_8_0, scs_8_1, scs_8_2, sca_9, sca_10, sca_11, sca_12, sca_13, sca_14, sca_15, sca_16, sca_17, sca_18, sca_19, sca_20, sca_21, sca_22, sca_23, sca_24, sca_25, sca_26, sca_27, sca_28, sca_29, sca_30, sca_31, sca_32, sca_33, sca_34, sca_35, sca_36, scs_37_0, scs_37_1, scs_37_2, scs_37_3, sca_38, sca_39, sca_40, scs_41_0, scs_41_1, scs_41_2, scs_41_3, sca_42, sca_43, sca_44, scs_45_0, scs_45_1, scs_45_2, scs_45_3, sca_46, sca_47, sca_48, scs_49_0, scs_49_1, scs_49_2, scs_49_3, sca_50, sca_51, sca_52, scs_53_0, scs_53_1, scs_53_2, scs_53_3, sca_54, sca_55, sca_56, scs_57_0, scs_57_1, scs_57_2, scs_57_3, sca_58, sca_59, sca_60, scs_61_0, scs_61_1, scs_61_2, scs_61_3, sca_62, sca_63, sca_64, scs_65_0, scs_65_1, scs_65_2, scs_65_3, sca_66, sca_67, sca_68, scs_69_0, scs_69_1, scs_69_2, scs_69_3, sca_70, sca_71, sca_72, sc_st0, sc_st1, sc_st2, sc_sv0, sc_sv1, sc_sv2]
          exact ih (i + 1) cm2 qu2 q2 _ (by omega) rfl (by omega) (BQ_next B2 (by omega) (by rw [w2, Int.toNat_natCast]; exact z)) w3
        · rw [← hQ, clI_t (BQ_yes B (by omega) (by rw [y2, Int.toNat_natCast]; omega))]
          exact ⟨rfl, cm, qu, rfl⟩
  refine Ok_of SC_ok (by decide +kernel) rfl (Nat.le_of_ble_eq_true rfl) ?_
  show SG SC mX1_leads _ 0 [ar 4, ar 1, ar (53 + 4 * f), ai c, ai m, au, au] [] _
  simp only [sX1_leads_0, sX1_leads_2, sX1_leads_3, sX1_leads_6, sX1_leads_7, sX1_leads_8, sX1_leads_11, sX1_leads_12, sX1_leads_13, sX1_leads_14, sX1_leads_17, sX1_leads_22, sX1_leads_23, sX1_leads_26, sX1_leads_27, sX1_leads_28, sX1_leads_29, sX1_leads_30, sX1_leads_33, sX1_leads_34, sX1_leads_36, sX1_leads_37, sX1_leads_38, sX1_leads_40, sX1_leads_41, sX1_leads_45, sX1_leads_47, sX1_leads_50, sX1_leads_52, sX1_leads_54, sX1_leads_57, sX1_leads_58, sX1_leads_61, sX1_leads_62, sX1_leads_65, sX1_leads_67, sX1_leads_68, sX1_leads_69, sX1_leads_72, sX1_leads_73, sX1_leads_74, sX1_leads_75, sX1_leads_76, sX1_leads_77, sX1_leads_78, sX1_leads_81, sX1_leads_83, sX1_leads_84, sX1_leads_89, sX1_leads_91, sX1_leads_94, sX1_leads_97, sX1_leads_98, onI_i, onR_r, onS_s, slotA_i, slotA_b, slotA_l, slotA_r, ptk_i, ptk_b, ptk_l, aldP_s, aldP_n, uc_s, uc_n, uc_uc, ua_s, ua_n, Nat.reduceEqDiff, not_false_eq_true, true_or, or_true, true_and, and_true, implies_true, Option.some.injEq, Sum.inl.injEq, Int.toNat_natCast, true_implies, not_true_eq_false, false_implies, Int.reduceEq, Int.reduceLT, Int.reduceLE, Int.reduceNeg, Int.reduceAdd, Int.reduceSub, Int.reduceMul, Int.reduceToNat, lg_0, lg_1, lg_2, lg_3, lg_4, lg_5, lg_6, lz_0, lz_1, lz_2, lz_3, lz_4, lz_5, lz_6, scs_0_0, scs_0_1, scs_0_2, scs_0_3, scs_0_4, scs_0_5, scs_0_6, scs_0_7, scs_0_8, scs_0_9, scs_1_0, scs_1_1, scs_1_2, scs_1_3, scs_1_4, scs_1_5, scs_1_6, scs_1_7, scs_1_8, scs_1_9, scs_1_10, scs_1_11, scs_1_12, scs_1_13, scs_1_14, scs_1_15, scs_1_16, scs_1_17, scs_1_18, scr_2, scr_3, scs_4_0, scs_4_1, scs_5_0, scs_5_1, scs_5_2, scs_5_3, scs_5_4, scs_6_0, scs_6_1, scs_6_2, scs_6_3, scs_7_0, scs_7_1, scs_7_2, scs_7_3, scs_8_0, scs_8_1, scs_8_2, sca_9, sca_10, sca_11, sca_12, sca_13, sca_14, sca_15, sca_16, sca_17, sca_18, sca_19, sca_20, sca_21, sca_22, sca_23, sca_24, sca_25, sca_26, sca_27, sca_28, sca_29, sca_30, sca_31, sca_32, sca_33, sca_34, sca_35, sca_36, scs_37_0, scs_37_1, scs_37_2, scs_37_3, sca_38, sca_39, sca_40, scs_41_0, scs_41_1, scs_41_2, scs_41_3, sca_42, sca_43, sca_44, scs_45_0, scs_45_1, scs_45_2, scs_45_3, sca_46, sca_47, sca_48, scs_49_0, scs_49_1, scs_49_2, scs_49_3, sca_50, sca_51, sca_52, scs_53_0, scs_53_1, scs_53_2, scs_53_3, sca_54, sca_55, sca_56, scs_57_0, scs_57_1, scs_57_2, scs_57_3, sca_58, sca_59, sca_60, scs_61_0, scs_61_1, scs_61_2, scs_61_3, sca_62, sca_63, sca_64, scs_65_0, scs_65_1, scs_65_2, scs_65_3, sca_66, sca_67, sca_68, scs_69_0, scs_69_1, scs_69_2, scs_69_3, sca_70, sca_71, sca_72, sc_st0, sc_st1, sc_st2, sc_sv0, sc_sv1, sc_sv2, e1, e4, xc]
  refine ⟨by omega, by omega, by omega, fun z => ?_, fun z => ?_⟩
  · refine vX1_leads_19 (Nat.le_of_ble_eq_true rfl) (o_fill sca_25 (by omega)) ?_
    simp only [sX1_leads_0, sX1_leads_2, sX1_leads_3, sX1_leads_6, sX1_leads_7, sX1_leads_8, sX1_leads_11, sX1_leads_12, sX1_leads_13, sX1_leads_14, sX1_leads_17, sX1_leads_22, sX1_leads_23, sX1_leads_26, sX1_leads_27, sX1_leads_28, sX1_leads_29, sX1_leads_30, sX1_leads_33, sX1_leads_34, sX1_leads_36, sX1_leads_37, sX1_leads_38, sX1_leads_40, sX1_leads_41, sX1_leads_45, sX1_leads_47, sX1_leads_50, sX1_leads_52, sX1_leads_54, sX1_leads_57, sX1_leads_58, sX1_leads_61, sX1_leads_62, sX1_leads_65, sX1_leads_67, sX1_leads_68, sX1_leads_69, sX1_leads_72, sX1_leads_73, sX1_leads_74, sX1_leads_75, sX1_leads_76, sX1_leads_77, sX1_leads_78, sX1_leads_81, sX1_leads_83, sX1_leads_84, sX1_leads_89, sX1_leads_91, sX1_leads_94, sX1_leads_97, sX1_leads_98, onI_i, onR_r, onS_s, slotA_i, slotA_b, slotA_l, slotA_r, ptk_i, ptk_b, ptk_l, aldP_s, aldP_n, uc_s, uc_n, uc_uc, ua_s, ua_n, Nat.reduceEqDiff, not_false_eq_true, true_or, or_true, true_and, and_true, implies_true, Option.some.injEq, Sum.inl.injEq, Int.toNat_natCast, true_implies, not_true_eq_false, false_implies, Int.reduceEq, Int.reduceLT, Int.reduceLE, Int.reduceNeg, Int.reduceAdd, Int.reduceSub, Int.reduceMul, Int.reduceToNat, lg_0, lg_1, lg_2, lg_3, lg_4, lg_5, lg_6, lz_0, lz_1, lz_2, lz_3, lz_4, lz_5, lz_6, scs_0_0, scs_0_1, scs_0_2, scs_0_3, scs_0_4, scs_0_5, scs_0_6, scs_0_7, scs_0_8, scs_0_9, scs_1_0, scs_1_1, scs_1_2, scs_1_3, scs_1_4, scs_1_5, scs_1_6, scs_1_7, scs_1_8, scs_1_9, scs_1_10, scs_1_11, scs_1_12, scs_1_13, scs_1_14, scs_1_15, scs_1_16, scs_1_17, scs_1_18, scr_2, scr_3, scs_4_0, scs_4_1, scs_5_0, scs_5_1, scs_5_2, scs_5_3, scs_5_4, scs_6_0, scs_6_1, scs_6_2, scs_6_3, scs_7_0, scs_7_1, scs_7_2, scs_7_3, scs_8_0, scs_8_1, scs_8_2, sca_9, sca_10, sca_11, sca_12, sca_13, sca_14, sca_15, sca_16, sca_17, sca_18, sca_19, sca_20, sca_21, sca_22, sca_23, sca_24, sca_25, sca_26, sca_27, sca_28, sca_29, sca_30, sca_31, sca_32, sca_33, sca_34, sca_35, sca_36, scs_37_0, scs_37_1, scs_37_2, scs_37_3, sca_38, sca_39, sca_40, scs_41_0, scs_41_1, scs_41_2, scs_41_3, sca_42, sca_43, sca_44, scs_45_0, scs_45_1, scs_45_2, scs_45_3, sca_46, sca_47, sca_48, scs_49_0, scs_49_1, scs_49_2, scs_49_3, sca_50, sca_51, sca_52, scs_53_0, scs_53_1, scs_53_2, scs_53_3, sca_54, sca_55, sca_56, scs_57_0, scs_57_1, scs_57_2, scs_57_3, sca_58, sca_59, sca_60, scs_61_0, scs_61_1, scs_61_2, scs_61_3, sca_62, sca_63, sca_64, scs_65_0, scs_65_1, scs_65_2, scs_65_3, sca_66, sca_67, sca_68, scs_69_0, scs_69_1, scs_69_2, scs_69_3, sca_70, sca_71, sca_72, sc_st0, sc_st1, sc_st2, sc_sv0, sc_sv1, sc_sv2]
    refine ⟨by omega, ?_⟩
    have := lp (nG g) 0 (updA (filN 64 1000000 (x 25)) c m) (updA (x 24) 0 c) 1 0 (by omega) rfl (by omega) (BQ_0 hc z hb ua_s (fun v hv e => by rw [ua_n e]; unfold filN; rw [if_pos (by omega)]) ua_s) (fun v hv => ?_)
    · rw [hE_m]; exact ⟨by omega, this⟩
    · by_cases e : v = c
      · subst e; rw [ua_s]; omega
      · rw [ua_n e]; unfold filN; rw [if_pos (by omega)]; omega
  · rw [← hQ, clI_f]
    · exact ⟨rfl, x 25, x 24, hE_rf.symm⟩
    · rintro ⟨v, v1, v2, v3⟩
      have key : ∀ k v, ¬ eS (nbF g) (nG g) b c m k v := by
        intro k
        induction k with
        | zero => intro v h; have h1 := h.1; have h2 := h.2; rw [h1] at h2; omega
        | succ k ih =>
          intro v h
          rcases h with h | ⟨⟨y, _, y2, _⟩, _⟩
          · exact ih v h
          · exact ih y y2
      exact key _ v v2
