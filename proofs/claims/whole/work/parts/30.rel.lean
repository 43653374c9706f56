/-! the class's heap x against a state g -/
/-- the last drop over a cell, among the first k -/
def lsD (g : AH) (c : Int) : Nat → Int
  | 0 => -1
  | k + 1 => if g 14 k = c then (k : Int) else lsD g c k
def litI (m : Int) : Int := if m = -1 then 1000000 else m
/-- hills and cells, but for the cuts -/
def rG (x g : AH) : Prop := x 1 0 = g 0 0 ∧ x 1 1 = g 0 1 ∧ x 1 2 = g 0 0 * g 0 1 ∧ x 0 9 = g 0 2 ∧
  (∀ c, c < 64 → x 9 c = g 1 c ∧ x 10 c = g 2 c ∧ x 11 c = g 3 c ∧ x 12 c = litI (g 4 c) ∧ x 13 c = g 5 c ∧ x 15 c = g 7 c ∧ x 16 c = g 8 c ∧ x 17 c = g 9 c) ∧
  (∀ c d, c < nG g → d < 8 → x 18 (8 * c + d) = nbF g c d) ∧ (∀ c : Nat, c < nG g → x 19 c = (c : Int) / g 0 0)
def rD (x g : AH) : Prop := x 1 14 = g 0 3 ∧ (∀ c, c < 64 → x 20 c = dcn g c (g 0 3).toNat ∧ x 21 c = lsD g c (g 0 3).toNat) ∧ (∀ k : Nat, (k : Int) < g 0 3 → x 22 k = lsD g (g 14 k) k ∧ x 23 k = g 15 k)
def rW1 (x g : AH) (w : Nat) : Prop := x (37 + 4 * w) 0 = g 10 w ∧ ∀ k : Nat, (k : Int) < g 10 w → x (38 + 4 * w) k = g 11 (8 * w + k) ∧ x (39 + 4 * w) k = g 12 (8 * w + k) ∧ x (40 + 4 * w) k = g 13 (8 * w + k)
def rW (x g : AH) : Prop := ∀ w : Nat, (w : Int) < g 0 2 → rW1 x g w
def rO (x g : AH) : Prop := x 5 0 = g 0 4 ∧ x 5 1 = g 0 5 ∧ (∀ k : Nat, (k : Int) < g 0 4 → x 26 k = g 16 k ∧ x 27 k = g 17 k ∧ x 28 k = g 18 k) ∧ x 6 0 = g 0 6 ∧ (∀ k : Nat, (k : Int) < g 0 6 → x 29 k = g 19 k ∧ x 30 k = g 20 k ∧ x 31 k = g 21 k) ∧ x 8 0 = g 0 7 ∧ ∀ k : Nat, (k : Int) < g 0 7 → x 35 k = g 22 k
def rC (x g : AH) : Prop := ∀ c, c < 64 → x 14 c = g 6 c
def rF1 (x g : AH) (f : Nat) : Prop := ∀ c, c < nG g → x (54 + 4 * f) c = (fr g (g 6) f).1 c ∧ x (55 + 4 * f) c = (fr g (g 6) f).2.1 c
def rF (x g : AH) : Prop := ∀ f : Nat, f < 4 → (x (53 + 4 * f) 0 = 0 ∨ x (53 + 4 * f) 0 = 1) ∧ ((f : Int) < g 0 2 → x (53 + 4 * f) 0 = 1 → rF1 x g f)
/-- all but cuts and fires -/
def rB (x g : AH) : Prop := rG x g ∧ rD x g ∧ rW x g ∧ rO x g
def RelC (x g : AH) : Prop := rB x g ∧ rC x g ∧ rF x g
/-! the work's end, minute by minute -/
def wdn (sp : Int → Int) : Nat → Int → Int → Int
  | 0, _, m => m
  | k + 1, l, m => if 0 < l then wdn sp k (l - sp m) (m + 1) else m
theorem wdn_le {sp : Int → Int} : ∀ (k : Nat) (l m : Int), l ≤ 0 → wdn sp k l m = m
  | 0, _, _, _ => rfl
  | k + 1, l, m, h => if_neg (by omega)
theorem wdn_ge {sp : Int → Int} : ∀ (k : Nat) (l m : Int), m ≤ wdn sp k l m ∧ wdn sp k l m ≤ m + k
  | 0, _, m => by unfold wdn; omega
  | k + 1, l, m => by
    unfold wdn
    have := wdn_ge (sp := sp) k (l - sp m) (m + 1)
    split <;> omega
/-- one wind's stretch of L minutes, with work beyond -/
theorem wdn_over {sp : Int → Int} {v : Int} (hv : 1 ≤ v) : ∀ (L k : Nat) (l m : Int), (∀ t, m ≤ t → t < m + L → sp t = v) → v * L < l → wdn sp (k + L) l m = wdn sp k (l - v * L) (m + L)
  | 0, k, l, m, _, _ => by simp
  | L + 1, k, l, m, hs, hl => by
    have h0 : 0 ≤ v * (L : Int) := Int.mul_nonneg (by omega) (by omega)
    have h1 : v * ((L + 1 : Nat) : Int) = v * L + v := by rw [Int.natCast_add, Int.mul_add]; simp
    rw [h1] at hl ⊢
    show (if 0 < l then wdn sp (k + L) (l - sp m) (m + 1) else m) = _
    rw [if_pos (by omega), hs m (by omega) (by omega), wdn_over hv L k (l - v) (m + 1) (fun t t1 t2 => hs t (by omega) (by omega)) (by omega)]
    rw [show l - v - v * (L : Int) = l - (v * L + v) by omega, show m + 1 + (L : Int) = m + ((L + 1 : Nat) : Int) by omega]
/-- the work ends within the stretch -/
theorem wdn_in {sp : Int → Int} {v : Int} (hv : 1 ≤ v) : ∀ (L k : Nat) (l m : Int), (∀ t, m ≤ t → t < m + L → sp t = v) → 0 < l → l ≤ v * L → l ≤ k → wdn sp k l m = m + (l + v - 1) / v
  | 0, k, l, m, _, h0, hl, _ => by simp at hl; omega
  | L + 1, 0, l, m, _, h0, hl, hk => by simp at hk; omega
  | L + 1, k + 1, l, m, hs, h0, hl, hk => by
    have h1 : v * ((L + 1 : Nat) : Int) = v * L + v := by rw [Int.natCast_add, Int.mul_add]; simp
    rw [h1] at hl
    show (if 0 < l then wdn sp k (l - sp m) (m + 1) else m) = _
    rw [if_pos h0, hs m (by omega) (by omega)]
    have ed : (l + v - 1) / v = (l - 1) / v + 1 := by
      rw [show l + v - 1 = l - 1 + 1 * v by omega, Int.add_mul_ediv_right _ _ (by omega)]
    by_cases q : l ≤ v
    · rw [wdn_le _ _ _ (by omega), ed, Int.ediv_eq_zero_of_lt (by omega) (by omega)]
      omega
    · rw [wdn_in hv L k (l - v) (m + 1) (fun t t1 t2 => hs t (by omega) (by omega)) (by omega) (by omega) (by omega), ed, show l - v + v - 1 = l - 1 by omega]
      omega
theorem wl_wd {sp : Int → Int} (hs : ∀ m, 1 ≤ sp m) : ∀ (k N : Nat) (l m : Int), m ≤ 5001 → 5001 - m ≤ k → l ≤ N → (0 < (wl sp k l m).1 → 5000 < wdn sp N l m) ∧ (¬ 0 < (wl sp k l m).1 → (wl sp k l m).2 = wdn sp N l m)
  | 0, N, l, m, h1, h2, h3 => by
    unfold wl
    have := wdn_ge (sp := sp) N l m
    refine ⟨fun q => ?_, fun q => ?_⟩
    · simp at h2; omega
    · rw [wdn_le N l m (by simpa using q)]
  | k + 1, N, l, m, h1, h2, h3 => by
    unfold wl
    have g := wdn_ge (sp := sp) N l m
    by_cases q : 0 < l ∧ m ≤ 5000
    · rw [if_pos q]
      obtain ⟨M, rfl⟩ : ∃ M, N = M + 1 := ⟨N - 1, by omega⟩
      have e : wdn sp (M + 1) l m = wdn sp M (l - sp m) (m + 1) := if_pos q.1
      have := hs m
      rw [e]
      exact wl_wd hs k M (l - sp m) (m + 1) (by omega) (by omega) (by omega)
    · rw [if_neg q]
      refine ⟨fun z => ?_, fun z => ?_⟩
      · dsimp only at z; omega
      · rw [wdn_le N l m (by simpa using z)]
/-- the fire's coming, as the class asks it -/
theorem arv_wd {g : AH} (hg : gi g) {ct : Nat → Int} {w c to : Nat} (hw : w < 4) (hc : c < 64) (ht : to < 64) {d m D M : Int} (hd : 0 ≤ d ∧ d ≤ 7) (hm : 0 ≤ m ∧ m ≤ 5000) (hD : D = wdn (spd g w c to d) 20000 (wrk g to d m) m) (hM : M = if D < g 5 to + 1 then g 5 to + 1 else D) (hf : ¬ g 1 to = 0) : arv g ct w c to d m = if M ≤ 5000 ∧ M < ct to then M else 1000000 := by
  have hk := wrk_r hg ht (d := d) (m := m)
  have h5 := (hg.2.1 to ht).2.2.2.2.1
  have a := wl_wd (fun t => (spd_r hg hw hc ht hd (m := t)).1) 5002 20000 (wrk g to d m) m (by omega) (by omega) (by omega)
  rw [← hD] at a
  have b := wdn_ge (sp := spd g w c to d) 20000 (wrk g to d m) m
  rw [← hD] at b
  unfold arv
  rw [if_neg hf]
  generalize wl (spd g w c to d) 5002 (wrk g to d m) m = p at *
  unfold fall seen
  by_cases q : 0 < p.1
  · have := a.1 q
    rw [if_pos (Or.inl q), if_neg]
    split at hM <;> omega
  · have := a.2 q
    have se : (if ¬ g 5 to = -1 ∧ p.2 ≤ g 5 to then g 5 to + 1 else p.2) = M := by
      rw [hM, this]; split <;> split <;> omega
    rw [se]
    by_cases y : M ≤ 5000 ∧ M < ct to
    · rw [if_pos y, if_neg (by omega)]
    · rw [if_neg y, if_pos (by omega)]
/-- which wind blows -/
theorem wa_at {g : AH} {w : Nat} {m : Int} : ∀ (n i : Nat), i < n → g 11 (8 * w + i) ≤ m → (∀ k, i < k → k < n → m < g 11 (8 * w + k)) → wa g w m n = (g 13 (8 * w + i), g 12 (8 * w + i))
  | 0, i, h, _, _ => absurd h (by omega)
  | n + 1, i, h, h1, h2 => by
    unfold wa
    by_cases e : i = n
    · subst e; rw [if_pos h1]
    · have := h2 n (by omega) (by omega)
      rw [if_neg (by omega)]
      exact wa_at n i (by omega) h1 (fun k k1 k2 => h2 k k1 (by omega))
theorem wa_0 {g : AH} {w : Nat} {m : Int} : ∀ (n : Nat), (∀ k, k < n → m < g 11 (8 * w + k)) → wa g w m n = (0, 0)
  | 0, _ => rfl
  | n + 1, h => by
    unfold wa
    have := h n (by omega)
    rw [if_neg (by omega)]
    exact wa_0 n (fun k k1 => h k (by omega))
theorem and7 : ∀ a b : Fin 8, (Int32.ofInt ((a.val : Int) - (b.val : Int)) &&& Int32.ofInt 7).toInt = if (b.val : Int) ≤ a.val then (a.val : Int) - b.val else (a.val : Int) - b.val + 8 := by decide +kernel
theorem and7i {a b : Int} (ha : 0 ≤ a ∧ a ≤ 7) (hb : 0 ≤ b ∧ b ≤ 7) : (Int32.ofInt (a - b) &&& Int32.ofInt 7).toInt = if b ≤ a then a - b else a - b + 8 := by
  have := and7 ⟨a.toNat, by omega⟩ ⟨b.toNat, by omega⟩
  dsimp only at this
  rw [Int.toNat_of_nonneg ha.1, Int.toNat_of_nonneg hb.1] at this
  exact this
/-- wind i's push, the calm's at -1 -/
def pshI (g : AH) (w : Nat) (i d : Int) : Int := if i < 0 then 0 else psh (tn (g 12 (8 * w + i.toNat)) d) (g 13 (8 * w + i.toNat))
theorem o_push {x g : AH} (hg : gi g) {w : Nat} (hw : w < 4) (hr : rW1 x g w) {i d : Int} (hi : -1 ≤ i ∧ i < g 10 w) (hd : 0 ≤ d ∧ d ≤ 7) : Ok SC mX7_push [ar (37 + 4 * w), ai i, ai d] x (fun r h2 => r = some (ai (pshI g w i d)) ∧ h2 = x) := by
  have e2 := scW_2 hw
  have e3 := scW_3 hw
  have e2a := scWa_2 hw
  have e3a := scWa_3 hw
  have g10 := hg.2.2.2.1 w hw
  refine Ok_of SC_ok (by decide +kernel) rfl (Nat.le_of_ble_eq_true rfl) ?_
  show SG SC mX7_push _ 0 [ar (37 + 4 * w), ai i, ai d, au] [] _
  simp only [sX7_push_0, sX7_push_1, sX7_push_4, sX7_push_5, sX7_push_6, sX7_push_7, sX7_push_10, sX7_push_11, sX7_push_12, sX7_push_13, sX7_push_14, sX7_push_16, sX7_push_17, sX7_push_18, sX7_push_19, sX7_push_22, sX7_push_23, sX7_push_24, sX7_push_27, sX7_push_28, sX7_push_30, sX7_push_31, sX7_push_32, sX7_push_35, sX7_push_36, sX7_push_37, onI_i, onR_r, onS_s, slotA_i, slotA_b, slotA_l, slotA_r, ptk_i, ptk_b, ptk_l, aldP_s, aldP_n, uc_s, uc_n, uc_uc, ua_s, ua_n, Nat.reduceEqDiff, not_false_eq_true, true_or, or_true, true_and, and_true, implies_true, Option.some.injEq, Sum.inl.injEq, Int.toNat_natCast, true_implies, not_true_eq_false, false_implies, Int.reduceEq, Int.reduceLT, Int.reduceLE, Int.reduceNeg, Int.reduceAdd, Int.reduceSub, Int.reduceMul, Int.reduceToNat, lg_0, lg_1, lg_2, lg_3, lz_0, lz_1, lz_2, lz_3, scs_0_0, scs_0_1, scs_0_2, scs_0_3, scs_0_4, scs_0_5, scs_0_6, scs_0_7, scs_0_8, scs_0_9, scs_1_0, scs_1_1, scs_1_2, scs_1_3, scs_1_4, scs_1_5, scs_1_6, scs_1_7, scs_1_8, scs_1_9, scs_1_10, scs_1_11, scs_1_12, scs_1_13, scs_1_14, scs_1_15, scs_1_16, scs_1_17, scs_1_18, scr_2, scr_3, scs_4_0, scs_4_1, scs_5_0, scs_5_1, scs_5_2, scs_5_3, scs_5_4, scs_6_0, scs_6_1, scs_6_2, scs_6_3, scs_7_0, scs_7_1, scs_7_2, scs_7_3, scs_8_0, scs_8_1, scs_8_2, sca_9, sca_10, sca_11, sca_12, sca_13, sca_14, sca_15, sca_16, sca_17, sca_18, sca_19, sca_20, sca_21, sca_22, sca_23, sca_24, sca_25, sca_26, sca_27, sca_28, sca_29, sca_30, sca_31, sca_32, sca_33, sca_34, sca_35, sca_36, scs_37_0, scs_37_1, scs_37_2, scs_37_3, sca_38, sca_39, sca_40, scs_41_0, scs_41_1, scs_41_2, scs_41_3, sca_42, sca_43, sca_44, scs_45_0, scs_45_1, scs_45_2, scs_45_3, sca_46, sca_47, sca_48, scs_49_0, scs_49_1, scs_49_2, scs_49_3, sca_50, sca_51, sca_52, scs_53_0, scs_53_1, scs_53_2, scs_53_3, sca_54, sca_55, sca_56, scs_57_0, scs_57_1, scs_57_2, scs_57_3, sca_58, sca_59, sca_60, scs_61_0, scs_61_1, scs_61_2, scs_61_3, sca_62, sca_63, sca_64, scs_65_0, scs_65_1, scs_65_2, scs_65_3, sca_66, sca_67, sca_68, scs_69_0, scs_69_1, scs_69_2, scs_69_3, sca_70, sca_71, sca_72, sc_st0, sc_st1, sc_st2, sc_sv0, sc_sv1, sc_sv2, e2, e3, e2a, e3a]
  refine ⟨by omega, fun q => ?_, fun q => ?_⟩
  · have pe : pshI g w i d = psh (tn (g 12 (8 * w + i.toNat)) d) (g 13 (8 * w + i.toNat)) := if_neg (by omega)
    rw [pe]
    obtain ⟨i, rfl⟩ : ∃ z : Nat, i = z := ⟨i.toNat, by omega⟩
    have r := hr.2 i hi.2
    have gw := hg.2.2.2.2.1 w i hw hi.2
    rw [Int.toNat_natCast, r.2.1, r.2.2, and7i gw.2.1 hd]
    generalize ht : (if d ≤ g 12 (8 * w + i) then g 12 (8 * w + i) - d else g 12 (8 * w + i) - d + 8) = t
    have tr : 0 ≤ t ∧ t ≤ 7 := by rw [← ht]; split <;> omega
    generalize hu : (if 8 - t < t then 8 - t else t) = u
    have ur : 0 ≤ u ∧ u ≤ 4 := by rw [← hu]; split <;> omega
    have ue : tn (g 12 (8 * w + i)) d = u := by
      rw [← hu, ← ht]; unfold tn
      (repeat' split) <;> omega
    rw [ue]
    have uc : u = 0 ∨ u = 1 ∨ u = 2 ∨ u = 3 ∨ u = 4 := by omega
    refine ⟨by omega, by omega, by simp, by omega, by omega, ⟨by omega, by simp; omega, by simp⟩, ?_⟩
    rcases uc with rfl | rfl | rfl | rfl | rfl <;> simp [psh] <;> omega
  · have pe : pshI g w i d = 0 := if_pos (by omega)
    rw [pe]
