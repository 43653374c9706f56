/-! the plan -/
def bitN (s k : Nat) : Int := if s.testBit k then 1 else 0
def pop6 (s : Nat) : Int := bitN s 0 + bitN s 1 + bitN s 2 + bitN s 3 + bitN s 4 + bitN s 5
def inSet (g : AH) (s to : Nat) : Nat → Bool
  | 0 => false
  | k + 1 => inSet g s to k || (s.testBit k && decide (g 22 k = to))
def cutS (g : AH) (s : Nat) (to : Nat) : Int := if inSet g s to (g 0 7).toNat then -1 else g 6 to
def wmx (g : AH) (ct : Nat → Int) : Nat → Int
  | 0 => 0
  | k + 1 => if wmx g ct k < bntG g ct k 5000 then bntG g ct k 5000 else wmx g ct k
def wrs (g : AH) (s : Nat) : Int := wmx g (cutS g s) (g 0 2).toNat
def plB (g : AH) (k : Int) : Nat → Nat × Int
  | 0 => (0, wrs g 0)
  | i + 1 => if pop6 (i + 1) ≤ k ∧ (wrs g (i + 1) < (plB g k i).2 ∨ (wrs g (i + 1) = (plB g k i).2 ∧ pop6 (i + 1) < pop6 (plB g k i).1)) then (i + 1, wrs g (i + 1)) else plB g k i
def a_plan (g : AH) (k : Int) : Int := if 0 ≤ k ∧ k ≤ 6 then ((plB g k (2 ^ (g 0 7).toNat - 1)).1 : Int) else -1
theorem bit_i : ∀ s : Fin 64, ∀ k : Fin 6, (Int32.ofInt (Int32.ofInt (s.val : Nat) >>> (Int32.ofInt (k.val : Nat) &&& 31)).toInt &&& Int32.ofInt 1).toInt = bitN s.val k.val := by decide +kernel
theorem bit_e {s k : Nat} (hs : s < 64) (hk : k < 6) : (Int32.ofInt (Int32.ofInt s >>> (Int32.ofInt k &&& 31)).toInt &&& Int32.ofInt 1).toInt = bitN s k := bit_i ⟨s, hs⟩ ⟨k, hk⟩
theorem shl_i : ∀ k : Fin 7, (Int32.ofInt 1 <<< (Int32.ofInt (k.val : Nat) &&& 31)).toInt = ((2 ^ k.val : Nat) : Int) := by decide +kernel
theorem bitN_r (s k : Nat) : bitN s k = 0 ∨ bitN s k = 1 := by unfold bitN; split <;> simp
theorem pop6_r (s : Nat) : 0 ≤ pop6 s ∧ pop6 s ≤ 6 := by
  unfold pop6
  have h0 := bitN_r s 0
  have h1 := bitN_r s 1
  have h2 := bitN_r s 2
  have h3 := bitN_r s 3
  have h4 := bitN_r s 4
  have h5 := bitN_r s 5
  omega
/-- the reference's mask of barred cells -/
def mkB (g : AH) (s : Nat) : Nat → Int64
  | 0 => 0
  | k + 1 => if s.testBit k then mkB g s k ||| (1 <<< ((Int32.ofInt (g 22 k)).toInt64 &&& 63)) else mkB g s k
theorem sh63 : ∀ t : Fin 64, (((Int32.ofInt (t.val : Nat)).toInt64 &&& 63).toBitVec.smod 64).toNat = t.val := by decide +kernel
theorem bit_or (M : Int64) {c t : Nat} (hc : c < 64) (ht : t < 64) : (M ||| (1 <<< ((Int32.ofInt c).toInt64 &&& 63))).toBitVec.getLsbD t = (M.toBitVec.getLsbD t || decide (t = c)) := by
  have e := sh63 ⟨c, hc⟩
  dsimp only at e
  rw [Int64.toBitVec_or, BitVec.getLsbD_or, Int64.toBitVec_shiftLeft, BitVec.shiftLeft_eq', BitVec.getLsbD_shiftLeft]
  rw [e, show Int64.toBitVec 1 = 1#64 from rfl, BitVec.getLsbD_one]
  congr 1
  by_cases q : t = c
  · subst q; simp [ht]
  · simp only [q, decide_false]
    by_cases q2 : t < c
    · simp [q2]
    · simp [show ¬ t - c = 0 by omega]
theorem mk_bit (g : AH) (s : Nat) {t : Nat} (ht : t < 64) : ∀ k : Nat, (∀ i : Nat, i < k → 0 ≤ g 22 i ∧ g 22 i < 64) → (mkB g s k).toBitVec.getLsbD t = inSet g s t k
  | 0, _ => by simp [mkB, inSet]
  | k + 1, h => by
    have ih := mk_bit g s ht k (fun i hi => h i (by omega))
    unfold mkB inSet
    obtain ⟨c, hc⟩ : ∃ z : Nat, g 22 k = z := ⟨(g 22 k).toNat, by have := h k (by omega); omega⟩
    have hc2 := h k (by omega)
    cases hb : s.testBit k with
    | true =>
      simp only [if_true, hc, Bool.true_and]
      rw [bit_or _ (show c < 64 by omega) ht, ih]
      congr 1
      simp only [decide_eq_decide]
      omega
    | false => simp [ih]
theorem brd_bit (M : Int64) {t : Nat} (ht : t < 64) : (lg_cmp ((M >>> ((Int32.ofInt t).toInt64 &&& 63)) &&& 1) 1).toInt = 0 ↔ M.toBitVec.getLsbD t = true := by
  have e := sh63 ⟨t, ht⟩
  dsimp only at e
  have hb : (M >>> ((Int32.ofInt t).toInt64 &&& 63)).toBitVec.getLsbD 0 = M.toBitVec.getLsbD t := by
    rw [Int64.toBitVec_shiftRight, BitVec.sshiftRight_eq', e, BitVec.getLsbD_sshiftRight]
    simp [ht]
  have hx : ((M >>> ((Int32.ofInt t).toInt64 &&& 63)) &&& 1) = if M.toBitVec.getLsbD t then 1 else 0 := by
    apply Int64.toBitVec_inj.mp
    rw [Int64.toBitVec_and, show Int64.toBitVec 1 = 1#64 from rfl, BitVec.and_one_eq_setWidth_ofBool_getLsbD, hb]
    cases M.toBitVec.getLsbD t <;> rfl
  rw [hx]
  cases M.toBitVec.getLsbD t with
  | true => simp only [if_true]; exact ⟨fun _ => trivial, fun _ => by decide⟩
  | false => simp only [Bool.false_eq_true, if_false, iff_false]; decide
