/-! one instruction at a time, over the abstract machine -/
abbrev inR (x : Int) : Prop := -2147483648 ≤ x ∧ x < 2147483648
theorem i32_add (a b : Int) : Int32.ofInt a + Int32.ofInt b = Int32.ofInt (a + b) := (Int32.ofInt_add ..).symm
theorem i32_sub (a b : Int) : Int32.ofInt a - Int32.ofInt b = Int32.ofInt (a - b) := (Int32.ofInt_sub ..).symm
theorem i32_mul (a b : Int) : Int32.ofInt a * Int32.ofInt b = Int32.ofInt (a * b) := (Int32.ofInt_mul ..).symm
theorem i32_neg (a : Int) : -Int32.ofInt a = Int32.ofInt (-a) := (Int32.ofInt_neg ..).symm
theorem i32_toInt {a : Int} (h : inR a) : (Int32.ofInt a).toInt = a := Int32.toInt_ofInt_of_le h.1 h.2
theorem i32_of (x : Int32) : Int32.ofInt x.toInt = x := Int32.ofInt_toInt x
theorem i32_lt {a b : Int} (ha : inR a) (hb : inR b) : Int32.ofInt a < Int32.ofInt b ↔ a < b := by rw [Int32.lt_iff_toInt_lt, i32_toInt ha, i32_toInt hb]
theorem i32_le {a b : Int} (ha : inR a) (hb : inR b) : Int32.ofInt a ≤ Int32.ofInt b ↔ a ≤ b := by rw [Int32.le_iff_toInt_le, i32_toInt ha, i32_toInt hb]
theorem i32_eq {a b : Int} (ha : inR a) (hb : inR b) : Int32.ofInt a = Int32.ofInt b ↔ a = b := by rw [← Int32.toInt_inj, i32_toInt ha, i32_toInt hb]
theorem i32_div {a b : Int} (ha : inR a) (hb : inR b) : Int32.ofInt a / Int32.ofInt b = Int32.ofInt (a.tdiv b) := by
  have hm : Int32.maxValue.toInt = 2147483647 := by decide
  rw [Int32.ofInt_tdiv ha.1 (by rw [hm]; have := ha.2; omega) hb.1 (by rw [hm]; have := hb.2; omega)]
theorem i32_cl {a : Int} {n : Nat} (h0 : 0 ≤ a) (h1 : a < n) (hn : n < 2147483648) : vp_in (Int32.ofInt a) n ∧ (Int32.ofInt a).toNatClampNeg = a.toNat := by
  have hr : inR a := by constructor <;> omega
  have e := i32_toInt hr
  constructor
  · rw [vp_in_iff, e]; exact ⟨h0, h1⟩
  · show (Int32.ofInt a).toInt.toNat = a.toNat
    rw [e]
def onI (v : AV) (f : Int → Prop) : Prop := match v with
  | .inl x => f x
  | _ => False
def onR (v : AV) (f : Nat → Prop) : Prop := match v with
  | .inr (.inl k) => f k
  | _ => False
def onL (v : AV) (f : Int64 → Prop) : Prop := match v with
  | .inr (.inr (.inl x)) => f x
  | _ => False
def onS {α : Type} (o : Option α) (f : α → Prop) : Prop := match o with
  | some x => f x
  | none => False
def pop1 (st : List AV) (f : AV → List AV → Prop) : Prop := match st with
  | a :: t => f a t
  | [] => False
def slotK (S : SH) (k ci j : Nat) : Option SK := match S.1[k]? with
  | some (.inr (.inl (c, sl))) => if c = ci then sl[j]? else none
  | _ => none
def objK (S : SH) (k : Nat) : Option Nat := match S.1[k]? with
  | some (.inr (.inl (c, _))) => some c
  | _ => none
def arrK (S : SH) (k t : Nat) : Option Nat := match S.1[k]? with
  | some (.inl (n, u)) => if u = t then some n else none
  | _ => none
def refK (S : SH) (k : Nat) : Option (List Nat) := match S.1[k]? with
  | some (.inr (.inr (rs, _))) => some rs
  | _ => none
def staK (S : SH) (k : Nat) : Option (List Int) := if 1000 ≤ k then (S.2.2.1[k - 1000]?).map (fun q => q.2) else none
def popN : Nat → List AV → List AV → Option (List AV × List AV)
  | 0, acc, st => some (acc, st)
  | _ + 1, _, [] => none
  | n + 1, acc, x :: st => popN n (x :: acc) st
def cmpI : Jvm.ClassFile.Cond → Int → Int → Prop
  | .eq, a, b => a = b
  | .ne, a, b => ¬ a = b
  | .lt, a, b => a < b
  | .ge, a, b => b ≤ a
  | .gt, a, b => b < a
  | .le, a, b => a ≤ b
def tgt (pc : Nat) (off : Int) : Nat := ((pc : Int) + off).toNat
