/-! the abstract step, and the least predicate that is closed under it -/
def retQ (y : MI) (Q : Option AV → AH → Prop) (st : List AV) (h : AH) : Prop := match st, yr y with
  | [.inl v], some .int => Q (some (ai v)) h
  | [.inl v], some .boolean => (v = 0 ∨ v = 1) ∧ Q (some (ai v)) h
  | _, _ => False
def aretQ (y : MI) (Q : Option AV → AH → Prop) (st : List AV) (h : AH) : Prop := match st, yr y with
  | [.inr (.inl k)], some (.object _) => Q (some (ar k)) h
  | _, _ => False
def bin (st : List AV) (f : Int → Int → List AV → Prop) : Prop := match st with
  | .inl b :: .inl a :: t => f a b t
  | _ => False
def binL (st : List AV) (f : Int64 → Int64 → List AV → Prop) : Prop := match st with
  | .inr (.inr (.inl b)) :: .inr (.inr (.inl a)) :: t => f a b t
  | _ => False
def binS (st : List AV) (f : Int64 → Int → List AV → Prop) : Prop := match st with
  | .inl b :: .inr (.inr (.inl a)) :: t => f a b t
  | _ => False
def arrI (st : List AV) (f : Int → Nat → List AV → Prop) : Prop := match st with
  | .inl i :: .inr (.inl k) :: t => f i k t
  | _ => False
def arrW (st : List AV) (f : Int → Int → Nat → List AV → Prop) : Prop := match st with
  | .inl x :: .inl i :: .inr (.inl k) :: t => f x i k t
  | _ => False
def cpy5 (st : List AV) (f : Int → Int → Nat → Int → Nat → List AV → Prop) : Prop := match st with
  | .inl n :: .inl dp :: .inr (.inl k1) :: .inl sp :: .inr (.inl k0) :: t => f n dp k1 sp k0 t
  | _ => False
abbrev AX : Type := Nat → List AV → List AV → AH → Prop
def stI (S : SH) (y : MI) (Q : Option AV → AH → Prop) (X : AX) (i : Instr) (n pc : Nat) (ls st : List AV) (h : AH) : Prop := match i with
  | .iconst v => n = 1 ∧ X (pc + 1) ls (ai v :: st) h
  | .bipush v => n = 2 ∧ -128 ≤ v ∧ v < 128 ∧ X (pc + 2) ls (ai v :: st) h
  | .sipush v => n = 3 ∧ -32768 ≤ v ∧ v < 32768 ∧ X (pc + 3) ls (ai v :: st) h
  | .ldc k => n = 2 ∧ onS (kt y.1 k) (fun v => X (pc + 2) ls (ai v :: st) h)
  | .ldc_w k => n = 3 ∧ onS (kt y.1 k) (fun v => X (pc + 3) ls (ai v :: st) h)
  | .lconst v => n = 1 ∧ X (pc + 1) ls (al (Int64.ofNat v) :: st) h
  | .iload_n k => n = 1 ∧ onI (lget ls k) (fun x => X (pc + 1) ls (ai x :: st) h)
  | .iload k => n = 2 ∧ onI (lget ls k) (fun x => X (pc + 2) ls (ai x :: st) h)
  | .aload_n k => n = 1 ∧ onR (lget ls k) (fun x => X (pc + 1) ls (ar x :: st) h)
  | .aload k => n = 2 ∧ onR (lget ls k) (fun x => X (pc + 2) ls (ar x :: st) h)
  | .istore_n k => n = 1 ∧ k < yL y ∧ pop1 st (fun v t => onI v (fun x => X (pc + 1) (lset ls k (ai x)) t h))
  | .istore k => n = 2 ∧ k < yL y ∧ pop1 st (fun v t => onI v (fun x => X (pc + 2) (lset ls k (ai x)) t h))
  | .astore_n k => n = 1 ∧ k < yL y ∧ pop1 st (fun v t => onR v (fun x => X (pc + 1) (lset ls k (ar x)) t h))
  | .astore k => n = 2 ∧ k < yL y ∧ pop1 st (fun v t => onR v (fun x => X (pc + 2) (lset ls k (ar x)) t h))
  | .iinc k v => n = 3 ∧ k < yL y ∧ onI (lget ls k) (fun x => X (pc + 3) (lset ls k (ai (x + v))) st h)
  | .iadd => n = 1 ∧ bin st (fun a b t => X (pc + 1) ls (ai (a + b) :: t) h)
  | .isub => n = 1 ∧ bin st (fun a b t => X (pc + 1) ls (ai (a - b) :: t) h)
  | .imul => n = 1 ∧ bin st (fun a b t => X (pc + 1) ls (ai (a * b) :: t) h)
  | .ineg => n = 1 ∧ pop1 st (fun v t => onI v (fun a => X (pc + 1) ls (ai (-a) :: t) h))
  | .idiv => n = 1 ∧ bin st (fun a b t => inR a ∧ inR b ∧ ¬ b = 0 ∧ X (pc + 1) ls (ai (a.tdiv b) :: t) h)
  | .irem => n = 1 ∧ bin st (fun a b t => inR a ∧ inR b ∧ ¬ b = 0 ∧ X (pc + 1) ls (ai (a - a.tdiv b * b) :: t) h)
  | .iand => n = 1 ∧ bin st (fun a b t => X (pc + 1) ls (ai (Int32.ofInt a &&& Int32.ofInt b).toInt :: t) h)
  | .ishl => n = 1 ∧ bin st (fun a b t => X (pc + 1) ls (ai (Int32.ofInt a <<< (Int32.ofInt b &&& 31)).toInt :: t) h)
  | .ishr => n = 1 ∧ bin st (fun a b t => X (pc + 1) ls (ai (Int32.ofInt a >>> (Int32.ofInt b &&& 31)).toInt :: t) h)
  | .iushr => n = 1 ∧ bin st (fun a b t => X (pc + 1) ls (ai (((Int32.ofInt a).toUInt32 >>> ((Int32.ofInt b).toUInt32 &&& Int32.toUInt32 31)).toInt32).toInt :: t) h)
  | .land => n = 1 ∧ binL st (fun a b t => X (pc + 1) ls (al (a &&& b) :: t) h)
  | .lor => n = 1 ∧ binL st (fun a b t => X (pc + 1) ls (al (a ||| b) :: t) h)
  | .lshl => n = 1 ∧ binS st (fun a b t => X (pc + 1) ls (al (a <<< ((Int32.ofInt b).toInt64 &&& 63)) :: t) h)
  | .lshr => n = 1 ∧ binS st (fun a b t => X (pc + 1) ls (al (a >>> ((Int32.ofInt b).toInt64 &&& 63)) :: t) h)
  | .lcmp => n = 1 ∧ binL st (fun a b t => X (pc + 1) ls (ai (lg_cmp a b).toInt :: t) h)
  | .dup => n = 1 ∧ pop1 st (fun v t => (match v with | .inr (.inr _) => False | _ => True) ∧ X (pc + 1) ls (v :: v :: t) h)
  | .dup2 => n = 1 ∧ arrI st (fun i k t => X (pc + 1) ls (ai i :: ar k :: ai i :: ar k :: t) h)
  | .goto off => n = 3 ∧ (pc : Int) + off = (tgt pc off : Int) ∧ X (tgt pc off) ls st h
  | .if_icmp c off => n = 3 ∧ bin st (fun a b t => (pc : Int) + off = (tgt pc off : Int) ∧ inR a ∧ inR b ∧ (cmpI c a b → X (tgt pc off) ls t h) ∧ (¬ cmpI c a b → X (pc + 3) ls t h))
  | .ifCond c off => n = 3 ∧ pop1 st (fun v t => onI v (fun a => (pc : Int) + off = (tgt pc off : Int) ∧ inR a ∧ (cmpI c a 0 → X (tgt pc off) ls t h) ∧ (¬ cmpI c a 0 → X (pc + 3) ls t h)))
  | .tableswitch d lo hi offs => pop1 st (fun v t => onI v (fun a => inR a ∧ ((a < lo ∨ hi < a) → (pc : Int) + d = (tgt pc d : Int) ∧ X (tgt pc d) ls t h) ∧ (¬ (a < lo ∨ hi < a) → ∃ off, offs[(a - lo).toNat]? = some off ∧ (pc : Int) + off = (tgt pc off : Int) ∧ X (tgt pc off) ls t h)))
  | .getfield k => n = 3 ∧ pop1 st (fun v t => onR v (fun q => onS (ft y.1 k) (fun e => onS (slotK S q e.1 e.2) (fun sk => X (pc + 3) ls (slotA sk (h q e.2) :: t) h))))
  | .putfield k => n = 3 ∧ pop1 st (fun v t => pop1 t (fun u t => onR u (fun q => onS (ft y.1 k) (fun e => onS (slotK S q e.1 e.2) (fun sk => match sk.1 with
      | 0 => onI v (fun x => X (pc + 3) ls t (updC h q (updA (h q) e.2 x)))
      | 1 => onI v (fun x => (x = 0 ∨ x = 1) ∧ X (pc + 3) ls t (updC h q (updA (h q) e.2 x)))
      | 2 => onL v (fun x => X (pc + 3) ls t (updC h q (updA (h q) e.2 x.toInt)))
      | _ => False)))))
  | .getstatic k => n = 3 ∧ onS (sOf S y.1 k) (fun j => X (pc + 3) ls (ar (1000 + j) :: st) h)
  | .iaload => n = 1 ∧ arrI st (fun i k t => match arrK S k 0 with
      | some len => (0 ≤ i ∧ i < len) ∧ X (pc + 1) ls (ai (h k i.toNat) :: t) h
      | none => onS (staK S k) (fun vs => (0 ≤ i ∧ i < vs.length ∧ vs.length < 2147483648) ∧ X (pc + 1) ls (ai (vs.getD i.toNat 0) :: t) h))
  | .baload => n = 1 ∧ arrI st (fun i k t => onS (arrK S k 1) (fun len => (0 ≤ i ∧ i < len) ∧ X (pc + 1) ls (ai (h k i.toNat) :: t) h))
  | .iastore => n = 1 ∧ arrW st (fun x i k t => onS (arrK S k 0) (fun len => (0 ≤ i ∧ i < len) ∧ X (pc + 1) ls t (updC h k (updA (h k) i.toNat x))))
  | .bastore => n = 1 ∧ arrW st (fun x i k t => onS (arrK S k 1) (fun len => (0 ≤ i ∧ i < len) ∧ (x = 0 ∨ x = 1) ∧ X (pc + 1) ls t (updC h k (updA (h k) i.toNat x))))
  | .aaload => n = 1 ∧ arrI st (fun i k t => onS (refK S k) (fun rs => (0 ≤ i ∧ i < rs.length) ∧ X (pc + 1) ls (ar (rs.getD i.toNat 0) :: t) h))
  | .arraylength => n = 1 ∧ pop1 st (fun v t => onR v (fun k => onS (arrK S k 0) (fun len => X (pc + 1) ls (ai len :: t) h)))
  | .invokevirtual k => n = 3 ∧ onS (ct y.1 k) (fun e => e.1 = 0 ∧ onS (popN e.2.2 [] st) (fun w => pop1 w.2 (fun v rest => onR v (fun q => rest.length ≤ 4 ∧ objK S q = some e.2.1.1 ∧ rmOk y e.2.1 ∧ ∃ R : Option AV → AH → Prop, Ok S e.2.1 (ar q :: w.1) h R ∧ ∀ r h', R r h' → X (pc + 3) ls (r.toList ++ rest) h'))))
  | .invokestatic k => n = 3 ∧ match ct y.1 k with
      | some e => (e.1 = 1 ∨ (e.1 = 2 ∧ Cond.methodLinkNest (clsName y.1) k (yn e.2.1) "FireLines" ∈ S.2.2.2)) ∧ onS (popN e.2.2 [] st) (fun w => w.2.length ≤ 4 ∧ rmOk y e.2.1 ∧ ∃ R : Option AV → AH → Prop, Ok S e.2.1 w.1 h R ∧ ∀ r h', R r h' → X (pc + 3) ls (r.toList ++ w.2) h')
      | none => match mt y.1 k with
        | some 0 => (1 ≤ y.2.2.2.2.2.2.1 ∧ 21 ≤ y.2.2.2.2.2.2.2) ∧ bin st (fun a b t => t.length ≤ 4 ∧ inR a ∧ inR b ∧ X (pc + 3) ls (ai (if b < a then b else a) :: t) h)
        | some 1 => (1 ≤ y.2.2.2.2.2.2.1 ∧ 21 ≤ y.2.2.2.2.2.2.2) ∧ bin st (fun a b t => t.length ≤ 4 ∧ inR a ∧ inR b ∧ X (pc + 3) ls (ai (if a < b then b else a) :: t) h)
        | some 2 => (1 ≤ y.2.2.2.2.2.2.1 ∧ 21 ≤ y.2.2.2.2.2.2.2) ∧ pop1 st (fun v t => onI v (fun a => t.length ≤ 4 ∧ inR a ∧ X (pc + 3) ls (ai (if 0 ≤ a then a else -a) :: t) h))
        | some _ => False
        | none => acOk y k ∧ cpy5 st (fun m dp k1 sp k0 t => t.length ≤ 4 ∧ onS (arrK S k0 0) (fun n0 => onS (arrK S k1 0) (fun n1 => 0 ≤ sp ∧ 0 ≤ dp ∧ 0 ≤ m ∧ sp + m ≤ n0 ∧ dp + m ≤ n1 ∧ X (pc + 3) ls t (updC h k1 (cpyA (h k0) (h k1) sp.toNat dp.toNat m.toNat)))))
  | .ireturn => n = 1 ∧ retQ y Q st h
  | .areturn => n = 1 ∧ aretQ y Q st h
  | .return_ => n = 1 ∧ st = [] ∧ yr y = none ∧ Q none h
  | _ => False
def stD (S : SH) (y : MI) (Q : Option AV → AH → Prop) (X : AX) (pc : Nat) (ls st : List AV) (h : AH) : Prop := match decode (yc y) pc with
  | .ok (i, n) => stI S y Q X i n pc ls st h
  | .error _ => False
def SG (S : SH) (y : MI) (Q : Option AV → AH → Prop) (pc : Nat) (ls st : List AV) (h : AH) : Prop := ∀ X : AX, (∀ pc ls st h, stD S y Q X pc ls st h → X pc ls st h) → X pc ls st h
section Mono
variable {X Y : AX} (hm : ∀ pc ls st h, X pc ls st h → Y pc ls st h)
theorem onI_m {v : AV} {f g : Int → Prop} (hfg : ∀ x, f x → g x) (h : onI v f) : onI v g := by
  unfold onI at *; split <;> simp_all
theorem onR_m {v : AV} {f g : Nat → Prop} (hfg : ∀ x, f x → g x) (h : onR v f) : onR v g := by
  unfold onR at *; split <;> simp_all
theorem onL_m {v : AV} {f g : Int64 → Prop} (hfg : ∀ x, f x → g x) (h : onL v f) : onL v g := by
  unfold onL at *; split <;> simp_all
theorem onS_m {α : Type} {o : Option α} {f g : α → Prop} (hfg : ∀ x, f x → g x) (h : onS o f) : onS o g := by
  unfold onS at *; split <;> simp_all
theorem pop1_m {st : List AV} {f g : AV → List AV → Prop} (hfg : ∀ x t, f x t → g x t) (h : pop1 st f) : pop1 st g := by
  unfold pop1 at *; split <;> simp_all
theorem bin_m {st : List AV} {f g : Int → Int → List AV → Prop} (hfg : ∀ a b t, f a b t → g a b t) (h : bin st f) : bin st g := by
  unfold bin at *; split <;> simp_all
theorem binL_m {st : List AV} {f g : Int64 → Int64 → List AV → Prop} (hfg : ∀ a b t, f a b t → g a b t) (h : binL st f) : binL st g := by
  unfold binL at *; split <;> simp_all
theorem binS_m {st : List AV} {f g : Int64 → Int → List AV → Prop} (hfg : ∀ a b t, f a b t → g a b t) (h : binS st f) : binS st g := by
  unfold binS at *; split <;> simp_all
theorem arrI_m {st : List AV} {f g : Int → Nat → List AV → Prop} (hfg : ∀ a b t, f a b t → g a b t) (h : arrI st f) : arrI st g := by
  unfold arrI at *; split <;> simp_all
theorem arrW_m {st : List AV} {f g : Int → Int → Nat → List AV → Prop} (hfg : ∀ x a b t, f x a b t → g x a b t) (h : arrW st f) : arrW st g := by
  unfold arrW at *; split <;> simp_all
theorem cpy5_m {st : List AV} {f g : Int → Int → Nat → Int → Nat → List AV → Prop} (hfg : ∀ a b c d e t, f a b c d e t → g a b c d e t) (h : cpy5 st f) : cpy5 st g := by
  unfold cpy5 at *; split <;> simp_all
end Mono
