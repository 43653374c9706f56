/-! each instruction as an equivalence, for the simplifier -/
section Eqs
variable {S : SH} {y : MI} {Q : Option AV → AH → Prop} {pc pc' : Nat} {ls st : List AV} {h : AH}
theorem onI_i {x : Int} {f : Int → Prop} : onI (ai x) f ↔ f x := Iff.rfl
theorem onR_r {x : Nat} {f : Nat → Prop} : onR (ar x) f ↔ f x := Iff.rfl
theorem onS_s {α : Type} {x : α} {f : α → Prop} : onS (some x) f ↔ f x := Iff.rfl
theorem slotA_i {z : Nat} {x : Int} : slotA (0, z) x = ai x := rfl
theorem slotA_b {z : Nat} {x : Int} : slotA (1, z) x = ai x := rfl
theorem slotA_l {z : Nat} {x : Int} : slotA (2, z) x = al (Int64.ofInt x) := rfl
theorem slotA_r {z : Nat} {x : Int} : slotA (3, z) x = ar z := rfl
def ptk (sk : SK) (v : AV) (f : Int → Prop) : Prop := match sk.1 with
  | 0 => onI v f
  | 1 => onI v (fun x => (x = 0 ∨ x = 1) ∧ f x)
  | 2 => onL v (fun x => f x.toInt)
  | _ => False
theorem ptk_i {z : Nat} {x : Int} {f : Int → Prop} : ptk (0, z) (ai x) f ↔ f x := Iff.rfl
theorem ptk_b {z : Nat} {x : Int} {f : Int → Prop} : ptk (1, z) (ai x) f ↔ (x = 0 ∨ x = 1) ∧ f x := Iff.rfl
theorem ptk_l {z : Nat} {x : Int64} {f : Int → Prop} : ptk (2, z) (al x) f ↔ f x.toInt := Iff.rfl
def aldP (o : Option Nat) (s : Option (List Int)) (f : Nat → Prop) (g : List Int → Prop) : Prop := match o with
  | some n => f n
  | none => onS s g
theorem aldP_s {n : Nat} {s : Option (List Int)} {f : Nat → Prop} {g : List Int → Prop} : aldP (some n) s f g ↔ f n := Iff.rfl
theorem aldP_n {vs : List Int} {f : Nat → Prop} {g : List Int → Prop} : aldP none (some vs) f g ↔ g vs := Iff.rfl
theorem e_iconst {v : Int} (hd : decode (yc y) pc = .ok (.iconst v, 1)) (hp : pc + 1 = pc') : SG S y Q pc ls st h ↔ SG S y Q pc' ls (ai v :: st) h := hp ▸ (SG_at hd).trans ⟨fun q => q.2, fun q => ⟨rfl, q⟩⟩
theorem e_bipush {v : Int} (hd : decode (yc y) pc = .ok (.bipush v, 2)) (hp : pc + 2 = pc') (hr : -128 ≤ v ∧ v < 128) : SG S y Q pc ls st h ↔ SG S y Q pc' ls (ai v :: st) h := hp ▸ (SG_at hd).trans ⟨fun q => q.2.2.2, fun q => ⟨rfl, hr.1, hr.2, q⟩⟩
theorem e_sipush {v : Int} (hd : decode (yc y) pc = .ok (.sipush v, 3)) (hp : pc + 3 = pc') (hr : -32768 ≤ v ∧ v < 32768) : SG S y Q pc ls st h ↔ SG S y Q pc' ls (ai v :: st) h := hp ▸ (SG_at hd).trans ⟨fun q => q.2.2.2, fun q => ⟨rfl, hr.1, hr.2, q⟩⟩
theorem e_ldc {k : Nat} {v : Int} (hd : decode (yc y) pc = .ok (.ldc k, 2)) (hp : pc + 2 = pc') (hv : kt y.1 k = some v) : SG S y Q pc ls st h ↔ SG S y Q pc' ls (ai v :: st) h := hp ▸ (SG_at hd).trans ⟨fun q => by have := q.2; rw [hv] at this; exact this, fun q => ⟨rfl, by rw [hv]; exact q⟩⟩
theorem e_ldc_w {k : Nat} {v : Int} (hd : decode (yc y) pc = .ok (.ldc_w k, 3)) (hp : pc + 3 = pc') (hv : kt y.1 k = some v) : SG S y Q pc ls st h ↔ SG S y Q pc' ls (ai v :: st) h := hp ▸ (SG_at hd).trans ⟨fun q => by have := q.2; rw [hv] at this; exact this, fun q => ⟨rfl, by rw [hv]; exact q⟩⟩
theorem e_lconst {v : Fin 2} (hd : decode (yc y) pc = .ok (.lconst v, 1)) (hp : pc + 1 = pc') : SG S y Q pc ls st h ↔ SG S y Q pc' ls (al (Int64.ofNat v) :: st) h := hp ▸ (SG_at hd).trans ⟨fun q => q.2, fun q => ⟨rfl, q⟩⟩
theorem e_iload_n {k : Fin 4} {k2 : Nat} (hd : decode (yc y) pc = .ok (.iload_n k, 1)) (hp : pc + 1 = pc') (hk : (k : Nat) = k2) : SG S y Q pc ls st h ↔ onI (lget ls k2) (fun x => SG S y Q pc' ls (ai x :: st) h) := hk ▸ hp ▸ (SG_at hd).trans ⟨fun q => q.2, fun q => ⟨rfl, q⟩⟩
theorem e_iload {k : Nat} (hd : decode (yc y) pc = .ok (.iload k, 2)) (hp : pc + 2 = pc') : SG S y Q pc ls st h ↔ onI (lget ls k) (fun x => SG S y Q pc' ls (ai x :: st) h) := hp ▸ (SG_at hd).trans ⟨fun q => q.2, fun q => ⟨rfl, q⟩⟩
theorem e_aload_n {k : Fin 4} {k2 : Nat} (hd : decode (yc y) pc = .ok (.aload_n k, 1)) (hp : pc + 1 = pc') (hk : (k : Nat) = k2) : SG S y Q pc ls st h ↔ onR (lget ls k2) (fun x => SG S y Q pc' ls (ar x :: st) h) := hk ▸ hp ▸ (SG_at hd).trans ⟨fun q => q.2, fun q => ⟨rfl, q⟩⟩
theorem e_aload {k : Nat} (hd : decode (yc y) pc = .ok (.aload k, 2)) (hp : pc + 2 = pc') : SG S y Q pc ls st h ↔ onR (lget ls k) (fun x => SG S y Q pc' ls (ar x :: st) h) := hp ▸ (SG_at hd).trans ⟨fun q => q.2, fun q => ⟨rfl, q⟩⟩
theorem e_istore_n {k : Fin 4} {k2 : Nat} {x : Int} (hd : decode (yc y) pc = .ok (.istore_n k, 1)) (hp : pc + 1 = pc') (hk : (k : Nat) = k2) (hn : k2 < yL y) : SG S y Q pc ls (ai x :: st) h ↔ SG S y Q pc' (lset ls k2 (ai x)) st h := by
  subst hk
  exact hp ▸ (SG_at hd).trans ⟨fun q => q.2.2, fun q => ⟨rfl, hn, q⟩⟩
theorem e_istore {k : Nat} {x : Int} (hd : decode (yc y) pc = .ok (.istore k, 2)) (hp : pc + 2 = pc') (hn : k < yL y) : SG S y Q pc ls (ai x :: st) h ↔ SG S y Q pc' (lset ls k (ai x)) st h := hp ▸ (SG_at hd).trans ⟨fun q => q.2.2, fun q => ⟨rfl, hn, q⟩⟩
theorem e_astore_n {k : Fin 4} {k2 : Nat} {x : Nat} (hd : decode (yc y) pc = .ok (.astore_n k, 1)) (hp : pc + 1 = pc') (hk : (k : Nat) = k2) (hn : k2 < yL y) : SG S y Q pc ls (ar x :: st) h ↔ SG S y Q pc' (lset ls k2 (ar x)) st h := by
  subst hk
  exact hp ▸ (SG_at hd).trans ⟨fun q => q.2.2, fun q => ⟨rfl, hn, q⟩⟩
theorem e_astore {k : Nat} {x : Nat} (hd : decode (yc y) pc = .ok (.astore k, 2)) (hp : pc + 2 = pc') (hn : k < yL y) : SG S y Q pc ls (ar x :: st) h ↔ SG S y Q pc' (lset ls k (ar x)) st h := hp ▸ (SG_at hd).trans ⟨fun q => q.2.2, fun q => ⟨rfl, hn, q⟩⟩
theorem e_iinc {k : Nat} {v : Int} (hd : decode (yc y) pc = .ok (.iinc k v, 3)) (hp : pc + 3 = pc') (hn : k < yL y) : SG S y Q pc ls st h ↔ onI (lget ls k) (fun x => SG S y Q pc' (lset ls k (ai (x + v))) st h) := hp ▸ (SG_at hd).trans ⟨fun q => q.2.2, fun q => ⟨rfl, hn, q⟩⟩
theorem e_iadd {a b : Int} (hd : decode (yc y) pc = .ok (.iadd, 1)) (hp : pc + 1 = pc') : SG S y Q pc ls (ai b :: ai a :: st) h ↔ SG S y Q pc' ls (ai (a + b) :: st) h := hp ▸ (SG_at hd).trans ⟨fun q => q.2, fun q => ⟨rfl, q⟩⟩
theorem e_isub {a b : Int} (hd : decode (yc y) pc = .ok (.isub, 1)) (hp : pc + 1 = pc') : SG S y Q pc ls (ai b :: ai a :: st) h ↔ SG S y Q pc' ls (ai (a - b) :: st) h := hp ▸ (SG_at hd).trans ⟨fun q => q.2, fun q => ⟨rfl, q⟩⟩
theorem e_imul {a b : Int} (hd : decode (yc y) pc = .ok (.imul, 1)) (hp : pc + 1 = pc') : SG S y Q pc ls (ai b :: ai a :: st) h ↔ SG S y Q pc' ls (ai (a * b) :: st) h := hp ▸ (SG_at hd).trans ⟨fun q => q.2, fun q => ⟨rfl, q⟩⟩
theorem e_iand {a b : Int} (hd : decode (yc y) pc = .ok (.iand, 1)) (hp : pc + 1 = pc') : SG S y Q pc ls (ai b :: ai a :: st) h ↔ SG S y Q pc' ls (ai ((Int32.ofInt a &&& Int32.ofInt b).toInt) :: st) h := hp ▸ (SG_at hd).trans ⟨fun q => q.2, fun q => ⟨rfl, q⟩⟩
theorem e_ishl {a b : Int} (hd : decode (yc y) pc = .ok (.ishl, 1)) (hp : pc + 1 = pc') : SG S y Q pc ls (ai b :: ai a :: st) h ↔ SG S y Q pc' ls (ai ((Int32.ofInt a <<< (Int32.ofInt b &&& 31)).toInt) :: st) h := hp ▸ (SG_at hd).trans ⟨fun q => q.2, fun q => ⟨rfl, q⟩⟩
theorem e_ishr {a b : Int} (hd : decode (yc y) pc = .ok (.ishr, 1)) (hp : pc + 1 = pc') : SG S y Q pc ls (ai b :: ai a :: st) h ↔ SG S y Q pc' ls (ai ((Int32.ofInt a >>> (Int32.ofInt b &&& 31)).toInt) :: st) h := hp ▸ (SG_at hd).trans ⟨fun q => q.2, fun q => ⟨rfl, q⟩⟩
theorem e_iushr {a b : Int} (hd : decode (yc y) pc = .ok (.iushr, 1)) (hp : pc + 1 = pc') : SG S y Q pc ls (ai b :: ai a :: st) h ↔ SG S y Q pc' ls (ai ((((Int32.ofInt a).toUInt32 >>> ((Int32.ofInt b).toUInt32 &&& Int32.toUInt32 31)).toInt32).toInt) :: st) h := hp ▸ (SG_at hd).trans ⟨fun q => q.2, fun q => ⟨rfl, q⟩⟩
theorem e_ineg {a : Int} (hd : decode (yc y) pc = .ok (.ineg, 1)) (hp : pc + 1 = pc') : SG S y Q pc ls (ai a :: st) h ↔ SG S y Q pc' ls (ai (-a) :: st) h := hp ▸ (SG_at hd).trans ⟨fun q => q.2, fun q => ⟨rfl, q⟩⟩
theorem e_idiv {a b : Int} (hd : decode (yc y) pc = .ok (.idiv, 1)) (hp : pc + 1 = pc') : SG S y Q pc ls (ai b :: ai a :: st) h ↔ inR a ∧ inR b ∧ ¬ b = 0 ∧ SG S y Q pc' ls (ai (a.tdiv b) :: st) h := hp ▸ (SG_at hd).trans ⟨fun q => q.2, fun q => ⟨rfl, q⟩⟩
theorem e_irem {a b : Int} (hd : decode (yc y) pc = .ok (.irem, 1)) (hp : pc + 1 = pc') : SG S y Q pc ls (ai b :: ai a :: st) h ↔ inR a ∧ inR b ∧ ¬ b = 0 ∧ SG S y Q pc' ls (ai (a - a.tdiv b * b) :: st) h := hp ▸ (SG_at hd).trans ⟨fun q => q.2, fun q => ⟨rfl, q⟩⟩
theorem e_land {a b : Int64} (hd : decode (yc y) pc = .ok (.land, 1)) (hp : pc + 1 = pc') : SG S y Q pc ls (al b :: al a :: st) h ↔ SG S y Q pc' ls (al (a &&& b) :: st) h := hp ▸ (SG_at hd).trans ⟨fun q => q.2, fun q => ⟨rfl, q⟩⟩
theorem e_lor {a b : Int64} (hd : decode (yc y) pc = .ok (.lor, 1)) (hp : pc + 1 = pc') : SG S y Q pc ls (al b :: al a :: st) h ↔ SG S y Q pc' ls (al (a ||| b) :: st) h := hp ▸ (SG_at hd).trans ⟨fun q => q.2, fun q => ⟨rfl, q⟩⟩
theorem e_lshl {a : Int64} {b : Int} (hd : decode (yc y) pc = .ok (.lshl, 1)) (hp : pc + 1 = pc') : SG S y Q pc ls (ai b :: al a :: st) h ↔ SG S y Q pc' ls (al (a <<< ((Int32.ofInt b).toInt64 &&& 63)) :: st) h := hp ▸ (SG_at hd).trans ⟨fun q => q.2, fun q => ⟨rfl, q⟩⟩
theorem e_lshr {a : Int64} {b : Int} (hd : decode (yc y) pc = .ok (.lshr, 1)) (hp : pc + 1 = pc') : SG S y Q pc ls (ai b :: al a :: st) h ↔ SG S y Q pc' ls (al (a >>> ((Int32.ofInt b).toInt64 &&& 63)) :: st) h := hp ▸ (SG_at hd).trans ⟨fun q => q.2, fun q => ⟨rfl, q⟩⟩
theorem e_lcmp {a b : Int64} (hd : decode (yc y) pc = .ok (.lcmp, 1)) (hp : pc + 1 = pc') : SG S y Q pc ls (al b :: al a :: st) h ↔ SG S y Q pc' ls (ai (lg_cmp a b).toInt :: st) h := hp ▸ (SG_at hd).trans ⟨fun q => q.2, fun q => ⟨rfl, q⟩⟩
theorem e_dup {k : Nat} (hd : decode (yc y) pc = .ok (.dup, 1)) (hp : pc + 1 = pc') : SG S y Q pc ls (ar k :: st) h ↔ SG S y Q pc' ls (ar k :: ar k :: st) h := hp ▸ (SG_at hd).trans ⟨fun q => q.2.2, fun q => ⟨rfl, trivial, q⟩⟩
theorem e_dup2 {i : Int} {k : Nat} (hd : decode (yc y) pc = .ok (.dup2, 1)) (hp : pc + 1 = pc') : SG S y Q pc ls (ai i :: ar k :: st) h ↔ SG S y Q pc' ls (ai i :: ar k :: ai i :: ar k :: st) h := hp ▸ (SG_at hd).trans ⟨fun q => q.2, fun q => ⟨rfl, q⟩⟩
theorem tgt_eq {pc t : Nat} {off : Int} (h : (pc : Int) + off = (t : Int)) : tgt pc off = t := by unfold tgt; rw [h]; exact Int.toNat_natCast t
theorem e_goto {off : Int} {t : Nat} (hd : decode (yc y) pc = .ok (.goto off, 3)) (ht : (pc : Int) + off = (t : Int)) : SG S y Q pc ls st h ↔ SG S y Q t ls st h := by
  have e := tgt_eq ht
  subst e
  exact (SG_at hd).trans ⟨fun q => q.2.2, fun q => ⟨rfl, ht, q⟩⟩
theorem e_icmp_eq {off a b : Int} {t : Nat} (hd : decode (yc y) pc = .ok (.if_icmp .eq off, 3)) (hp : pc + 3 = pc') (ht : (pc : Int) + off = (t : Int)) : SG S y Q pc ls (ai b :: ai a :: st) h ↔ inR a ∧ inR b ∧ (a = b → SG S y Q t ls st h) ∧ (¬ (a = b) → SG S y Q pc' ls st h) := by
  have e := tgt_eq ht
  subst e
  exact hp ▸ (SG_at hd).trans ⟨fun q => q.2.2, fun q => ⟨rfl, ht, q⟩⟩
theorem e_if_eq {off a : Int} {t : Nat} (hd : decode (yc y) pc = .ok (.ifCond .eq off, 3)) (hp : pc + 3 = pc') (ht : (pc : Int) + off = (t : Int)) : SG S y Q pc ls (ai a :: st) h ↔ inR a ∧ (a = 0 → SG S y Q t ls st h) ∧ (¬ (a = 0) → SG S y Q pc' ls st h) := by
  have e := tgt_eq ht
  subst e
  exact hp ▸ (SG_at hd).trans ⟨fun q => q.2.2, fun q => ⟨rfl, ht, q⟩⟩
theorem e_icmp_ne {off a b : Int} {t : Nat} (hd : decode (yc y) pc = .ok (.if_icmp .ne off, 3)) (hp : pc + 3 = pc') (ht : (pc : Int) + off = (t : Int)) : SG S y Q pc ls (ai b :: ai a :: st) h ↔ inR a ∧ inR b ∧ (¬ a = b → SG S y Q t ls st h) ∧ (¬ ¬ a = b → SG S y Q pc' ls st h) := by
  have e := tgt_eq ht
  subst e
  exact hp ▸ (SG_at hd).trans ⟨fun q => q.2.2, fun q => ⟨rfl, ht, q⟩⟩
theorem e_if_ne {off a : Int} {t : Nat} (hd : decode (yc y) pc = .ok (.ifCond .ne off, 3)) (hp : pc + 3 = pc') (ht : (pc : Int) + off = (t : Int)) : SG S y Q pc ls (ai a :: st) h ↔ inR a ∧ (¬ a = 0 → SG S y Q t ls st h) ∧ (¬ ¬ a = 0 → SG S y Q pc' ls st h) := by
  have e := tgt_eq ht
  subst e
  exact hp ▸ (SG_at hd).trans ⟨fun q => q.2.2, fun q => ⟨rfl, ht, q⟩⟩
theorem e_icmp_lt {off a b : Int} {t : Nat} (hd : decode (yc y) pc = .ok (.if_icmp .lt off, 3)) (hp : pc + 3 = pc') (ht : (pc : Int) + off = (t : Int)) : SG S y Q pc ls (ai b :: ai a :: st) h ↔ inR a ∧ inR b ∧ (a < b → SG S y Q t ls st h) ∧ (¬ (a < b) → SG S y Q pc' ls st h) := by
  have e := tgt_eq ht
  subst e
  exact hp ▸ (SG_at hd).trans ⟨fun q => q.2.2, fun q => ⟨rfl, ht, q⟩⟩
theorem e_if_lt {off a : Int} {t : Nat} (hd : decode (yc y) pc = .ok (.ifCond .lt off, 3)) (hp : pc + 3 = pc') (ht : (pc : Int) + off = (t : Int)) : SG S y Q pc ls (ai a :: st) h ↔ inR a ∧ (a < 0 → SG S y Q t ls st h) ∧ (¬ (a < 0) → SG S y Q pc' ls st h) := by
  have e := tgt_eq ht
  subst e
  exact hp ▸ (SG_at hd).trans ⟨fun q => q.2.2, fun q => ⟨rfl, ht, q⟩⟩
theorem e_icmp_ge {off a b : Int} {t : Nat} (hd : decode (yc y) pc = .ok (.if_icmp .ge off, 3)) (hp : pc + 3 = pc') (ht : (pc : Int) + off = (t : Int)) : SG S y Q pc ls (ai b :: ai a :: st) h ↔ inR a ∧ inR b ∧ (b ≤ a → SG S y Q t ls st h) ∧ (¬ (b ≤ a) → SG S y Q pc' ls st h) := by
  have e := tgt_eq ht
  subst e
  exact hp ▸ (SG_at hd).trans ⟨fun q => q.2.2, fun q => ⟨rfl, ht, q⟩⟩
theorem e_if_ge {off a : Int} {t : Nat} (hd : decode (yc y) pc = .ok (.ifCond .ge off, 3)) (hp : pc + 3 = pc') (ht : (pc : Int) + off = (t : Int)) : SG S y Q pc ls (ai a :: st) h ↔ inR a ∧ (0 ≤ a → SG S y Q t ls st h) ∧ (¬ (0 ≤ a) → SG S y Q pc' ls st h) := by
  have e := tgt_eq ht
  subst e
  exact hp ▸ (SG_at hd).trans ⟨fun q => q.2.2, fun q => ⟨rfl, ht, q⟩⟩
theorem e_icmp_gt {off a b : Int} {t : Nat} (hd : decode (yc y) pc = .ok (.if_icmp .gt off, 3)) (hp : pc + 3 = pc') (ht : (pc : Int) + off = (t : Int)) : SG S y Q pc ls (ai b :: ai a :: st) h ↔ inR a ∧ inR b ∧ (b < a → SG S y Q t ls st h) ∧ (¬ (b < a) → SG S y Q pc' ls st h) := by
  have e := tgt_eq ht
  subst e
  exact hp ▸ (SG_at hd).trans ⟨fun q => q.2.2, fun q => ⟨rfl, ht, q⟩⟩
theorem e_if_gt {off a : Int} {t : Nat} (hd : decode (yc y) pc = .ok (.ifCond .gt off, 3)) (hp : pc + 3 = pc') (ht : (pc : Int) + off = (t : Int)) : SG S y Q pc ls (ai a :: st) h ↔ inR a ∧ (0 < a → SG S y Q t ls st h) ∧ (¬ (0 < a) → SG S y Q pc' ls st h) := by
  have e := tgt_eq ht
  subst e
  exact hp ▸ (SG_at hd).trans ⟨fun q => q.2.2, fun q => ⟨rfl, ht, q⟩⟩
theorem e_icmp_le {off a b : Int} {t : Nat} (hd : decode (yc y) pc = .ok (.if_icmp .le off, 3)) (hp : pc + 3 = pc') (ht : (pc : Int) + off = (t : Int)) : SG S y Q pc ls (ai b :: ai a :: st) h ↔ inR a ∧ inR b ∧ (a ≤ b → SG S y Q t ls st h) ∧ (¬ (a ≤ b) → SG S y Q pc' ls st h) := by
  have e := tgt_eq ht
  subst e
  exact hp ▸ (SG_at hd).trans ⟨fun q => q.2.2, fun q => ⟨rfl, ht, q⟩⟩
theorem e_if_le {off a : Int} {t : Nat} (hd : decode (yc y) pc = .ok (.ifCond .le off, 3)) (hp : pc + 3 = pc') (ht : (pc : Int) + off = (t : Int)) : SG S y Q pc ls (ai a :: st) h ↔ inR a ∧ (a ≤ 0 → SG S y Q t ls st h) ∧ (¬ (a ≤ 0) → SG S y Q pc' ls st h) := by
  have e := tgt_eq ht
  subst e
  exact hp ▸ (SG_at hd).trans ⟨fun q => q.2.2, fun q => ⟨rfl, ht, q⟩⟩
theorem e_getf {i ci j k : Nat} (hd : decode (yc y) pc = .ok (.getfield i, 3)) (hp : pc + 3 = pc') (hf : ft y.1 i = some (ci, j)) : SG S y Q pc ls (ar k :: st) h ↔ onS (slotK S k ci j) (fun sk => SG S y Q pc' ls (slotA sk (h k j) :: st) h) := by
  subst hp
  refine (SG_at hd).trans ⟨fun q => ?_, fun q => ⟨rfl, ?_⟩⟩
  · have q2 : onS (ft y.1 i) (fun e => onS (slotK S k e.1 e.2) (fun sk => SG S y Q (pc + 3) ls (slotA sk (h k e.2) :: st) h)) := q.2
    rw [hf] at q2; exact q2
  · show onS (ft y.1 i) (fun e => onS (slotK S k e.1 e.2) (fun sk => SG S y Q (pc + 3) ls (slotA sk (h k e.2) :: st) h))
    rw [hf]; exact q
theorem e_putf {i ci j k : Nat} {v : AV} (hd : decode (yc y) pc = .ok (.putfield i, 3)) (hp : pc + 3 = pc') (hf : ft y.1 i = some (ci, j)) : SG S y Q pc ls (v :: ar k :: st) h ↔ onS (slotK S k ci j) (fun sk => ptk sk v (fun x => SG S y Q pc' ls st (updC h k (updA (h k) j x)))) := by
  subst hp
  refine (SG_at hd).trans ⟨fun q => ?_, fun q => ⟨rfl, ?_⟩⟩
  · have q2 : onS (ft y.1 i) (fun e => onS (slotK S k e.1 e.2) (fun sk => ptk sk v (fun x => SG S y Q (pc + 3) ls st (updC h k (updA (h k) e.2 x))))) := q.2
    rw [hf] at q2; exact q2
  · show onS (ft y.1 i) (fun e => onS (slotK S k e.1 e.2) (fun sk => ptk sk v (fun x => SG S y Q (pc + 3) ls st (updC h k (updA (h k) e.2 x)))))
    rw [hf]; exact q
theorem e_gets {i j : Nat} (hd : decode (yc y) pc = .ok (.getstatic i, 3)) (hp : pc + 3 = pc') (hs : sOf S y.1 i = some j) : SG S y Q pc ls st h ↔ SG S y Q pc' ls (ar (1000 + j) :: st) h := by
  subst hp
  refine (SG_at hd).trans ⟨fun q => ?_, fun q => ⟨rfl, ?_⟩⟩
  · have q2 : onS (sOf S y.1 i) (fun j => SG S y Q (pc + 3) ls (ar (1000 + j) :: st) h) := q.2
    rw [hs] at q2; exact q2
  · show onS (sOf S y.1 i) (fun j => SG S y Q (pc + 3) ls (ar (1000 + j) :: st) h)
    rw [hs]; exact q
theorem e_iald {i : Int} {k : Nat} (hd : decode (yc y) pc = .ok (.iaload, 1)) (hp : pc + 1 = pc') : SG S y Q pc ls (ai i :: ar k :: st) h ↔ aldP (arrK S k 0) (staK S k) (fun n => (0 ≤ i ∧ i < n) ∧ SG S y Q pc' ls (ai (h k i.toNat) :: st) h) (fun vs => (0 ≤ i ∧ i < vs.length ∧ vs.length < 2147483648) ∧ SG S y Q pc' ls (ai (vs.getD i.toNat 0) :: st) h) :=
  hp ▸ (SG_at hd).trans ⟨fun q => q.2, fun q => ⟨rfl, q⟩⟩
theorem e_bald {i : Int} {k : Nat} (hd : decode (yc y) pc = .ok (.baload, 1)) (hp : pc + 1 = pc') : SG S y Q pc ls (ai i :: ar k :: st) h ↔ onS (arrK S k 1) (fun n => (0 ≤ i ∧ i < n) ∧ SG S y Q pc' ls (ai (h k i.toNat) :: st) h) :=
  hp ▸ (SG_at hd).trans ⟨fun q => q.2, fun q => ⟨rfl, q⟩⟩
theorem e_iast {i x : Int} {k : Nat} (hd : decode (yc y) pc = .ok (.iastore, 1)) (hp : pc + 1 = pc') : SG S y Q pc ls (ai x :: ai i :: ar k :: st) h ↔ onS (arrK S k 0) (fun n => (0 ≤ i ∧ i < n) ∧ SG S y Q pc' ls st (updC h k (updA (h k) i.toNat x))) :=
  hp ▸ (SG_at hd).trans ⟨fun q => q.2, fun q => ⟨rfl, q⟩⟩
theorem e_bast {i x : Int} {k : Nat} (hd : decode (yc y) pc = .ok (.bastore, 1)) (hp : pc + 1 = pc') : SG S y Q pc ls (ai x :: ai i :: ar k :: st) h ↔ onS (arrK S k 1) (fun n => (0 ≤ i ∧ i < n) ∧ (x = 0 ∨ x = 1) ∧ SG S y Q pc' ls st (updC h k (updA (h k) i.toNat x))) :=
  hp ▸ (SG_at hd).trans ⟨fun q => q.2, fun q => ⟨rfl, q⟩⟩
theorem e_aald {i : Int} {k : Nat} (hd : decode (yc y) pc = .ok (.aaload, 1)) (hp : pc + 1 = pc') : SG S y Q pc ls (ai i :: ar k :: st) h ↔ onS (refK S k) (fun rs => (0 ≤ i ∧ i < rs.length) ∧ SG S y Q pc' ls (ar (rs.getD i.toNat 0) :: st) h) :=
  hp ▸ (SG_at hd).trans ⟨fun q => q.2, fun q => ⟨rfl, q⟩⟩
theorem e_alen {k : Nat} (hd : decode (yc y) pc = .ok (.arraylength, 1)) (hp : pc + 1 = pc') : SG S y Q pc ls (ar k :: st) h ↔ onS (arrK S k 0) (fun n => SG S y Q pc' ls (ai n :: st) h) :=
  hp ▸ (SG_at hd).trans ⟨fun q => q.2, fun q => ⟨rfl, q⟩⟩
theorem e_iret {v : Int} (hd : decode (yc y) pc = .ok (.ireturn, 1)) (hy : yr y = some .int) : SG S y Q pc ls [ai v] h ↔ Q (some (ai v)) h := by
  have e : retQ y Q [ai v] h ↔ Q (some (ai v)) h := by unfold retQ; rw [hy]
  exact (SG_at hd).trans ⟨fun q => e.mp q.2, fun q => ⟨rfl, e.mpr q⟩⟩
theorem e_zret {v : Int} (hd : decode (yc y) pc = .ok (.ireturn, 1)) (hy : yr y = some .boolean) : SG S y Q pc ls [ai v] h ↔ (v = 0 ∨ v = 1) ∧ Q (some (ai v)) h := by
  have e : retQ y Q [ai v] h ↔ (v = 0 ∨ v = 1) ∧ Q (some (ai v)) h := by unfold retQ; rw [hy]
  exact (SG_at hd).trans ⟨fun q => e.mp q.2, fun q => ⟨rfl, e.mpr q⟩⟩
theorem e_vret (hd : decode (yc y) pc = .ok (.return_, 1)) (hy : yr y = none) : SG S y Q pc ls [] h ↔ Q none h :=
  (SG_at hd).trans ⟨fun q => q.2.2.2, fun q => ⟨rfl, rfl, hy, q⟩⟩
theorem e_aret {k : Nat} {nm : String} (hd : decode (yc y) pc = .ok (.areturn, 1)) (hy : yr y = some (.object nm)) : SG S y Q pc ls [ar k] h ↔ Q (some (ar k)) h := by
  have e : aretQ y Q [ar k] h ↔ Q (some (ar k)) h := by unfold aretQ; rw [hy]
  exact (SG_at hd).trans ⟨fun q => e.mp q.2, fun q => ⟨rfl, e.mpr q⟩⟩
theorem e_tsw {d lo hi : Int} {offs : Array Int} {n : Nat} {a : Int} (hd : decode (yc y) pc = .ok (.tableswitch d lo hi offs, n)) (hr : inR a) (hO : (a < lo ∨ hi < a) → (pc : Int) + d = (tgt pc d : Int) ∧ SG S y Q (tgt pc d) ls st h) (hN : ¬ (a < lo ∨ hi < a) → ∃ off, offs[(a - lo).toNat]? = some off ∧ (pc : Int) + off = (tgt pc off : Int) ∧ SG S y Q (tgt pc off) ls st h) : SG S y Q pc ls (ai a :: st) h :=
  (SG_at hd).mpr ⟨hr, hO, hN⟩
theorem k_V {i n k : Nat} {z : MI} {as rest : List AV} {R : Option AV → AH → Prop} (hd : decode (yc y) pc = .ok (.invokevirtual i, 3)) (hp : pc + 3 = pc') (hc : ct y.1 i = some (0, z, n)) (hrm : rmOk y z) (hpop : popN n [] st = some (as, ar k :: rest)) (hl : rest.length ≤ 4) (ho : objK S k = some z.1) (hOk : Ok S z (ar k :: as) h R) (hX : ∀ r h', R r h' → SG S y Q pc' ls (r.toList ++ rest) h') : SG S y Q pc ls st h := by
  subst hp
  refine (SG_at hd).mpr ⟨rfl, ?_⟩
  show onS (ct y.1 i) _
  rw [hc]
  refine ⟨rfl, ?_⟩
  show onS (popN n [] st) _
  rw [hpop]
  exact ⟨hl, ho, hrm, R, hOk, hX⟩
theorem k_V1 {i n k : Nat} {z : MI} {as rest : List AV} {v : AV} {h' : AH} (hd : decode (yc y) pc = .ok (.invokevirtual i, 3)) (hp : pc + 3 = pc') (hc : ct y.1 i = some (0, z, n)) (hrm : rmOk y z) (hpop : popN n [] st = some (as, ar k :: rest)) (hl : rest.length ≤ 4) (ho : objK S k = some z.1) (hOk : Ok S z (ar k :: as) h (fun r h2 => r = some v ∧ h2 = h')) (hX : SG S y Q pc' ls (v :: rest) h') : SG S y Q pc ls st h :=
  k_V hd hp hc hrm hpop hl ho hOk (fun r h2 q => by obtain ⟨rfl, rfl⟩ := q; exact hX)
theorem k_V0 {i n k : Nat} {z : MI} {as rest : List AV} {h' : AH} (hd : decode (yc y) pc = .ok (.invokevirtual i, 3)) (hp : pc + 3 = pc') (hc : ct y.1 i = some (0, z, n)) (hrm : rmOk y z) (hpop : popN n [] st = some (as, ar k :: rest)) (hl : rest.length ≤ 4) (ho : objK S k = some z.1) (hOk : Ok S z (ar k :: as) h (fun r h2 => r = none ∧ h2 = h')) (hX : SG S y Q pc' ls rest h') : SG S y Q pc ls st h :=
  k_V hd hp hc hrm hpop hl ho hOk (fun r h2 q => by obtain ⟨rfl, rfl⟩ := q; exact hX)
theorem k_S {i n : Nat} {z : MI} {as rest : List AV} {R : Option AV → AH → Prop} (hd : decode (yc y) pc = .ok (.invokestatic i, 3)) (hp : pc + 3 = pc') {kd : Nat} (hc : ct y.1 i = some (kd, z, n)) (hk : kd = 1 ∨ (kd = 2 ∧ Cond.methodLinkNest (clsName y.1) i (yn z) "FireLines" ∈ S.2.2.2)) (hrm : rmOk y z) (hpop : popN n [] st = some (as, rest)) (hl : rest.length ≤ 4) (hOk : Ok S z as h R) (hX : ∀ r h', R r h' → SG S y Q pc' ls (r.toList ++ rest) h') : SG S y Q pc ls st h := by
  subst hp
  refine (SG_at hd).mpr ⟨rfl, ?_⟩
  simp only [hc]
  refine ⟨hk, ?_⟩
  show onS (popN n [] st) _
  rw [hpop]
  exact ⟨hl, hrm, R, hOk, hX⟩
theorem k_S1 {i n : Nat} {z : MI} {as rest : List AV} {v : AV} {h' : AH} (hd : decode (yc y) pc = .ok (.invokestatic i, 3)) (hp : pc + 3 = pc') {kd : Nat} (hc : ct y.1 i = some (kd, z, n)) (hk : kd = 1 ∨ (kd = 2 ∧ Cond.methodLinkNest (clsName y.1) i (yn z) "FireLines" ∈ S.2.2.2)) (hrm : rmOk y z) (hpop : popN n [] st = some (as, rest)) (hl : rest.length ≤ 4) (hOk : Ok S z as h (fun r h2 => r = some v ∧ h2 = h')) (hX : SG S y Q pc' ls (v :: rest) h') : SG S y Q pc ls st h :=
  k_S hd hp hc hk hrm hpop hl hOk (fun r h2 q => by obtain ⟨rfl, rfl⟩ := q; exact hX)
theorem k_S0 {i n : Nat} {z : MI} {as rest : List AV} {h' : AH} (hd : decode (yc y) pc = .ok (.invokestatic i, 3)) (hp : pc + 3 = pc') {kd : Nat} (hc : ct y.1 i = some (kd, z, n)) (hk : kd = 1 ∨ (kd = 2 ∧ Cond.methodLinkNest (clsName y.1) i (yn z) "FireLines" ∈ S.2.2.2)) (hrm : rmOk y z) (hpop : popN n [] st = some (as, rest)) (hl : rest.length ≤ 4) (hOk : Ok S z as h (fun r h2 => r = none ∧ h2 = h')) (hX : SG S y Q pc' ls rest h') : SG S y Q pc ls st h :=
  k_S hd hp hc hk hrm hpop hl hOk (fun r h2 q => by obtain ⟨rfl, rfl⟩ := q; exact hX)
theorem e_min {i : Nat} {a b : Int} (hd : decode (yc y) pc = .ok (.invokestatic i, 3)) (hp : pc + 3 = pc') (hc : ct y.1 i = none) (hm : mt y.1 i = some 0) (hr : 1 ≤ y.2.2.2.2.2.2.1 ∧ 21 ≤ y.2.2.2.2.2.2.2) : SG S y Q pc ls (ai b :: ai a :: st) h ↔ st.length ≤ 4 ∧ inR a ∧ inR b ∧ SG S y Q pc' ls (ai (if b < a then b else a) :: st) h := by
  subst hp
  refine (SG_at hd).trans ?_
  simp only [stI, hc, hm]
  exact ⟨fun q => q.2.2, fun q => ⟨trivial, hr, q⟩⟩
theorem e_max {i : Nat} {a b : Int} (hd : decode (yc y) pc = .ok (.invokestatic i, 3)) (hp : pc + 3 = pc') (hc : ct y.1 i = none) (hm : mt y.1 i = some 1) (hr : 1 ≤ y.2.2.2.2.2.2.1 ∧ 21 ≤ y.2.2.2.2.2.2.2) : SG S y Q pc ls (ai b :: ai a :: st) h ↔ st.length ≤ 4 ∧ inR a ∧ inR b ∧ SG S y Q pc' ls (ai (if a < b then b else a) :: st) h := by
  subst hp
  refine (SG_at hd).trans ?_
  simp only [stI, hc, hm]
  exact ⟨fun q => q.2.2, fun q => ⟨trivial, hr, q⟩⟩
theorem e_abs {i : Nat} {a : Int} (hd : decode (yc y) pc = .ok (.invokestatic i, 3)) (hp : pc + 3 = pc') (hc : ct y.1 i = none) (hm : mt y.1 i = some 2) (hr : 1 ≤ y.2.2.2.2.2.2.1 ∧ 21 ≤ y.2.2.2.2.2.2.2) : SG S y Q pc ls (ai a :: st) h ↔ st.length ≤ 4 ∧ inR a ∧ SG S y Q pc' ls (ai (if 0 ≤ a then a else -a) :: st) h := by
  subst hp
  refine (SG_at hd).trans ?_
  simp only [stI, hc, hm]
  exact ⟨fun q => q.2.2, fun q => ⟨trivial, hr, q⟩⟩
theorem k_copy {i k0 k1 n0 n1 : Nat} {sp dp n : Int} (hd : decode (yc y) pc = .ok (.invokestatic i, 3)) (hp : pc + 3 = pc') (hc : ct y.1 i = none) (hm : mt y.1 i = none) (hac : acOk y i) (hl : st.length ≤ 4) (a0 : arrK S k0 0 = some n0) (a1 : arrK S k1 0 = some n1) (hb : 0 ≤ sp ∧ 0 ≤ dp ∧ 0 ≤ n ∧ sp + n ≤ n0 ∧ dp + n ≤ n1) (hX : SG S y Q pc' ls st (updC h k1 (cpyA (h k0) (h k1) sp.toNat dp.toNat n.toNat))) : SG S y Q pc ls (ai n :: ai dp :: ar k1 :: ai sp :: ar k0 :: st) h := by
  subst hp
  refine (SG_at hd).mpr ⟨rfl, ?_⟩
  simp only [hc, hm]
  refine ⟨hac, hl, ?_⟩
  rw [a0]
  show onS (arrK S k1 0) _
  rw [a1]
  exact ⟨hb.1, hb.2.1, hb.2.2.1, hb.2.2.2.1, hb.2.2.2.2, hX⟩
end Eqs
theorem lg_0 {x0 : AV} {t : List AV} : lget (x0 :: t) 0 = x0 := rfl
theorem lz_0 {x0 v : AV} {t : List AV} : lset (x0 :: t) 0 v = v :: t := rfl
theorem lg_1 {x0 x1 : AV} {t : List AV} : lget (x0 :: x1 :: t) 1 = x1 := rfl
theorem lz_1 {x0 x1 v : AV} {t : List AV} : lset (x0 :: x1 :: t) 1 v = x0 :: v :: t := rfl
theorem lg_2 {x0 x1 x2 : AV} {t : List AV} : lget (x0 :: x1 :: x2 :: t) 2 = x2 := rfl
theorem lz_2 {x0 x1 x2 v : AV} {t : List AV} : lset (x0 :: x1 :: x2 :: t) 2 v = x0 :: x1 :: v :: t := rfl
theorem lg_3 {x0 x1 x2 x3 : AV} {t : List AV} : lget (x0 :: x1 :: x2 :: x3 :: t) 3 = x3 := rfl
theorem lz_3 {x0 x1 x2 x3 v : AV} {t : List AV} : lset (x0 :: x1 :: x2 :: x3 :: t) 3 v = x0 :: x1 :: x2 :: v :: t := rfl
theorem lg_4 {x0 x1 x2 x3 x4 : AV} {t : List AV} : lget (x0 :: x1 :: x2 :: x3 :: x4 :: t) 4 = x4 := rfl
theorem lz_4 {x0 x1 x2 x3 x4 v : AV} {t : List AV} : lset (x0 :: x1 :: x2 :: x3 :: x4 :: t) 4 v = x0 :: x1 :: x2 :: x3 :: v :: t := rfl
theorem lg_5 {x0 x1 x2 x3 x4 x5 : AV} {t : List AV} : lget (x0 :: x1 :: x2 :: x3 :: x4 :: x5 :: t) 5 = x5 := rfl
theorem lz_5 {x0 x1 x2 x3 x4 x5 v : AV} {t : List AV} : lset (x0 :: x1 :: x2 :: x3 :: x4 :: x5 :: t) 5 v = x0 :: x1 :: x2 :: x3 :: x4 :: v :: t := rfl
theorem lg_6 {x0 x1 x2 x3 x4 x5 x6 : AV} {t : List AV} : lget (x0 :: x1 :: x2 :: x3 :: x4 :: x5 :: x6 :: t) 6 = x6 := rfl
theorem lz_6 {x0 x1 x2 x3 x4 x5 x6 v : AV} {t : List AV} : lset (x0 :: x1 :: x2 :: x3 :: x4 :: x5 :: x6 :: t) 6 v = x0 :: x1 :: x2 :: x3 :: x4 :: x5 :: v :: t := rfl
theorem lg_7 {x0 x1 x2 x3 x4 x5 x6 x7 : AV} {t : List AV} : lget (x0 :: x1 :: x2 :: x3 :: x4 :: x5 :: x6 :: x7 :: t) 7 = x7 := rfl
theorem lz_7 {x0 x1 x2 x3 x4 x5 x6 x7 v : AV} {t : List AV} : lset (x0 :: x1 :: x2 :: x3 :: x4 :: x5 :: x6 :: x7 :: t) 7 v = x0 :: x1 :: x2 :: x3 :: x4 :: x5 :: x6 :: v :: t := rfl
theorem lg_8 {x0 x1 x2 x3 x4 x5 x6 x7 x8 : AV} {t : List AV} : lget (x0 :: x1 :: x2 :: x3 :: x4 :: x5 :: x6 :: x7 :: x8 :: t) 8 = x8 := rfl
theorem lz_8 {x0 x1 x2 x3 x4 x5 x6 x7 x8 v : AV} {t : List AV} : lset (x0 :: x1 :: x2 :: x3 :: x4 :: x5 :: x6 :: x7 :: x8 :: t) 8 v = x0 :: x1 :: x2 :: x3 :: x4 :: x5 :: x6 :: x7 :: v :: t := rfl
theorem lg_9 {x0 x1 x2 x3 x4 x5 x6 x7 x8 x9 : AV} {t : List AV} : lget (x0 :: x1 :: x2 :: x3 :: x4 :: x5 :: x6 :: x7 :: x8 :: x9 :: t) 9 = x9 := rfl
theorem lz_9 {x0 x1 x2 x3 x4 x5 x6 x7 x8 x9 v : AV} {t : List AV} : lset (x0 :: x1 :: x2 :: x3 :: x4 :: x5 :: x6 :: x7 :: x8 :: x9 :: t) 9 v = x0 :: x1 :: x2 :: x3 :: x4 :: x5 :: x6 :: x7 :: x8 :: v :: t := rfl
theorem lg_10 {x0 x1 x2 x3 x4 x5 x6 x7 x8 x9 x10 : AV} {t : List AV} : lget (x0 :: x1 :: x2 :: x3 :: x4 :: x5 :: x6 :: x7 :: x8 :: x9 :: x10 :: t) 10 = x10 := rfl
theorem lz_10 {x0 x1 x2 x3 x4 x5 x6 x7 x8 x9 x10 v : AV} {t : List AV} : lset (x0 :: x1 :: x2 :: x3 :: x4 :: x5 :: x6 :: x7 :: x8 :: x9 :: x10 :: t) 10 v = x0 :: x1 :: x2 :: x3 :: x4 :: x5 :: x6 :: x7 :: x8 :: x9 :: v :: t := rfl
theorem lg_11 {x0 x1 x2 x3 x4 x5 x6 x7 x8 x9 x10 x11 : AV} {t : List AV} : lget (x0 :: x1 :: x2 :: x3 :: x4 :: x5 :: x6 :: x7 :: x8 :: x9 :: x10 :: x11 :: t) 11 = x11 := rfl
theorem lz_11 {x0 x1 x2 x3 x4 x5 x6 x7 x8 x9 x10 x11 v : AV} {t : List AV} : lset (x0 :: x1 :: x2 :: x3 :: x4 :: x5 :: x6 :: x7 :: x8 :: x9 :: x10 :: x11 :: t) 11 v = x0 :: x1 :: x2 :: x3 :: x4 :: x5 :: x6 :: x7 :: x8 :: x9 :: x10 :: v :: t := rfl
theorem lg_12 {x0 x1 x2 x3 x4 x5 x6 x7 x8 x9 x10 x11 x12 : AV} {t : List AV} : lget (x0 :: x1 :: x2 :: x3 :: x4 :: x5 :: x6 :: x7 :: x8 :: x9 :: x10 :: x11 :: x12 :: t) 12 = x12 := rfl
theorem lz_12 {x0 x1 x2 x3 x4 x5 x6 x7 x8 x9 x10 x11 x12 v : AV} {t : List AV} : lset (x0 :: x1 :: x2 :: x3 :: x4 :: x5 :: x6 :: x7 :: x8 :: x9 :: x10 :: x11 :: x12 :: t) 12 v = x0 :: x1 :: x2 :: x3 :: x4 :: x5 :: x6 :: x7 :: x8 :: x9 :: x10 :: x11 :: v :: t := rfl
theorem lg_13 {x0 x1 x2 x3 x4 x5 x6 x7 x8 x9 x10 x11 x12 x13 : AV} {t : List AV} : lget (x0 :: x1 :: x2 :: x3 :: x4 :: x5 :: x6 :: x7 :: x8 :: x9 :: x10 :: x11 :: x12 :: x13 :: t) 13 = x13 := rfl
theorem lz_13 {x0 x1 x2 x3 x4 x5 x6 x7 x8 x9 x10 x11 x12 x13 v : AV} {t : List AV} : lset (x0 :: x1 :: x2 :: x3 :: x4 :: x5 :: x6 :: x7 :: x8 :: x9 :: x10 :: x11 :: x12 :: x13 :: t) 13 v = x0 :: x1 :: x2 :: x3 :: x4 :: x5 :: x6 :: x7 :: x8 :: x9 :: x10 :: x11 :: x12 :: v :: t := rfl
theorem lg_14 {x0 x1 x2 x3 x4 x5 x6 x7 x8 x9 x10 x11 x12 x13 x14 : AV} {t : List AV} : lget (x0 :: x1 :: x2 :: x3 :: x4 :: x5 :: x6 :: x7 :: x8 :: x9 :: x10 :: x11 :: x12 :: x13 :: x14 :: t) 14 = x14 := rfl
theorem lz_14 {x0 x1 x2 x3 x4 x5 x6 x7 x8 x9 x10 x11 x12 x13 x14 v : AV} {t : List AV} : lset (x0 :: x1 :: x2 :: x3 :: x4 :: x5 :: x6 :: x7 :: x8 :: x9 :: x10 :: x11 :: x12 :: x13 :: x14 :: t) 14 v = x0 :: x1 :: x2 :: x3 :: x4 :: x5 :: x6 :: x7 :: x8 :: x9 :: x10 :: x11 :: x12 :: x13 :: v :: t := rfl
theorem uc_s {h : AH} {k : Nat} {f : Nat → Int} : updC h k f k = f := by simp [updC]
theorem uc_n {h : AH} {k q : Nat} {f : Nat → Int} (hq : ¬ q = k) : updC h k f q = h q := by simp [updC, hq]
theorem uc_uc {h : AH} {k : Nat} {f g : Nat → Int} : updC (updC h k f) k g = updC h k g := by funext q; by_cases hq : q = k <;> simp [updC, hq]
theorem ua_s {f : Nat → Int} {i : Nat} {x : Int} : updA f i x i = x := by simp [updA]
theorem ua_n {f : Nat → Int} {i j : Nat} {x : Int} (hj : ¬ j = i) : updA f i x j = f j := by simp [updA, hj]
