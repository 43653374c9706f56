def shOk (S : SH) : Prop := (∀ (k : Nat) (n t : Nat), S.1[k]? = some (.inl (n, t)) → n < 2147483648 ∧ ((t = 0 ∧ S.2.1[0]? = some .int) ∨ (t = 1 ∧ S.2.1[1]? = some .boolean))) ∧
  (∀ (k : Nat) (rs : List Nat) (t : Nat), S.1[k]? = some (.inr (.inr (rs, t))) → rs.length < 2147483648 ∧ ∃ C, S.2.1[t]? = some (.object C)) ∧
  (∀ (k ci : Nat) (sl : List SK), S.1[k]? = some (.inr (.inl (ci, sl))) → ∃ r : vw_C, vwCl[ci]? = some r ∧ r.1 = clsName ci ∧ sl.length = r.2.2 ∧ ∀ (j : Nat) (sk : SK), sl[j]? = some sk → (sk.1 = 0 → (r.2.1 j).2.2 = ("I", false)) ∧ (sk.1 = 1 → (r.2.1 j).2.2 = ("Z", false)) ∧ (sk.1 = 2 → (r.2.1 j).2.2 = ("J", false)))
def rmOk (y z : MI) : Prop := z.2.2.2.2.2.2.1 + 1 ≤ y.2.2.2.2.2.2.1 ∧ 8 + (yL z + 11) + z.2.2.2.2.2.2.2 ≤ y.2.2.2.2.2.2.2
def cpyA (f g : Nat → Int) (sp dp n : Nat) : Nat → Int := fun k => if dp ≤ k ∧ k < dp + n then f (sp + (k - dp)) else g k
def acOk (y : MI) (i : Nat) : Prop := Cond.methodLink (clsName y.1) i arraycopyName ∈ gtbl ∧ Cond.native arraycopyName ∈ gtbl ∧ Cond.static arraycopyName ∈ gtbl ∧ Cond.initialized "java/lang/System" ∈ gtbl ∧ 1 ≤ y.2.2.2.2.2.2.1 ∧ 8 + (nativeFrameWords "java/lang/System" "arraycopy" 5 + 11) ≤ y.2.2.2.2.2.2.2
def sOf (S : SH) (cn i : Nat) : Option Nat := (List.range S.2.2.1.length).find? (fun j => decide (Cond.fieldLinkNest (clsName cn) i "FireLines" (S.2.2.1.getD j ("", [])).1 "[I" "FireLines" ∈ S.2.2.2))
section Rows
variable {S : SH} {y : MI} {Q : Option AV → AH → Prop} {pc : Nat} {ls st : List AV} {h : AH}

theorem r_iconst {n : Int} (hd : decode (yc y) pc = .ok (.iconst n, 1)) (hX : WPx S y Q (pc + 1) ls (ai n :: st) h) : WPx S y Q pc ls st h := by
  intro p l e s m args below meth c D ad cA H locs lc C hP hV hl
  have kk := hX p l e s m args below meth c D ad cA H locs lc C hP hV hl
  obtain ⟨hx, hb, hml, hr, hown, hts, hlk, hK, hI, hXs⟩ := id C
  exact lv_iconst hx hb hd rfl kk

theorem i8_ext {n : Int} (h1 : -128 ≤ n) (h2 : n < 128) : (Int8.ofInt n).toInt32 = Int32.ofInt n := by
  apply Int32.toInt_inj.mp
  rw [Int8.toInt_toInt32, Int8.toInt_ofInt_of_le (by omega) (by omega), Int32.toInt_ofInt_of_le (by omega) (by omega)]
theorem i16_ext {n : Int} (h1 : -32768 ≤ n) (h2 : n < 32768) : (Int16.ofInt n).toInt32 = Int32.ofInt n := by
  apply Int32.toInt_inj.mp
  rw [Int16.toInt_toInt32, Int16.toInt_ofInt_of_le (by omega) (by omega), Int32.toInt_ofInt_of_le (by omega) (by omega)]

theorem r_bipush {n : Int} (hd : decode (yc y) pc = .ok (.bipush n, 2)) (h1 : -128 ≤ n) (h2 : n < 128) (hX : WPx S y Q (pc + 2) ls (ai n :: st) h) : WPx S y Q pc ls st h := by
  intro p l e s m args below meth c D ad cA H locs lc C hP hV hl
  have kk := hX p l e s m args below meth c D ad cA H locs lc C hP hV hl
  obtain ⟨hx, hb, hml, hr, hown, hts, hlk, hK, hI, hXs⟩ := id C
  exact lv_bipush hx hb hd (i8_ext h1 h2) kk

theorem r_sipush {n : Int} (hd : decode (yc y) pc = .ok (.sipush n, 3)) (h1 : -32768 ≤ n) (h2 : n < 32768) (hX : WPx S y Q (pc + 3) ls (ai n :: st) h) : WPx S y Q pc ls st h := by
  intro p l e s m args below meth c D ad cA H locs lc C hP hV hl
  have kk := hX p l e s m args below meth c D ad cA H locs lc C hP hV hl
  obtain ⟨hx, hb, hml, hr, hown, hts, hlk, hK, hI, hXs⟩ := id C
  exact lv_sipush hx hb hd (i16_ext h1 h2) kk

theorem r_ldc {i : Nat} {v : Int} (hd : decode (yc y) pc = .ok (.ldc i, 2)) (hv : kt y.1 i = some v) (hX : WPx S y Q (pc + 2) ls (ai v :: st) h) : WPx S y Q pc ls st h := by
  intro p l e s m args below meth c D ad cA H locs lc C hP hV hl
  have kk := hX p l e s m args below meth c D ad cA H locs lc C hP hV hl
  obtain ⟨hx, hb, hml, hr, hown, hts, hlk, hK, hI, hXs⟩ := id C
  exact lv_ldc hx hb hown (hts _ (kt_ok hv)) hd kk

theorem r_ldcw {i : Nat} {v : Int} (hd : decode (yc y) pc = .ok (.ldc_w i, 3)) (hv : kt y.1 i = some v) (hX : WPx S y Q (pc + 3) ls (ai v :: st) h) : WPx S y Q pc ls st h := by
  intro p l e s m args below meth c D ad cA H locs lc C hP hV hl
  have kk := hX p l e s m args below meth c D ad cA H locs lc C hP hV hl
  obtain ⟨hx, hb, hml, hr, hown, hts, hlk, hK, hI, hXs⟩ := id C
  exact lv_ldcw hx hb hown (hts _ (kt_ok hv)) hd kk

theorem r_lconst {n : Fin 2} (hd : decode (yc y) pc = .ok (.lconst n, 1)) (hX : WPx S y Q (pc + 1) ls (al (Int64.ofNat n) :: st) h) : WPx S y Q pc ls st h := by
  intro p l e s m args below meth c D ad cA H locs lc C hP hV hl
  have kk := hX p l e s m args below meth c D ad cA H locs lc C hP hV hl
  obtain ⟨hx, hb, hml, hr, hown, hts, hlk, hK, hI, hXs⟩ := id C
  exact lv_lconst hx hb hd rfl kk

theorem r_iload_n {k : Fin 4} {x : Int} (hd : decode (yc y) pc = .ok (.iload_n k, 1)) (hg : lget ls k = ai x) (hX : WPx S y Q (pc + 1) ls (ai x :: st) h) : WPx S y Q pc ls st h := by
  intro p l e s m args below meth c D ad cA H locs lc C hP hV hl
  have kk := hX p l e s m args below meth c D ad cA H locs lc C hP hV hl
  obtain ⟨hx, hb, hml, hr, hown, hts, hlk, hK, hI, hXs⟩ := id C
  exact lv_iload_n hx hb hd rfl (lvl_at hl hg) kk

theorem r_iload {k : Nat} {x : Int} (hd : decode (yc y) pc = .ok (.iload k, 2)) (hg : lget ls k = ai x) (hX : WPx S y Q (pc + 2) ls (ai x :: st) h) : WPx S y Q pc ls st h := by
  intro p l e s m args below meth c D ad cA H locs lc C hP hV hl
  have kk := hX p l e s m args below meth c D ad cA H locs lc C hP hV hl
  obtain ⟨hx, hb, hml, hr, hown, hts, hlk, hK, hI, hXs⟩ := id C
  exact lv_iload hx hb hd (lvl_at hl hg) kk

theorem r_aload_n {k : Fin 4} {x : Nat} (hd : decode (yc y) pc = .ok (.aload_n k, 1)) (hg : lget ls k = ar x) (hX : WPx S y Q (pc + 1) ls (ar x :: st) h) : WPx S y Q pc ls st h := by
  intro p l e s m args below meth c D ad cA H locs lc C hP hV hl
  have kk := hX p l e s m args below meth c D ad cA H locs lc C hP hV hl
  obtain ⟨hx, hb, hml, hr, hown, hts, hlk, hK, hI, hXs⟩ := id C
  exact lv_aload_n hx hb hd rfl (lvl_atR hl hg) kk

theorem r_aload {k : Nat} {x : Nat} (hd : decode (yc y) pc = .ok (.aload k, 2)) (hg : lget ls k = ar x) (hX : WPx S y Q (pc + 2) ls (ar x :: st) h) : WPx S y Q pc ls st h := by
  intro p l e s m args below meth c D ad cA H locs lc C hP hV hl
  have kk := hX p l e s m args below meth c D ad cA H locs lc C hP hV hl
  obtain ⟨hx, hb, hml, hr, hown, hts, hlk, hK, hI, hXs⟩ := id C
  exact lv_aload hx hb hd (lvl_atR hl hg) kk

theorem r_istore_n {k : Fin 4} {x : Int} (hd : decode (yc y) pc = .ok (.istore_n k, 1)) (hn : k < yL y) (hX : WPx S y Q (pc + 1) (lset ls k (ai x)) st h) : WPx S y Q pc ls (ai x :: st) h := by
  intro p l e s m args below meth c D ad cA H locs lc C hP hV hl
  obtain ⟨hx, hb, hml, hr, hown, hts, hlk, hK, hI, hXs⟩ := id C
  exact lv_istore_n hx hb hd rfl hl (by simpa using hn) rfl (fun lc' hl' => hX p l e s m args below meth c D ad cA H locs lc' C hP hV (lvl_st rfl hl'))

theorem r_istore {k : Nat} {x : Int} (hd : decode (yc y) pc = .ok (.istore k, 2)) (hn : k < yL y) (hX : WPx S y Q (pc + 2) (lset ls k (ai x)) st h) : WPx S y Q pc ls (ai x :: st) h := by
  intro p l e s m args below meth c D ad cA H locs lc C hP hV hl
  obtain ⟨hx, hb, hml, hr, hown, hts, hlk, hK, hI, hXs⟩ := id C
  exact lv_istore hx hb hd hl (by simpa using hn) rfl (fun lc' hl' => hX p l e s m args below meth c D ad cA H locs lc' C hP hV (lvl_st rfl hl'))

theorem r_astore_n {k : Fin 4} {x : Nat} (hd : decode (yc y) pc = .ok (.astore_n k, 1)) (hn : k < yL y) (hX : WPx S y Q (pc + 1) (lset ls k (ar x)) st h) : WPx S y Q pc ls (ar x :: st) h := by
  intro p l e s m args below meth c D ad cA H locs lc C hP hV hl
  obtain ⟨hx, hb, hml, hr, hown, hts, hlk, hK, hI, hXs⟩ := id C
  exact lv_astore_n hx hb hd rfl hl (by simpa using hn) rfl (fun lc' hl' => hX p l e s m args below meth c D ad cA H locs lc' C hP hV (lvl_st rfl hl'))

theorem r_astore {k : Nat} {x : Nat} (hd : decode (yc y) pc = .ok (.astore k, 2)) (hn : k < yL y) (hX : WPx S y Q (pc + 2) (lset ls k (ar x)) st h) : WPx S y Q pc ls (ar x :: st) h := by
  intro p l e s m args below meth c D ad cA H locs lc C hP hV hl
  obtain ⟨hx, hb, hml, hr, hown, hts, hlk, hK, hI, hXs⟩ := id C
  exact lv_astore hx hb hd hl (by simpa using hn) rfl (fun lc' hl' => hX p l e s m args below meth c D ad cA H locs lc' C hP hV (lvl_st rfl hl'))

theorem r_iinc {k : Nat} {n x : Int} (hd : decode (yc y) pc = .ok (.iinc k n, 3)) (hg : lget ls k = ai x) (hn : k < yL y) (hX : WPx S y Q (pc + 3) (lset ls k (ai (x + n))) st h) : WPx S y Q pc ls st h := by
  intro p l e s m args below meth c D ad cA H locs lc C hP hV hl
  obtain ⟨hx, hb, hml, hr, hown, hts, hlk, hK, hI, hXs⟩ := id C
  have hmem : (k, Value.int (Int32.ofInt x)) ∈ lvl ad ls := lvl_mem.mpr (Or.inl ⟨x, hg, rfl⟩)
  obtain ⟨q, hq⟩ := List.getElem?_of_mem hmem
  exact lv_iinc (v := Int32.ofInt (x + n)) hx hb hd hl hq (i32_add x n) hn rfl (fun lc' hl' => hX p l e s m args below meth c D ad cA H locs lc' C hP hV (lvl_st rfl hl'))

theorem r_iadd {a b : Int} (hd : decode (yc y) pc = .ok (.iadd, 1)) (hX : WPx S y Q (pc + 1) ls (ai (a + b) :: st) h) : WPx S y Q pc ls (ai b :: ai a :: st) h := by
  intro p l e s m args below meth c D ad cA H locs lc C hP hV hl
  have kk := hX p l e s m args below meth c D ad cA H locs lc C hP hV hl
  obtain ⟨hx, hb, hml, hr, hown, hts, hlk, hK, hI, hXs⟩ := id C
  exact lv_iadd hx hb hd (by rw [i32_add]; exact kk)

theorem r_isub {a b : Int} (hd : decode (yc y) pc = .ok (.isub, 1)) (hX : WPx S y Q (pc + 1) ls (ai (a - b) :: st) h) : WPx S y Q pc ls (ai b :: ai a :: st) h := by
  intro p l e s m args below meth c D ad cA H locs lc C hP hV hl
  have kk := hX p l e s m args below meth c D ad cA H locs lc C hP hV hl
  obtain ⟨hx, hb, hml, hr, hown, hts, hlk, hK, hI, hXs⟩ := id C
  exact lv_isub hx hb hd (by rw [i32_sub]; exact kk)

theorem r_imul {a b : Int} (hd : decode (yc y) pc = .ok (.imul, 1)) (hX : WPx S y Q (pc + 1) ls (ai (a * b) :: st) h) : WPx S y Q pc ls (ai b :: ai a :: st) h := by
  intro p l e s m args below meth c D ad cA H locs lc C hP hV hl
  have kk := hX p l e s m args below meth c D ad cA H locs lc C hP hV hl
  obtain ⟨hx, hb, hml, hr, hown, hts, hlk, hK, hI, hXs⟩ := id C
  exact lv_imul hx hb hd (by rw [i32_mul]; exact kk)

theorem r_ineg {a : Int} (hd : decode (yc y) pc = .ok (.ineg, 1)) (hX : WPx S y Q (pc + 1) ls (ai (-a) :: st) h) : WPx S y Q pc ls (ai a :: st) h := by
  intro p l e s m args below meth c D ad cA H locs lc C hP hV hl
  have kk := hX p l e s m args below meth c D ad cA H locs lc C hP hV hl
  obtain ⟨hx, hb, hml, hr, hown, hts, hlk, hK, hI, hXs⟩ := id C
  exact lv_ineg hx hb hd (by rw [i32_neg]; exact kk)

theorem r_idiv {a b : Int} (hd : decode (yc y) pc = .ok (.idiv, 1)) (h1 : inR a) (h2 : inR b) (h3 : ¬ b = 0) (hX : WPx S y Q (pc + 1) ls (ai (a.tdiv b) :: st) h) : WPx S y Q pc ls (ai b :: ai a :: st) h := by
  intro p l e s m args below meth c D ad cA H locs lc C hP hV hl
  have kk := hX p l e s m args below meth c D ad cA H locs lc C hP hV hl
  obtain ⟨hx, hb, hml, hr, hown, hts, hlk, hK, hI, hXs⟩ := id C
  exact lv_idiv hx hb hd (by rw [show (0 : Int32) = Int32.ofInt 0 from rfl, i32_eq h2 (by constructor <;> decide)]; exact h3) (by rw [i32_div h1 h2]; exact kk)

theorem r_irem {a b : Int} (hd : decode (yc y) pc = .ok (.irem, 1)) (h1 : inR a) (h2 : inR b) (h3 : ¬ b = 0) (hX : WPx S y Q (pc + 1) ls (ai (a - a.tdiv b * b) :: st) h) : WPx S y Q pc ls (ai b :: ai a :: st) h := by
  intro p l e s m args below meth c D ad cA H locs lc C hP hV hl
  have kk := hX p l e s m args below meth c D ad cA H locs lc C hP hV hl
  obtain ⟨hx, hb, hml, hr, hown, hts, hlk, hK, hI, hXs⟩ := id C
  exact lv_irem hx hb hd (by rw [show (0 : Int32) = Int32.ofInt 0 from rfl, i32_eq h2 (by constructor <;> decide)]; exact h3) (by rw [i32_div h1 h2, i32_mul, i32_sub]; exact kk)

theorem r_iand {a b : Int} (hd : decode (yc y) pc = .ok (.iand, 1)) (hX : WPx S y Q (pc + 1) ls (ai (Int32.ofInt a &&& Int32.ofInt b).toInt :: st) h) : WPx S y Q pc ls (ai b :: ai a :: st) h := by
  intro p l e s m args below meth c D ad cA H locs lc C hP hV hl
  have kk := hX p l e s m args below meth c D ad cA H locs lc C hP hV hl
  obtain ⟨hx, hb, hml, hr, hown, hts, hlk, hK, hI, hXs⟩ := id C
  exact lv_iand hx hb hd (by have := kk; simp only [List.map_cons, conc, i32_of] at this; exact this)

theorem r_ishl {a b : Int} (hd : decode (yc y) pc = .ok (.ishl, 1)) (hX : WPx S y Q (pc + 1) ls (ai (Int32.ofInt a <<< (Int32.ofInt b &&& 31)).toInt :: st) h) : WPx S y Q pc ls (ai b :: ai a :: st) h := by
  intro p l e s m args below meth c D ad cA H locs lc C hP hV hl
  have kk := hX p l e s m args below meth c D ad cA H locs lc C hP hV hl
  obtain ⟨hx, hb, hml, hr, hown, hts, hlk, hK, hI, hXs⟩ := id C
  exact lv_ishl hx hb hd (by have := kk; simp only [List.map_cons, conc, i32_of] at this; exact this)

theorem r_ishr {a b : Int} (hd : decode (yc y) pc = .ok (.ishr, 1)) (hX : WPx S y Q (pc + 1) ls (ai (Int32.ofInt a >>> (Int32.ofInt b &&& 31)).toInt :: st) h) : WPx S y Q pc ls (ai b :: ai a :: st) h := by
  intro p l e s m args below meth c D ad cA H locs lc C hP hV hl
  have kk := hX p l e s m args below meth c D ad cA H locs lc C hP hV hl
  obtain ⟨hx, hb, hml, hr, hown, hts, hlk, hK, hI, hXs⟩ := id C
  exact lv_ishr hx hb hd (by have := kk; simp only [List.map_cons, conc, i32_of] at this; exact this)

theorem r_iushr {a b : Int} (hd : decode (yc y) pc = .ok (.iushr, 1)) (hX : WPx S y Q (pc + 1) ls (ai (((Int32.ofInt a).toUInt32 >>> ((Int32.ofInt b).toUInt32 &&& Int32.toUInt32 31)).toInt32).toInt :: st) h) : WPx S y Q pc ls (ai b :: ai a :: st) h := by
  intro p l e s m args below meth c D ad cA H locs lc C hP hV hl
  have kk := hX p l e s m args below meth c D ad cA H locs lc C hP hV hl
  obtain ⟨hx, hb, hml, hr, hown, hts, hlk, hK, hI, hXs⟩ := id C
  exact lv_iushr hx hb hd rfl (by have := kk; simp only [List.map_cons, conc, i32_of] at this; exact this)

theorem r_land {a b : Int64} (hd : decode (yc y) pc = .ok (.land, 1)) (hX : WPx S y Q (pc + 1) ls (al (a &&& b) :: st) h) : WPx S y Q pc ls (al b :: al a :: st) h := by
  intro p l e s m args below meth c D ad cA H locs lc C hP hV hl
  have kk := hX p l e s m args below meth c D ad cA H locs lc C hP hV hl
  obtain ⟨hx, hb, hml, hr, hown, hts, hlk, hK, hI, hXs⟩ := id C
  exact lv_land hx hb hd kk

theorem r_lor {a b : Int64} (hd : decode (yc y) pc = .ok (.lor, 1)) (hX : WPx S y Q (pc + 1) ls (al (a ||| b) :: st) h) : WPx S y Q pc ls (al b :: al a :: st) h := by
  intro p l e s m args below meth c D ad cA H locs lc C hP hV hl
  have kk := hX p l e s m args below meth c D ad cA H locs lc C hP hV hl
  obtain ⟨hx, hb, hml, hr, hown, hts, hlk, hK, hI, hXs⟩ := id C
  exact lv_lor hx hb hd kk

theorem r_lshl {a : Int64} {b : Int} (hd : decode (yc y) pc = .ok (.lshl, 1)) (hX : WPx S y Q (pc + 1) ls (al (a <<< ((Int32.ofInt b).toInt64 &&& 63)) :: st) h) : WPx S y Q pc ls (ai b :: al a :: st) h := by
  intro p l e s m args below meth c D ad cA H locs lc C hP hV hl
  have kk := hX p l e s m args below meth c D ad cA H locs lc C hP hV hl
  obtain ⟨hx, hb, hml, hr, hown, hts, hlk, hK, hI, hXs⟩ := id C
  exact lv_lshl hx hb hd rfl kk

theorem r_lshr {a : Int64} {b : Int} (hd : decode (yc y) pc = .ok (.lshr, 1)) (hX : WPx S y Q (pc + 1) ls (al (a >>> ((Int32.ofInt b).toInt64 &&& 63)) :: st) h) : WPx S y Q pc ls (ai b :: al a :: st) h := by
  intro p l e s m args below meth c D ad cA H locs lc C hP hV hl
  have kk := hX p l e s m args below meth c D ad cA H locs lc C hP hV hl
  obtain ⟨hx, hb, hml, hr, hown, hts, hlk, hK, hI, hXs⟩ := id C
  exact lv_lshr hx hb hd rfl kk

theorem r_lcmp {a b : Int64} (hd : decode (yc y) pc = .ok (.lcmp, 1)) (hX : WPx S y Q (pc + 1) ls (ai (lg_cmp a b).toInt :: st) h) : WPx S y Q pc ls (al b :: al a :: st) h := by
  intro p l e s m args below meth c D ad cA H locs lc C hP hV hl
  have kk := hX p l e s m args below meth c D ad cA H locs lc C hP hV hl
  obtain ⟨hx, hb, hml, hr, hown, hts, hlk, hK, hI, hXs⟩ := id C
  exact W.lcmp hx hb hd (by have := kk; simp only [List.map_cons, conc, i32_of] at this; exact this)

theorem r_dupI {a : Int} (hd : decode (yc y) pc = .ok (.dup, 1)) (hX : WPx S y Q (pc + 1) ls (ai a :: ai a :: st) h) : WPx S y Q pc ls (ai a :: st) h := by
  intro p l e s m args below meth c D ad cA H locs lc C hP hV hl
  have kk := hX p l e s m args below meth c D ad cA H locs lc C hP hV hl
  obtain ⟨hx, hb, hml, hr, hown, hts, hlk, hK, hI, hXs⟩ := id C
  exact lv_dup hx hb hd rfl kk

theorem r_dupR {a : Nat} (hd : decode (yc y) pc = .ok (.dup, 1)) (hX : WPx S y Q (pc + 1) ls (ar a :: ar a :: st) h) : WPx S y Q pc ls (ar a :: st) h := by
  intro p l e s m args below meth c D ad cA H locs lc C hP hV hl
  have kk := hX p l e s m args below meth c D ad cA H locs lc C hP hV hl
  obtain ⟨hx, hb, hml, hr, hown, hts, hlk, hK, hI, hXs⟩ := id C
  exact lv_dup hx hb hd rfl kk

theorem r_dup2 {a : Int} {b : Nat} (hd : decode (yc y) pc = .ok (.dup2, 1)) (hX : WPx S y Q (pc + 1) ls (ai a :: ar b :: ai a :: ar b :: st) h) : WPx S y Q pc ls (ai a :: ar b :: st) h := by
  intro p l e s m args below meth c D ad cA H locs lc C hP hV hl
  have kk := hX p l e s m args below meth c D ad cA H locs lc C hP hV hl
  obtain ⟨hx, hb, hml, hr, hown, hts, hlk, hK, hI, hXs⟩ := id C
  exact lv_dup2_11 hx hb hd rfl rfl kk

theorem r_goto {off : Int} (hd : decode (yc y) pc = .ok (.goto off, 3)) (ht : (pc : Int) + off = (tgt pc off : Int)) (hX : WPx S y Q (tgt pc off) ls st h) : WPx S y Q pc ls st h := by
  intro p l e s m args below meth c D ad cA H locs lc C hP hV hl
  have kk := hX p l e s m args below meth c D ad cA H locs lc C hP hV hl
  obtain ⟨hx, hb, hml, hr, hown, hts, hlk, hK, hI, hXs⟩ := id C
  exact lv_goto hx hb hd ht kk

theorem r_icmp {cnd : Jvm.ClassFile.Cond} {off a b : Int} (hd : decode (yc y) pc = .ok (.if_icmp cnd off, 3)) (h1 : inR a) (h2 : inR b) (ht : (pc : Int) + off = (tgt pc off : Int)) (hT : cmpI cnd a b → WPx S y Q (tgt pc off) ls st h) (hF : ¬ cmpI cnd a b → WPx S y Q (pc + 3) ls st h) : WPx S y Q pc ls (ai b :: ai a :: st) h := by
  intro p l e s m args below meth c D ad cA H locs lc C hP hV hl
  obtain ⟨hx, hb, hml, hr, hown, hts, hlk, hK, hI, hXs⟩ := id C
  have kT := fun q => hT q p l e s m args below meth c D ad cA H locs lc C hP hV hl
  have kF := fun q => hF q p l e s m args below meth c D ad cA H locs lc C hP hV hl
  cases cnd
  · exact lv_icmp_eq hx hb hd ht (fun q => kT (by exact (i32_eq h1 h2).mp q)) (fun q => kF (fun z => q ((i32_eq h1 h2).mpr z)))
  · exact lv_icmp_ne hx hb hd ht (fun q => kT (by exact fun z => q ((i32_eq h1 h2).mpr z))) (fun q => kF (fun z => z ((i32_eq h1 h2).mp q)))
  · exact lv_icmp_lt hx hb hd ht (fun q => kT (by exact (i32_lt h1 h2).mp q)) (fun q => kF (fun z => q ((i32_lt h1 h2).mpr z)))
  · exact lv_icmp_ge hx hb hd ht (fun q => kT (by exact (i32_le h2 h1).mp q)) (fun q => kF (fun z => q ((i32_le h2 h1).mpr z)))
  · exact lv_icmp_gt hx hb hd ht (fun q => kT (by exact (i32_lt h2 h1).mp q)) (fun q => kF (fun z => q ((i32_lt h2 h1).mpr z)))
  · exact lv_icmp_le hx hb hd ht (fun q => kT (by exact (i32_le h1 h2).mp q)) (fun q => kF (fun z => q ((i32_le h1 h2).mpr z)))

theorem r_ifc {cnd : Jvm.ClassFile.Cond} {off a : Int} (hd : decode (yc y) pc = .ok (.ifCond cnd off, 3)) (h1 : inR a) (ht : (pc : Int) + off = (tgt pc off : Int)) (hT : cmpI cnd a 0 → WPx S y Q (tgt pc off) ls st h) (hF : ¬ cmpI cnd a 0 → WPx S y Q (pc + 3) ls st h) : WPx S y Q pc ls (ai a :: st) h := by
  intro p l e s m args below meth c D ad cA H locs lc C hP hV hl
  obtain ⟨hx, hb, hml, hr, hown, hts, hlk, hK, hI, hXs⟩ := id C
  have h2 : inR 0 := by constructor <;> decide
  have kT := fun q => hT q p l e s m args below meth c D ad cA H locs lc C hP hV hl
  have kF := fun q => hF q p l e s m args below meth c D ad cA H locs lc C hP hV hl
  cases cnd
  · exact lv_if_eq hx hb hd ht (fun q => kT (by exact (i32_eq h1 h2).mp q)) (fun q => kF (fun z => q ((i32_eq h1 h2).mpr z)))
  · exact lv_if_ne hx hb hd ht (fun q => kT (by exact fun z => q ((i32_eq h1 h2).mpr z))) (fun q => kF (fun z => z ((i32_eq h1 h2).mp q)))
  · exact lv_if_lt hx hb hd ht (fun q => kT (by exact (i32_lt h1 h2).mp q)) (fun q => kF (fun z => q ((i32_lt h1 h2).mpr z)))
  · exact lv_if_ge hx hb hd ht (fun q => kT (by exact (i32_le h2 h1).mp q)) (fun q => kF (fun z => q ((i32_le h2 h1).mpr z)))
  · exact lv_if_gt hx hb hd ht (fun q => kT (by exact (i32_lt h2 h1).mp q)) (fun q => kF (fun z => q ((i32_lt h2 h1).mpr z)))
  · exact lv_if_le hx hb hd ht (fun q => kT (by exact (i32_le h1 h2).mp q)) (fun q => kF (fun z => q ((i32_le h1 h2).mpr z)))

theorem r_tsw {dflt lo hi : Int} {offs : Array Int} {len : Nat} {a : Int} (hd : decode (yc y) pc = .ok (.tableswitch dflt lo hi offs, len)) (h1 : inR a)
    (hO : (a < lo ∨ hi < a) → (pc : Int) + dflt = (tgt pc dflt : Int) ∧ WPx S y Q (tgt pc dflt) ls st h) (hN : ¬ (a < lo ∨ hi < a) → ∃ off, offs[(a - lo).toNat]? = some off ∧ (pc : Int) + off = (tgt pc off : Int) ∧ WPx S y Q (tgt pc off) ls st h) : WPx S y Q pc ls (ai a :: st) h := by
  intro p l e s m args below meth c D ad cA H locs lc C hP hV hl
  obtain ⟨hx, hb, hml, hr, hown, hts, hlk, hK, hI, hXs⟩ := id C
  have ea := i32_toInt h1
  by_cases q : a < lo ∨ hi < a
  · obtain ⟨t1, t2⟩ := hO q
    exact lv_tableOut hx hb hd (by rw [ea]; exact q) t1 (t2 p l e s m args below meth c D ad cA H locs lc C hP hV hl)
  · obtain ⟨off, t0, t1, t2⟩ := hN q
    exact lv_tableIn hx hb hd (by rw [ea]; exact fun z => q (Or.inl z)) (by rw [ea]; exact fun z => q (Or.inr z)) (by rw [ea]; exact t0) t1 (t2 p l e s m args below meth c D ad cA H locs lc C hP hV hl)

theorem slotK_at {k ci j : Nat} {sk : SK} (hs : slotK S k ci j = some sk) : ∃ sl : List SK, S.1[k]? = some (.inr (.inl (ci, sl))) ∧ sl[j]? = some sk := by
  unfold slotK at hs
  split at hs
  next c sl e =>
    split at hs
    next hc => subst hc; exact ⟨sl, e, hs⟩
    next => cases hs
  next => cases hs
theorem arrK_at {k t n : Nat} (hs : arrK S k t = some n) : S.1[k]? = some (.inl (n, t)) := by
  unfold arrK at hs
  split at hs
  next c u e =>
    split at hs
    next hc => subst hc; cases hs; exact e
    next => cases hs
  next => cases hs
theorem wT_at {cA : Nat → ClassId} {t : Nat} {ty : FieldType} (ht : S.2.1[t]? = some ty) : (wT S cA)[t]? = some (cA t, ty) := by
  unfold wT
  rw [List.getElem?_mapIdx, ht]
  rfl
theorem obj_at {ad : Nat → Nat} {cA : Nat → ClassId} {k ci : Nat} {sl : List SK} (hk : S.1[k]? = some (.inr (.inl (ci, sl)))) : (wd S ad cA h)[k]? = some (ad k, .inr (ci, sl.mapIdx (fun j sk => conc ad (slotA sk (h k j))))) := wd_at hk
theorem arr_at {ad : Nat → Nat} {cA : Nat → ClassId} {k n t : Nat} (hk : S.1[k]? = some (.inl (n, t))) : (wd S ad cA h)[k]? = some (ad k, .inl (cA t, n, .inl (fun j => Int32.ofInt (h k j)))) := wd_at hk

theorem r_getf (hS : shOk S) {i ci j k : Nat} {sk : SK} (hd : decode (yc y) pc = .ok (.getfield i, 3)) (hf : ft y.1 i = some (ci, j)) (hs : slotK S k ci j = some sk) (hX : WPx S y Q (pc + 3) ls (slotA sk (h k j) :: st) h) : WPx S y Q pc ls (ar k :: st) h := by
  intro p l e s m args below meth c D ad cA H locs lc C hP hV hl
  have kk := hX p l e s m args below meth c D ad cA H locs lc C hP hV hl
  obtain ⟨hx, hb, hml, hr, hown, hts, hlk, hK, hI, hXs⟩ := id C
  obtain ⟨sl, h1, h2⟩ := slotK_at hs
  obtain ⟨r, g1, g2, g3⟩ := ft_ok hf
  obtain ⟨C, T, N⟩ := r
  have hv : (sl.mapIdx (fun j sk => conc ad (slotA sk (h k j))))[j]? = some (conc ad (slotA sk (h k j))) := by rw [List.getElem?_mapIdx, h2]; rfl
  exact va_get hx hb hts (cl_ok g1).1 hown hK hP k (obj_at h1) g1 j g2 (hts _ g3) (fun _ z => z) hv hd kk
theorem nar_b0 : narrow .boolean (.int (Int32.ofInt 0)) = .int (Int32.ofInt 0) := by decide +kernel
theorem nar_b1 : narrow .boolean (.int (Int32.ofInt 1)) = .int (Int32.ofInt 1) := by decide +kernel
theorem fit_b0 : fits .boolean (.int (Int32.ofInt 0)) = true := by decide +kernel
theorem fit_b1 : fits .boolean (.int (Int32.ofInt 1)) = true := by decide +kernel
theorem mapIdx_set {α β : Type} (l : List α) (f : Nat → α → β) (j : Nat) (b : β) (g : Nat → α → β) (hg : ∀ i a, i ≠ j → g i a = f i a) (hj : ∀ a, l[j]? = some a → g j a = b) : (l.mapIdx f).set j b = l.mapIdx g := by
  apply List.ext_getElem?
  intro i
  by_cases hi : i = j
  · subst hi
    by_cases hl : i < l.length
    · rw [List.getElem?_set_self (by rw [List.length_mapIdx]; exact hl), List.getElem?_mapIdx, List.getElem?_eq_getElem hl]
      simp [hj _ (List.getElem?_eq_getElem hl)]
    · rw [List.getElem?_eq_none (by simp; omega), List.getElem?_eq_none (by simp; omega)]
  · rw [List.getElem?_set_ne (Ne.symm hi), List.getElem?_mapIdx, List.getElem?_mapIdx]
    cases l[i]? with
    | none => rfl
    | some a => simp [hg i a hi]
theorem r_putf (hS : shOk S) {i ci j k : Nat} {sk : SK} {v : AV} {x : Int} (hd : decode (yc y) pc = .ok (.putfield i, 3)) (hf : ft y.1 i = some (ci, j)) (hs : slotK S k ci j = some sk)
    (hv : (sk.1 = 0 ∧ v = ai x) ∨ (sk.1 = 1 ∧ v = ai x ∧ (x = 0 ∨ x = 1)) ∨ (sk.1 = 2 ∧ v = al (Int64.ofInt x))) (hX : WPx S y Q (pc + 3) ls st (updC h k (updA (h k) j x))) : WPx S y Q pc ls (v :: ar k :: st) h := by
  intro p l e s m args below meth c D ad cA H locs lc C hP hV hl
  obtain ⟨hx, hb, hml, hr, hown, hts, hlk, hK, hI, hXs⟩ := id C
  obtain ⟨sl, h1, h2⟩ := slotK_at hs
  obtain ⟨r, g1, g2, g3⟩ := ft_ok hf
  obtain ⟨Cn, T, N⟩ := r
  obtain ⟨r', g1', -, hlen, hsl⟩ := hS.2.2 k ci sl h1
  cases g1.symm.trans g1'
  obtain ⟨e0, e1, e2⟩ := hsl j sk h2
  obtain ⟨ty0, hty⟩ := (cl_ok g1).2.1
  have hjl : j < sl.length := by rw [hlen]; exact g2
  have hset : (sl.mapIdx (fun j sk => conc ad (slotA sk (h k j)))).set j (conc ad v) = sl.mapIdx (fun j' sk => conc ad (slotA sk (updA (h k) j x j'))) := by
    refine mapIdx_set _ _ _ _ _ (fun i a hi => by simp [updA, hi]) (fun a ha => ?_)
    cases ha.symm.trans h2
    rcases hv with ⟨q, rfl⟩ | ⟨q, rfl, -⟩ | ⟨q, rfl⟩ <;> simp [updA, slotA, q]
  have go : ∀ (ty : FieldType), (T j).2.2.2 = false → parseFieldDescriptor (T j).2.2.1 = some ty → narrow ty (conc ad v) = conc ad v → fits ty (conc ad v) = true → W p l e (yR y) s m args below meth c H locs 0 0 (MQ below (QcR S D ad cA Q) args s 0 0 (wA S ad)) (F0 m pc lc ((v :: ar k :: st).map (conc ad))) := by
    intro ty q1 q2 q3 q4
    refine va_put hx hb hts (cl_ok g1).1 ty0 hty (cl_ok g1).2.2 hown hK hP (wd_D hI) hV k (obj_at h1) g1 j g2 (hts _ g3) (fun _ z => z) q1 q2 q3 q4 (by rw [List.length_mapIdx]; exact hjl) hd (fun H1 locs1 a1 a2 a3 => ?_)
    rw [hset] at a1
    have a1' : va_P D vwCl (wd S ad cA (updC h k (updA (h k) j x))) H1 := by
      rw [← wd_set h1]; exact a1
    exact hX p l e s m args below meth c D ad cA H1 locs1 lc C a1' a3 hl
  rcases hv with ⟨q, rfl⟩ | ⟨q, rfl, q2⟩ | ⟨q, rfl⟩
  · have z := e0 q
    exact go .int (by rw [z]) (by rw [z]; decide +kernel) rfl rfl
  · have z := e1 q
    refine go .boolean (by rw [z]) (by rw [z]; decide +kernel) ?_ ?_
    · rcases q2 with rfl | rfl
      · exact nar_b0
      · exact nar_b1
    · rcases q2 with rfl | rfl
      · exact fit_b0
      · exact fit_b1
  · have z := e2 q
    exact go .long (by rw [z]) (by rw [z]; decide +kernel) rfl rfl
theorem r_iald (hS : shOk S) {k n : Nat} {i : Int} (hd : decode (yc y) pc = .ok (.iaload, 1)) (hk : arrK S k 0 = some n) (h0 : 0 ≤ i) (h1 : i < n) (hX : WPx S y Q (pc + 1) ls (ai (h k i.toNat) :: st) h) : WPx S y Q pc ls (ai i :: ar k :: st) h := by
  intro p l e s m args below meth c D ad cA H locs lc C hP hV hl
  have kk := hX p l e s m args below meth c D ad cA H locs lc C hP hV hl
  obtain ⟨hx, hb, hml, hr, hown, hts, hlk, hK, hI, hXs⟩ := id C
  have hk' := arrK_at hk
  obtain ⟨hn, ht⟩ := hS.1 k n 0 hk'
  have ht0 : S.2.1[0]? = some .int := by rcases ht with ⟨-, q⟩ | ⟨q, -⟩; exact q; cases q
  obtain ⟨c1, c2⟩ := i32_cl h0 h1 hn
  exact va_iald hx hb hK hP k 0 (arr_at hk') (wT_at ht0) c1 hd (by rw [c2]; exact kk)
theorem r_bald (hS : shOk S) {k n : Nat} {i : Int} (hd : decode (yc y) pc = .ok (.baload, 1)) (hk : arrK S k 1 = some n) (h0 : 0 ≤ i) (h1 : i < n) (hX : WPx S y Q (pc + 1) ls (ai (h k i.toNat) :: st) h) : WPx S y Q pc ls (ai i :: ar k :: st) h := by
  intro p l e s m args below meth c D ad cA H locs lc C hP hV hl
  have kk := hX p l e s m args below meth c D ad cA H locs lc C hP hV hl
  obtain ⟨hx, hb, hml, hr, hown, hts, hlk, hK, hI, hXs⟩ := id C
  have hk' := arrK_at hk
  obtain ⟨hn, ht⟩ := hS.1 k n 1 hk'
  have ht0 : S.2.1[1]? = some .boolean := by rcases ht with ⟨q, -⟩ | ⟨-, q⟩; cases q; exact q
  obtain ⟨c1, c2⟩ := i32_cl h0 h1 hn
  exact va_zald hx hb hK hP k 1 (arr_at hk') (wT_at ht0) c1 hd (by rw [c2]; exact kk)
theorem upd_of (f : Nat → Int) (i : Nat) (x : Int) : upd (fun j => Int32.ofInt (f j)) i (Int32.ofInt x) = fun j => Int32.ofInt (updA f i x j) := by
  funext j
  by_cases hj : j = i <;> simp [upd, updA, hj]
theorem r_iast (hS : shOk S) {k n : Nat} {i x : Int} (hd : decode (yc y) pc = .ok (.iastore, 1)) (hk : arrK S k 0 = some n) (h0 : 0 ≤ i) (h1 : i < n) (hX : WPx S y Q (pc + 1) ls st (updC h k (updA (h k) i.toNat x))) : WPx S y Q pc ls (ai x :: ai i :: ar k :: st) h := by
  intro p l e s m args below meth c D ad cA H locs lc C hP hV hl
  obtain ⟨hx, hb, hml, hr, hown, hts, hlk, hK, hI, hXs⟩ := id C
  have hk' := arrK_at hk
  obtain ⟨hn, ht⟩ := hS.1 k n 0 hk'
  have ht0 : S.2.1[0]? = some .int := by rcases ht with ⟨-, q⟩ | ⟨q, -⟩; exact q; cases q
  obtain ⟨c1, c2⟩ := i32_cl h0 h1 hn
  refine va_iast hx hb hK hP (wd_D hI) hV k 0 (arr_at hk') (wT_at ht0) c1 hd (fun H1 locs1 a1 a2 a3 => ?_)
  rw [c2, upd_of] at a1
  have a1' : va_P D vwCl (wd S ad cA (updC h k (updA (h k) i.toNat x))) H1 := by
    rw [← wd_set hk']; exact a1
  exact hX p l e s m args below meth c D ad cA H1 locs1 lc C a1' a3 hl
theorem r_bast (hS : shOk S) {k n : Nat} {i x : Int} (hd : decode (yc y) pc = .ok (.bastore, 1)) (hk : arrK S k 1 = some n) (h0 : 0 ≤ i) (h1 : i < n) (hb2 : x = 0 ∨ x = 1) (hX : WPx S y Q (pc + 1) ls st (updC h k (updA (h k) i.toNat x))) : WPx S y Q pc ls (ai x :: ai i :: ar k :: st) h := by
  intro p l e s m args below meth c D ad cA H locs lc C hP hV hl
  obtain ⟨hx, hb, hml, hr, hown, hts, hlk, hK, hI, hXs⟩ := id C
  have hk' := arrK_at hk
  obtain ⟨hn, ht⟩ := hS.1 k n 1 hk'
  have ht0 : S.2.1[1]? = some .boolean := by rcases ht with ⟨q, -⟩ | ⟨-, q⟩; cases q; exact q
  obtain ⟨c1, c2⟩ := i32_cl h0 h1 hn
  have hx1 : vp_nar .boolean (Int32.ofInt x) = Int32.ofInt x := by rcases hb2 with rfl | rfl <;> decide +kernel
  refine va_zast hx hb hK hP (wd_D hI) hV k 1 (arr_at hk') (wT_at ht0) c1 hd (fun H1 locs1 a1 a2 a3 => ?_)
  rw [c2, hx1, upd_of] at a1
  have a1' : va_P D vwCl (wd S ad cA (updC h k (updA (h k) i.toNat x))) H1 := by
    rw [← wd_set hk']; exact a1
  exact hX p l e s m args below meth c D ad cA H1 locs1 lc C a1' a3 hl
theorem refK_at {k : Nat} {rs : List Nat} (hs : refK S k = some rs) : ∃ t, S.1[k]? = some (.inr (.inr (rs, t))) := by
  unfold refK at hs
  split at hs
  next r t e => cases hs; exact ⟨t, e⟩
  next => cases hs
theorem r_aald (hS : shOk S) {k : Nat} {rs : List Nat} {i : Int} (hd : decode (yc y) pc = .ok (.aaload, 1)) (hk : refK S k = some rs) (h0 : 0 ≤ i) (h1 : i < rs.length) (hX : WPx S y Q (pc + 1) ls (ar (rs.getD i.toNat 0) :: st) h) : WPx S y Q pc ls (ai i :: ar k :: st) h := by
  intro p l e s m args below meth c D ad cA H locs lc C hP hV hl
  have kk := hX p l e s m args below meth c D ad cA H locs lc C hP hV hl
  obtain ⟨hx, hb, hml, hr, hown, hts, hlk, hK, hI, hXs⟩ := id C
  obtain ⟨t, hk'⟩ := refK_at hk
  obtain ⟨hn, C1, ht⟩ := hS.2.1 k rs t hk'
  obtain ⟨c1, c2⟩ := i32_cl h0 h1 hn
  exact va_aldq hx hb hK hP k t (wd_at hk') (wT_at ht) c1 hd (by rw [c2]; exact kk)
theorem r_alen (hS : shOk S) {k n : Nat} (hd : decode (yc y) pc = .ok (.arraylength, 1)) (hk : arrK S k 0 = some n) (hX : WPx S y Q (pc + 1) ls (ai n :: st) h) : WPx S y Q pc ls (ar k :: st) h := by
  intro p l e s m args below meth c D ad cA H locs lc C hP hV hl
  have kk := hX p l e s m args below meth c D ad cA H locs lc C hP hV hl
  obtain ⟨hx, hb, hml, hr, hown, hts, hlk, hK, hI, hXs⟩ := id C
  have hk' := arrK_at hk
  obtain ⟨hn, ht⟩ := hS.1 k n 0 hk'
  have ht0 : S.2.1[0]? = some .int := by rcases ht with ⟨-, q⟩ | ⟨q, -⟩; exact q; cases q
  exact va_alen hx hb hK hP k 0 (arr_at hk') (wT_at ht0) (v := Int32.ofInt n) rfl hd kk
theorem staK_at {k : Nat} {vs : List Int} (hs : staK S k = some vs) : ∃ (i : Nat) (q : String × List Int), k = 1000 + i ∧ S.2.2.1[i]? = some q ∧ q.2 = vs := by
  unfold staK at hs
  split at hs
  next hk =>
    cases hq : S.2.2.1[k - 1000]? with
    | none => rw [hq] at hs; cases hs
    | some q => rw [hq] at hs; cases hs; exact ⟨k - 1000, q, by omega, hq, rfl⟩
  next => cases hs
theorem r_sald {k : Nat} {vs : List Int} {i : Int} (hd : decode (yc y) pc = .ok (.iaload, 1)) (hk : staK S k = some vs) (hlen : vs.length < 2147483648) (h0 : 0 ≤ i) (h1 : i < vs.length) (hX : WPx S y Q (pc + 1) ls (ai (vs.getD i.toNat 0) :: st) h) : WPx S y Q pc ls (ai i :: ar k :: st) h := by
  intro p l e s m args below meth c D ad cA H locs lc C hP hV hl
  have kk := hX p l e s m args below meth c D ad cA H locs lc C hP hV hl
  obtain ⟨hx, hb, hml, hr, hown, hts, hlk, hK, hI, hXs⟩ := id C
  obtain ⟨j, q, rfl, hq, rfl⟩ := staK_at hk
  obtain ⟨c1, c2⟩ := i32_cl h0 h1 hlen
  exact va_ti hx hb (hXs.1 j q hq).2 hV c1 (by rw [c2]; rfl) hd kk
theorem r_gets {i j : Nat} (hd : decode (yc y) pc = .ok (.getstatic i, 3)) (hs : sOf S y.1 i = some j) (hX : WPx S y Q (pc + 3) ls (ar (1000 + j) :: st) h) : WPx S y Q pc ls st h := by
  intro p l e s m args below meth c D ad cA H locs lc C hP hV hl
  have kk := hX p l e s m args below meth c D ad cA H locs lc C hP hV hl
  obtain ⟨hx, hb, hml, hr, hown, hts, hlk, hK, hI, hXs⟩ := id C
  have h1 := List.find?_some hs
  have h2 := List.mem_range.mp (List.mem_of_find?_eq_some hs)
  simp only [decide_eq_true_eq] at h1
  have hq := List.getElem?_eq_getElem h2
  have e : S.2.2.1.getD j ("", []) = S.2.2.1[j] := by rw [List.getD_eq_getElem?_getD, hq]; rfl
  rw [e] at h1
  have hZ := (hXs.1 j _ hq).1
  exact va_getsN hx hb hZ hV hown (va_Nw.use rfl (hXs.2 _ h1).2) (fun _ z => z) hd kk

end Rows
