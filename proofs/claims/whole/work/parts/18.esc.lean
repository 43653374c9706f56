/-! the ways out, as reach in steps -/
noncomputable def clI (p : Prop) : Int := @ite Int p (Classical.propDecidable p) 1 0
theorem clI_t {p : Prop} (h : p) : clI p = 1 := by unfold clI; exact if_pos h
theorem clI_f {p : Prop} (h : ¬ p) : clI p = 0 := by unfold clI; exact if_neg h
theorem clI_c {p q : Prop} (h : p ↔ q) : clI p = clI q := by rw [propext h]
theorem clI_r (p : Prop) : clI p = 0 ∨ clI p = 1 := by
  by_cases h : p
  · right; exact clI_t h
  · left; exact clI_f h
theorem clI_1 {p : Prop} (h : ¬ clI p = 0) : p := by
  by_cases q : p
  · exact q
  · exact absurd (clI_f q) h
theorem clI_0 {p : Prop} (h : clI p = 0) : ¬ p := fun q => by rw [clI_t q] at h; cases h
/-- a cell beside, of the first d of up, right, down, left -/
def ad2 (nb : Nat → Nat → Int) (y z d : Nat) : Prop := ∃ i, i < d ∧ nb y (2 * i) = z
def eS (nb : Nat → Nat → Int) (n : Nat) (b : Nat → Int) (c : Nat) (m : Int) : Nat → Nat → Prop
  | 0, x => x = c ∧ m < b x
  | k + 1, x => eS nb n b c m k x ∨ ((∃ y, y < n ∧ eS nb n b c m k y ∧ ad2 nb y x 4) ∧ m + 4 * ((k : Int) + 1) < b x)
def esc (nb : Nat → Nat → Int) (n : Nat) (b : Nat → Int) (sf : Nat → Int) (c : Nat) (m : Int) : Prop := ∃ x, x < n ∧ eS nb n b c m n x ∧ sf x = 1
theorem eS_m {nb : Nat → Nat → Int} {n : Nat} {b : Nat → Int} {c : Nat} {m : Int} {k x : Nat} (h : eS nb n b c m k x) : ∀ j, eS nb n b c m (k + j) x
  | 0 => h
  | j + 1 => Or.inl (eS_m h j)
theorem eS_c {nb : Nat → Nat → Int} {n : Nat} {b b2 : Nat → Int} (e : ∀ x, x < n → b x = b2 x) {c : Nat} {m : Int} : ∀ (k x : Nat), x < n → (eS nb n b c m k x ↔ eS nb n b2 c m k x)
  | 0, x, hx => by unfold eS; rw [e x hx]
  | k + 1, x, hx => by
    unfold eS
    rw [eS_c e k x hx, e x hx]
    constructor
    · rintro (h | ⟨⟨y, h1, h2, h3⟩, h4⟩)
      · exact Or.inl h
      · exact Or.inr ⟨⟨y, h1, (eS_c e k y h1).mp h2, h3⟩, h4⟩
    · rintro (h | ⟨⟨y, h1, h2, h3⟩, h4⟩)
      · exact Or.inl h
      · exact Or.inr ⟨⟨y, h1, (eS_c e k y h1).mpr h2, h3⟩, h4⟩
theorem esc_c {nb : Nat → Nat → Int} {n : Nat} {b b2 : Nat → Int} (e : ∀ x, x < n → b x = b2 x) {sf : Nat → Int} {c : Nat} {m : Int} : esc nb n b sf c m ↔ esc nb n b2 sf c m := by
  unfold esc
  constructor
  · rintro ⟨x, h1, h2, h3⟩; exact ⟨x, h1, (eS_c e n x h1).mp h2, h3⟩
  · rintro ⟨x, h1, h2, h3⟩; exact ⟨x, h1, (eS_c e n x h1).mpr h2, h3⟩
/-- a way out in every world -/
def outP (g : AH) (ct : Nat → Int) (c : Nat) (m : Int) : Prop := ∀ w : Nat, (w : Int) < g 0 2 → esc (nbF g) (nG g) (fr g ct w).1 (g 7) c m
noncomputable def a_out (g : AH) (c m : Int) : Int := if cellP g c ∧ minP m then clI (outP g (g 6) c.toNat m) else -1
def dif (a b : Int) : Int := if b < a then a - b else b - a
def stG (W a b : Int) : Int := dif (a / W) (b / W) + dif (a % W) (b % W)
def begO (g : AH) (k : Nat) (m : Int) : Int := if m < g 17 k then g 17 k else m
def thrO (g : AH) (k : Nat) (c m : Int) : Int := begO g k m + 4 * stG (g 0 0) (g 16 k) c
def donO (g : AH) (k : Nat) (c m : Int) : Int := thrO g k c m + 5 * g 1 c.toNat
/-- with the cut that the order brings -/
def cutO (g : AH) (k : Nat) (c m : Int) : AH := updC g 6 (updA (g 6) c.toNat (if donO g k c m < g 6 c.toNat then donO g k c m else g 6 c.toNat))
abbrev ordP (g : AH) (k c m : Int) : Prop := (0 ≤ k ∧ k < g 0 4) ∧ cellP g c ∧ minP m ∧ ¬ g 1 c.toNat = 0 ∧ ¬ g 0 5 = 60 ∧ donO g k.toNat c m ≤ 5000
def othP (g : AH) (k : Int) : Prop := ∀ q : Nat, (q : Int) < g 0 4 → ¬ (q : Int) = k → outP g (g 6) (g 16 q).toNat (g 17 q)
def okO (g : AH) (k c m : Int) : Prop := outP (cutO g k.toNat c m) (cutO g k.toNat c m 6) (g 16 k.toNat).toNat (begO g k.toNat m) ∧ outP (cutO g k.toNat c m) (cutO g k.toNat c m 6) c.toNat (thrO g k.toNat c m) ∧ outP (cutO g k.toNat c m) (cutO g k.toNat c m 6) c.toNat (donO g k.toNat c m) ∧ othP (cutO g k.toNat c m) k
noncomputable def a_order (g : AH) (k c m : Int) : Int := if ordP g k c m then (if clI (okO g k c m) = 1 then donO g k.toNat c m else -2) else -1
noncomputable def n_order (g : AH) (k c m : Int) : AH := if ordP g k c m ∧ clI (okO g k c m) = 1 then updC (updC (updC (updC (cutO g k.toNat c m) 16 (updA (g 16) k.toNat c)) 17 (updA (g 17) k.toNat (donO g k.toNat c m))) 18 (updA (g 18) k.toNat (g 18 k.toNat + 1))) 0 (updA (g 0) 5 (g 0 5 + 1)) else g
theorem gi_6 {g : AH} (hg : gi g) {c : Nat} {v : Int} (hv : (0 ≤ v ∧ v ≤ 5000) ∨ v = 1000000) : gi (updC g 6 (updA (g 6) c v)) := by
  unfold gi at *
  simp only [uc_n, Nat.reduceEqDiff, not_false_eq_true, uc_s]
  refine ⟨hg.1, fun x hx => ?_, hg.2.2⟩
  have := hg.2.1 x hx
  refine ⟨this.1, this.2.1, this.2.2.1, this.2.2.2.1, this.2.2.2.2.1, ?_, this.2.2.2.2.2.2⟩
  by_cases e : x = c
  · rw [e, ua_s]; exact hv
  · rw [ua_n e]; exact this.2.2.2.2.2.1
theorem dif_r {a b N : Int} (ha : 0 ≤ a ∧ a ≤ N) (hb : 0 ≤ b ∧ b ≤ N) : 0 ≤ dif a b ∧ dif a b ≤ N := by unfold dif; split <;> omega
theorem stG_r {W a b : Int} (hW : 2 ≤ W ∧ W ≤ 8) (ha : 0 ≤ a ∧ a < 64) (hb : 0 ≤ b ∧ b < 64) : 0 ≤ stG W a b ∧ stG W a b ≤ 100 := by
  have a1 : 0 ≤ a / W := Int.ediv_nonneg ha.1 (by omega)
  have a2 : a / W ≤ a := Int.ediv_le_self _ ha.1
  have a3 : 0 ≤ a % W := Int.emod_nonneg _ (by omega)
  have a4 : a % W < W := Int.emod_lt_of_pos _ (by omega)
  have b1 : 0 ≤ b / W := Int.ediv_nonneg hb.1 (by omega)
  have b2 : b / W ≤ b := Int.ediv_le_self _ hb.1
  have b3 : 0 ≤ b % W := Int.emod_nonneg _ (by omega)
  have b4 : b % W < W := Int.emod_lt_of_pos _ (by omega)
  have c1 := dif_r (a := a / W) (b := b / W) (N := 64) (by omega) (by omega)
  have c2 := dif_r (a := a % W) (b := b % W) (N := 8) (by omega) (by omega)
  unfold stG
  omega
