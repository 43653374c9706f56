/-! what both sides work out, as numbers; g is a state as the reference holds it -/
def rStep (d : Int) : Int := if d = 0 ∨ d = 1 ∨ d = 7 then -1 else if 3 ≤ d ∧ d ≤ 5 then 1 else 0
def cStep (d : Int) : Int := if 1 ≤ d ∧ d ≤ 3 then 1 else if 5 ≤ d then -1 else 0
def nbG (W H c d : Int) : Int := if (0 ≤ c / W + rStep d ∧ c / W + rStep d ≤ H - 1) ∧ (0 ≤ c % W + cStep d ∧ c % W + cStep d ≤ W - 1) then W * (c / W + rStep d) + (c % W + cStep d) else -1
def nG (g : AH) : Nat := (g 0 0 * g 0 1).toNat
def wa (g : AH) (w : Nat) (m : Int) : Nat → Int × Int
  | 0 => (0, 0)
  | k + 1 => if g 11 (8 * w + k) ≤ m then (g 13 (8 * w + k), g 12 (8 * w + k)) else wa g w m k
def tn (a b : Int) : Int := if (if b < a then a - b else b - a) < 8 - (if b < a then a - b else b - a) then (if b < a then a - b else b - a) else 8 - (if b < a then a - b else b - a)
def psh (t f : Int) : Int := if t = 0 then 6 * f else if t = 1 then 4 * f else if t = 2 then 0 else if t = 3 then -f else -2 * f
def slp (u : Int) : Int := if 0 < u then 3 * u else u
def one (v : Int) : Int := if v < 1 then 1 else v
def spd (g : AH) (w c to : Nat) (d m : Int) : Int := one (10 + psh (tn (wa g w m (g 10 w).toNat).2 d) (wa g w m (g 10 w).toNat).1 + slp (g 2 to - g 2 c))
def dct (g : AH) (to m : Int) : Nat → Int
  | 0 => 0
  | k + 1 => dct g to m k + (if g 14 k = to ∧ g 15 k ≤ m then 150 else 0)
def slant (d n : Int) : Int := if d % 2 = 1 then n * 7 / 5 else n
def wrk (g : AH) (to : Nat) (d m : Int) : Int := slant d (100 * g 1 to + 10 * g 3 to + dct g to m (g 0 3).toNat)
def wl (sp : Int → Int) : Nat → Int → Int → Int × Int
  | 0, left, m => (left, m)
  | k + 1, left, m => if 0 < left ∧ m ≤ 5000 then wl sp k (left - sp m) (m + 1) else (left, m)
def seen (v m : Int) : Int := if ¬ v = -1 ∧ m ≤ v then v + 1 else m
def fall (left m ct : Int) : Int := if 0 < left ∨ 5000 < m ∨ ct ≤ m then 1000000 else m
def arv (g : AH) (ct : Nat → Int) (w c to : Nat) (d m : Int) : Int := if g 1 to = 0 then 1000000 else fall (wl (spd g w c to d) 5002 (wrk g to d m) m).1 (seen (g 5 to) (wl (spd g w c to d) 5002 (wrk g to d m) m).2) (ct to)
/-- the ranges of a state -/
def gi (g : AH) : Prop := (2 ≤ g 0 0 ∧ g 0 0 ≤ 8 ∧ 2 ≤ g 0 1 ∧ g 0 1 ≤ 8) ∧
  (∀ c, c < 64 → (0 ≤ g 1 c ∧ g 1 c ≤ 4) ∧ (0 ≤ g 2 c ∧ g 2 c ≤ 9) ∧ (0 ≤ g 3 c ∧ g 3 c ≤ 99) ∧ (-1 ≤ g 4 c ∧ g 4 c ≤ 5000) ∧ (-1 ≤ g 5 c ∧ g 5 c ≤ 5000) ∧ ((0 ≤ g 6 c ∧ g 6 c ≤ 5000) ∨ g 6 c = 1000000) ∧ (g 7 c = 0 ∨ g 7 c = 1) ∧ (g 8 c = 0 ∨ g 8 c = 1) ∧ (g 9 c = 0 ∨ g 9 c = 1)) ∧
  (1 ≤ g 0 2 ∧ g 0 2 ≤ 4) ∧ (∀ w, w < 4 → 0 ≤ g 10 w ∧ g 10 w ≤ 8) ∧
  (∀ w k : Nat, w < 4 → (k : Int) < g 10 w → (0 ≤ g 11 (8 * w + k) ∧ g 11 (8 * w + k) ≤ 5000) ∧ (0 ≤ g 12 (8 * w + k) ∧ g 12 (8 * w + k) ≤ 7) ∧ (0 ≤ g 13 (8 * w + k) ∧ g 13 (8 * w + k) ≤ 9) ∧ ∀ j, j < k → g 11 (8 * w + j) < g 11 (8 * w + k)) ∧
  (0 ≤ g 0 3 ∧ g 0 3 ≤ 40) ∧ (∀ k : Nat, (k : Int) < g 0 3 → (0 ≤ g 14 k ∧ g 14 k < g 0 0 * g 0 1) ∧ (0 ≤ g 15 k ∧ g 15 k ≤ 5000)) ∧
  (0 ≤ g 0 4 ∧ g 0 4 ≤ 6) ∧ (∀ k : Nat, (k : Int) < g 0 4 → (0 ≤ g 16 k ∧ g 16 k < g 0 0 * g 0 1) ∧ (0 ≤ g 17 k ∧ g 17 k ≤ 5000) ∧ (0 ≤ g 18 k ∧ g 18 k ≤ g 0 5)) ∧ (0 ≤ g 0 5 ∧ g 0 5 ≤ 60) ∧
  (0 ≤ g 0 6 ∧ g 0 6 ≤ 6) ∧ (∀ k : Nat, (k : Int) < g 0 6 → (0 ≤ g 19 k ∧ g 19 k < g 0 0 * g 0 1) ∧ (1 ≤ g 20 k ∧ g 20 k ≤ 500) ∧ (1 ≤ g 21 k ∧ g 21 k ≤ 50)) ∧
  (0 ≤ g 0 7 ∧ g 0 7 ≤ 6) ∧ (∀ k : Nat, (k : Int) < g 0 7 → (0 ≤ g 22 k ∧ g 22 k < g 0 0 * g 0 1) ∧ ∀ j, j < k → g 22 j ≠ g 22 k)
theorem gi_n {g : AH} (hg : gi g) : 4 ≤ nG g ∧ nG g ≤ 64 ∧ g 0 0 * g 0 1 = (nG g : Int) := by
  obtain ⟨⟨h1, h2, h3, h4⟩, -⟩ := hg
  have a : 2 * 2 ≤ g 0 0 * g 0 1 := Int.mul_le_mul h1 h3 (by omega) (by omega)
  have b : g 0 0 * g 0 1 ≤ 8 * 8 := Int.mul_le_mul h2 h4 (by omega) (by omega)
  unfold nG
  omega
theorem rStep_r (d : Int) : -1 ≤ rStep d ∧ rStep d ≤ 1 := by unfold rStep; repeat' split <;> omega
theorem cStep_r (d : Int) : -1 ≤ cStep d ∧ cStep d ≤ 1 := by unfold cStep; repeat' split <;> omega
theorem nb_r {W H c d : Int} (hW : 2 ≤ W) (hH : 2 ≤ H) : nbG W H c d = -1 ∨ (0 ≤ nbG W H c d ∧ nbG W H c d < W * H) := by
  unfold nbG
  split
  next q =>
    right
    obtain ⟨⟨q1, q2⟩, q3, q4⟩ := q
    generalize c / W + rStep d = r at *
    generalize c % W + cStep d = k at *
    have a : 0 ≤ W * r := Int.mul_nonneg (by omega) q1
    have b : W * r ≤ W * (H - 1) := Int.mul_le_mul_of_nonneg_left q2 (by omega)
    rw [Int.mul_sub, Int.mul_one] at b
    omega
  next => left; rfl
theorem wa_r {g : AH} {w : Nat} {m : Int} (hg : ∀ k : Nat, (k : Int) < g 10 w → (0 ≤ g 12 (8 * w + k) ∧ g 12 (8 * w + k) ≤ 7) ∧ (0 ≤ g 13 (8 * w + k) ∧ g 13 (8 * w + k) ≤ 9)) : ∀ k : Nat, (k : Int) ≤ g 10 w → (0 ≤ (wa g w m k).1 ∧ (wa g w m k).1 ≤ 9) ∧ (0 ≤ (wa g w m k).2 ∧ (wa g w m k).2 ≤ 7)
  | 0, _ => by simp [wa]
  | k + 1, hk => by
    unfold wa
    have := hg k (by omega)
    split
    · exact ⟨this.2, this.1⟩
    · exact wa_r hg k (by omega)
theorem tn_r {a b : Int} (ha : 0 ≤ a ∧ a ≤ 7) (hb : 0 ≤ b ∧ b ≤ 7) : 0 ≤ tn a b ∧ tn a b ≤ 4 := by unfold tn; repeat' split <;> omega
theorem psh_r {t f : Int} (hf : 0 ≤ f ∧ f ≤ 9) : -18 ≤ psh t f ∧ psh t f ≤ 54 := by unfold psh; repeat' split <;> omega
theorem slp_r {u : Int} (hu : -9 ≤ u ∧ u ≤ 9) : -9 ≤ slp u ∧ slp u ≤ 27 := by unfold slp; split <;> omega
theorem slp_np {u : Int} (q : u ≤ 0) : slp u = u := if_neg (by omega)
theorem slp_p {u : Int} (q : ¬ u ≤ 0) : slp u = 3 * u := if_pos (by omega)
theorem one_ge {x : Int} (q : 1 ≤ x) : one x = x := if_neg (by omega)
theorem one_lt {x : Int} (q : ¬ 1 ≤ x) : one x = 1 := if_pos (by omega)
theorem dct_r (g : AH) (to m : Int) : ∀ k : Nat, 0 ≤ dct g to m k ∧ dct g to m k ≤ 150 * k
  | 0 => by simp [dct]
  | k + 1 => by
    have := dct_r g to m k
    unfold dct
    split <;> omega
theorem gi_w {g : AH} (hg : gi g) {w : Nat} (hw : w < 4) : (0 ≤ g 10 w ∧ g 10 w ≤ 8) ∧ ∀ k : Nat, (k : Int) < g 10 w → (0 ≤ g 12 (8 * w + k) ∧ g 12 (8 * w + k) ≤ 7) ∧ (0 ≤ g 13 (8 * w + k) ∧ g 13 (8 * w + k) ≤ 9) :=
  ⟨hg.2.2.2.1 w hw, fun k hk => ⟨(hg.2.2.2.2.1 w k hw hk).2.1, (hg.2.2.2.2.1 w k hw hk).2.2.1⟩⟩
theorem spd_r {g : AH} (hg : gi g) {w c to : Nat} (hw : w < 4) (hc : c < 64) (ht : to < 64) {d m : Int} (hd : 0 ≤ d ∧ d ≤ 7) : 1 ≤ spd g w c to d m ∧ spd g w c to d m ≤ 91 := by
  obtain ⟨h1, h2⟩ := gi_w hg hw
  have a := wa_r (m := m) h2 (g 10 w).toNat (by omega)
  have b := psh_r (t := tn (wa g w m (g 10 w).toNat).2 d) a.1
  have e := slp_r (u := g 2 to - g 2 c) (by have := (hg.2.1 c hc).2.1; have := (hg.2.1 to ht).2.1; omega)
  unfold spd one
  split <;> omega
theorem wrk_r {g : AH} (hg : gi g) {to : Nat} (ht : to < 64) {d m : Int} : 0 ≤ wrk g to d m ∧ wrk g to d m ≤ 20000 ∧ (0 < g 1 to → 0 < wrk g to d m) := by
  have a := dct_r g to m (g 0 3).toNat
  have b := hg.2.1 to ht
  have e := hg.2.2.2.2.2.1
  unfold wrk slant
  split <;> omega
