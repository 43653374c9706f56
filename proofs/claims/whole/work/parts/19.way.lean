/-! the ways by road -/
theorem ex_least {P : Nat → Prop} (h : ∃ k, P k) : ∃ k, P k ∧ ∀ j, j < k → ¬ P j := pk_least P h
noncomputable def lst (P : Nat → Prop) : Int := @dite Int (∃ k, P k) (Classical.propDecidable _) (fun h => ((Classical.choose (ex_least h) : Nat) : Int)) (fun _ => 1000000)
theorem lst_ex {P : Nat → Prop} (h : ∃ k, P k) : ∃ k : Nat, lst P = k ∧ P k ∧ ∀ j, j < k → ¬ P j := by
  refine ⟨Classical.choose (ex_least h), ?_, Classical.choose_spec (ex_least h)⟩
  unfold lst
  exact dif_pos h
theorem lst_no {P : Nat → Prop} (h : ¬ ∃ k, P k) : lst P = 1000000 := by
  unfold lst
  exact dif_neg h
theorem lst_eq {P : Nat → Prop} {k : Nat} (h1 : P k) (h2 : ∀ j, j < k → ¬ P j) : lst P = k := by
  obtain ⟨q, e, q1, q2⟩ := lst_ex ⟨k, h1⟩
  rw [e]
  rcases Nat.lt_trichotomy q k with z | z | z
  · exact absurd q1 (h2 q z)
  · rw [z]
  · exact absurd h1 (q2 k z)
/-- how many of the first n -/
noncomputable def cN (p : Nat → Prop) : Nat → Nat
  | 0 => 0
  | k + 1 => cN p k + (clI (p k)).toNat
theorem cN_le (p : Nat → Prop) : ∀ n, cN p n ≤ n
  | 0 => Nat.le_refl 0
  | k + 1 => by
    have := cN_le p k
    unfold cN
    rcases clI_r (p k) with h | h <;> rw [h] <;> simp <;> omega
theorem cN_sub {p q : Nat → Prop} : ∀ n, (∀ x, x < n → p x → q x) → cN p n ≤ cN q n
  | 0, _ => Nat.le_refl 0
  | k + 1, h => by
    have ih := cN_sub k (fun x hx => h x (by omega))
    unfold cN
    by_cases hp : p k
    · rw [clI_t hp, clI_t (h k (by omega) hp)]; omega
    · rw [clI_f hp]; simp; omega
theorem cN_lt {p q : Nat → Prop} {y : Nat} (hq : q y) (hp : ¬ p y) : ∀ n, y < n → (∀ x, x < n → p x → q x) → cN p n + 1 ≤ cN q n
  | 0, hy, _ => absurd hy (by omega)
  | k + 1, hy, h => by
    unfold cN
    by_cases e : y = k
    · subst e
      have ih := cN_sub (p := p) (q := q) y (fun x hx => h x (by omega))
      rw [clI_t hq, clI_f hp]
      simp
      omega
    · have ih := cN_lt hq hp k (by omega) (fun x hx => h x (by omega))
      by_cases hk : p k
      · rw [clI_t hk, clI_t (h k (by omega) hk)]; omega
      · rw [clI_f hk]; simp; omega
theorem cN_0 {p : Nat → Prop} : ∀ n, cN p n = 0 → ∀ x, x < n → ¬ p x
  | 0, _, x, hx => absurd hx (by omega)
  | k + 1, h, x, hx => by
    unfold cN at h
    by_cases e : x = k
    · subst e
      intro hp
      rw [clI_t hp] at h
      simp at h
    · exact cN_0 k (by omega) x (by omega)
/-- a growing family within the first n stands still by n - 1 -/
theorem pig {n : Nat} (hn : 1 ≤ n) {P : Nat → Nat → Prop} (mono : ∀ k x, P k x → P (k + 1) x) (stab : ∀ k, (∀ x, x < n → P (k + 1) x → P k x) → ∀ x, x < n → P (k + 2) x → P (k + 1) x) (h0 : (∀ x, x < n → ¬ P 0 x) → ∀ x, x < n → ¬ P 1 x) : ∀ k x, x < n → P k x → P (n - 1) x := by
  have up : ∀ k j x, P k x → P (k + j) x := by
    intro k j
    induction j with
    | zero => intro x h; exact h
    | succ j ih => intro x h; exact mono _ _ (ih x h)
  by_cases hs : ∃ j, j ≤ n - 1 ∧ ∀ x, x < n → P (j + 1) x → P j x
  · obtain ⟨j, hj, hst⟩ := hs
    have all : ∀ i, ∀ x, x < n → P (j + i + 1) x → P (j + i) x := by
      intro i
      induction i with
      | zero => exact hst
      | succ i ih => exact stab (j + i) ih
    have down : ∀ i x, x < n → P (j + i) x → P j x := by
      intro i
      induction i with
      | zero => intro x _ h; exact h
      | succ i ih => intro x hx h; exact ih x hx (all i x hx h)
    intro k x hx h
    have hjx : P j x := by
      rcases Nat.lt_or_ge k j with q | q
      · have := up k (j - k) x h
        rw [show k + (j - k) = j by omega] at this
        exact this
      · refine down (k - j) x hx ?_
        rw [show j + (k - j) = k by omega]
        exact h
    have := up j (n - 1 - j) x hjx
    rw [show j + (n - 1 - j) = n - 1 by omega] at this
    exact this
  · exfalso
    have grow : ∀ j, j ≤ n - 1 → cN (P j) n + 1 ≤ cN (P (j + 1)) n := by
      intro j hj
      have : ¬ ∀ x, x < n → P (j + 1) x → P j x := fun z => hs ⟨j, hj, z⟩
      obtain ⟨y, hy⟩ := Classical.not_forall.mp this
      have hy1 : y < n ∧ P (j + 1) y ∧ ¬ P j y := by
        by_cases a : y < n
        · by_cases b : P (j + 1) y
          · by_cases c : P j y
            · exact absurd (fun _ _ => c) hy
            · exact ⟨a, b, c⟩
          · exact absurd (fun _ z => absurd z b) hy
        · exact absurd (fun z => absurd z a) hy
      exact cN_lt hy1.2.1 hy1.2.2 n hy1.1 (fun x _ h => mono j x h)
    have tot : ∀ j, j ≤ n → cN (P 0) n + j ≤ cN (P j) n := by
      intro j
      induction j with
      | zero => intro _; exact Nat.le_refl _
      | succ j ih =>
        intro hj
        have := ih (by omega)
        have := grow j (by omega)
        omega
    have t1 := tot n (Nat.le_refl n)
    have t2 := cN_le (P n) n
    have z := h0 (cN_0 n (by omega))
    exact hs ⟨0, by omega, fun x hx h => absurd h (z x hx)⟩
theorem divm {W r k : Int} (hW : 0 < W) (hk : 0 ≤ k ∧ k < W) : (W * r + k) / W = r ∧ (W * r + k) % W = k := by
  rw [Int.ediv_emod_unique hW]
  omega
theorem rc (W c : Int) : W * (c / W) + c % W = c := Int.mul_ediv_add_emod c W
/-- beside, by one row or one column -/
theorem nb_st {W H c : Int} (hW : 2 ≤ W) (hc : 0 ≤ c) {i : Nat} (hi : i < 4) {y : Int} (h : nbG W H c ((2 * i : Nat) : Int) = y) (hy : ¬ y = -1) : stG W c y = 1 := by
  have a3 : 0 ≤ c % W := Int.emod_nonneg _ (by omega)
  have a4 : c % W < W := Int.emod_lt_of_pos _ (by omega)
  unfold nbG at h
  split at h
  next q =>
    have dm := divm (W := W) (r := c / W + rStep ((2 * i : Nat) : Int)) (k := c % W + cStep ((2 * i : Nat) : Int)) (by omega) (by omega)
    unfold stG dif
    rw [← h, dm.1, dm.2]
    have : i = 0 ∨ i = 1 ∨ i = 2 ∨ i = 3 := by omega
    rcases this with rfl | rfl | rfl | rfl
    · have e1 : rStep ((2 * 0 : Nat) : Int) = -1 := by decide
      have e2 : cStep ((2 * 0 : Nat) : Int) = 0 := by decide
      rw [e1, e2]; (repeat' split) <;> omega
    · have e1 : rStep ((2 * 1 : Nat) : Int) = 0 := by decide
      have e2 : cStep ((2 * 1 : Nat) : Int) = 1 := by decide
      rw [e1, e2]; (repeat' split) <;> omega
    · have e1 : rStep ((2 * 2 : Nat) : Int) = 1 := by decide
      have e2 : cStep ((2 * 2 : Nat) : Int) = 0 := by decide
      rw [e1, e2]; (repeat' split) <;> omega
    · have e1 : rStep ((2 * 3 : Nat) : Int) = 0 := by decide
      have e2 : cStep ((2 * 3 : Nat) : Int) = -1 := by decide
      rw [e1, e2]; (repeat' split) <;> omega
  next q => exact absurd h.symm hy
theorem st_nb {W H c y : Int} (hW : 2 ≤ W) (hc : 0 ≤ c) (hy : 0 ≤ y ∧ y < W * H) (h : stG W c y = 1) : ∃ i : Nat, i < 4 ∧ nbG W H c ((2 * i : Nat) : Int) = y := by
  have a3 : 0 ≤ c % W := Int.emod_nonneg _ (by omega)
  have a4 : c % W < W := Int.emod_lt_of_pos _ (by omega)
  have b1 : 0 ≤ y / W := Int.ediv_nonneg hy.1 (by omega)
  have b3 : 0 ≤ y % W := Int.emod_nonneg _ (by omega)
  have b4 : y % W < W := Int.emod_lt_of_pos _ (by omega)
  have b5 : y / W ≤ H - 1 := by
    have : y / W < H := Int.ediv_lt_of_lt_mul (by omega) (by rw [Int.mul_comm]; exact hy.2)
    omega
  have ry := rc W y
  unfold stG dif at h
  have key : (y / W = c / W - 1 ∧ y % W = c % W) ∨ (y / W = c / W ∧ y % W = c % W + 1) ∨ (y / W = c / W + 1 ∧ y % W = c % W) ∨ (y / W = c / W ∧ y % W = c % W - 1) := by
    generalize y / W = p at *
    generalize y % W = q at *
    generalize c / W = r at *
    generalize c % W = t at *
    split at h <;> split at h <;> omega
  have fin : ∀ (i : Nat) (dr dc : Int), rStep ((2 * i : Nat) : Int) = dr → cStep ((2 * i : Nat) : Int) = dc → y / W = c / W + dr → y % W = c % W + dc → nbG W H c ((2 * i : Nat) : Int) = y := by
    intro i dr dc e1 e2 e3 e4
    unfold nbG
    rw [e1, e2, ← e3, ← e4, if_pos ⟨⟨b1, b5⟩, b3, by omega⟩]
    exact ry
  rcases key with ⟨k1, k2⟩ | ⟨k1, k2⟩ | ⟨k1, k2⟩ | ⟨k1, k2⟩
  · exact ⟨0, by omega, fin 0 (-1) 0 (by decide) (by decide) (by omega) (by omega)⟩
  · exact ⟨1, by omega, fin 1 0 1 (by decide) (by decide) (by omega) (by omega)⟩
  · exact ⟨2, by omega, fin 2 1 0 (by decide) (by decide) (by omega) (by omega)⟩
  · exact ⟨3, by omega, fin 3 0 (-1) (by decide) (by decide) (by omega) (by omega)⟩
/-- within k steps of an exit, never by the cell o -/
def MR (nb : Nat → Nat → Int) (n : Nat) (rd ex : Nat → Int) (o : Nat) : Nat → Nat → Prop
  | 0, x => ex x = 1
  | k + 1, x => MR nb n rd ex o k x ∨ (¬ ex x = 1 ∧ (rd x = 1 ∨ x = o) ∧ ∃ y, y < n ∧ ¬ y = o ∧ MR nb n rd ex o k y ∧ ad2 nb x y 4)
noncomputable def fG (g : AH) (o x : Nat) : Int := lst (fun k => MR (nbF g) (nG g) (g 8) (g 9) o k x)
noncomputable def lnG (g : AH) (o : Nat) : Int := if 1000000 ≤ fG g o o then 0 else fG g o o + 1
noncomputable def lowQ (p : Nat → Prop) : Nat → Int
  | 0 => -1
  | k + 1 => if lowQ p k = -1 then (if clI (p k) = 1 then (k : Int) else -1) else lowQ p k
def nxP (g : AH) (o : Nat) (a t : Int) (c : Nat) : Prop := stG (g 0 0) a c = 1 ∧ fG g o c = t ∧ (g 8 c = 1 ∨ g 9 c = 1)
noncomputable def wyG (g : AH) (o : Nat) : Nat → Int
  | 0 => o
  | i + 1 => lowQ (nxP g o (wyG g o i) (fG g o o - (i + 1))) (nG g)
noncomputable def a_way (g : AH) (v i : Int) : Int := if 0 ≤ v ∧ v < g 0 6 then (if 0 ≤ i ∧ i < lnG g (g 19 v.toNat).toNat then wyG g (g 19 v.toNat).toNat i.toNat else -1) else -1
def lsT (b bh : Int) (i : Nat) : Int := if b = 1000000 then 5000 else b - 1 - i - bh
def lsI (b : Nat → Int) (row : Nat → Int) (bh : Int) : Nat → Int → Int
  | 0, l => l
  | i + 1, l => if lsT (b (row i).toNat) bh i < lsI b row bh i l then lsT (b (row i).toNat) bh i else lsI b row bh i l
noncomputable def lsW (g : AH) (o : Nat) (bh : Int) : Nat → Int
  | 0 => 5000
  | w + 1 => lsI (fr g (g 6) w).1 (wyG g o) bh (lnG g o).toNat (lsW g o bh w)
def behG (g : AH) (v : Nat) : Int := (g 20 v + g 21 v - 1) / g 21 v - 1
noncomputable def a_last (g : AH) (v : Int) : Int := if 0 ≤ v ∧ v < g 0 6 then (if lnG g (g 19 v.toNat).toNat = 0 then -1 else if lsW g (g 19 v.toNat).toNat (behG g v.toNat) (g 0 2).toNat < 0 then -1 else lsW g (g 19 v.toNat).toNat (behG g v.toNat) (g 0 2).toNat) else -1
theorem MR_m {nb : Nat → Nat → Int} {n : Nat} {rd ex : Nat → Int} {o k x : Nat} (h : MR nb n rd ex o k x) : ∀ j, MR nb n rd ex o (k + j) x
  | 0 => h
  | j + 1 => Or.inl (MR_m h j)
theorem MR_pig {nb : Nat → Nat → Int} {n : Nat} (hn : 1 ≤ n) {rd ex : Nat → Int} {o : Nat} : ∀ k x, x < n → MR nb n rd ex o k x → MR nb n rd ex o (n - 1) x := by
  refine pig hn (fun k x h => Or.inl h) (fun k st x hx h => ?_) (fun e x hx h => ?_)
  · rcases h with h | ⟨h1, h2, y, y1, y2, y3, y4⟩
    · exact h
    · exact Or.inr ⟨h1, h2, y, y1, y2, st y y1 y3, y4⟩
  · rcases h with h | ⟨h1, h2, y, y1, y2, y3, y4⟩
    · exact e x hx h
    · exact e y y1 y3
theorem fG_r {g : AH} (hg : gi g) {o x : Nat} (hx : x < nG g) : fG g o x = 1000000 ∨ ∃ k : Nat, k < nG g ∧ fG g o x = k ∧ MR (nbF g) (nG g) (g 8) (g 9) o k x ∧ ∀ j, j < k → ¬ MR (nbF g) (nG g) (g 8) (g 9) o j x := by
  have hn := gi_n hg
  by_cases h : ∃ k, MR (nbF g) (nG g) (g 8) (g 9) o k x
  · right
    obtain ⟨k, e, k1, k2⟩ := lst_ex h
    refine ⟨k, ?_, e, k1, k2⟩
    rcases Nat.lt_or_ge k (nG g) with q | q
    · exact q
    · exact absurd (MR_pig (by omega) k x hx k1) (k2 (nG g - 1) (by omega))
  · left
    exact lst_no h
