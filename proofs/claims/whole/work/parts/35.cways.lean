/-! the class's ways by road -/
theorem ad2_sym {g : AH} (hg : gi g) {x y : Nat} (hx : x < nG g) (hy : y < nG g) (h : ad2 (nbF g) x y 4) : ad2 (nbF g) y x 4 := by
  have hn := gi_n hg
  have hW := hg.1
  obtain ⟨i, i1, i2⟩ := h
  have s := nb_st (W := g 0 0) (H := g 0 1) (c := x) (by omega) (by omega) i1 i2 (by omega)
  have s2 : stG (g 0 0) y x = 1 := by
    unfold stG dif at *
    revert s
    (repeat' split) <;> omega
  obtain ⟨k, k1, k2⟩ := st_nb (W := g 0 0) (H := g 0 1) (c := y) (y := x) (by omega) (by omega) (by omega) s2
  exact ⟨k, k1, k2⟩
theorem ad2_ne {g : AH} (hg : gi g) {x : Nat} (h : ad2 (nbF g) x x 4) : False := by
  have hW := hg.1
  obtain ⟨i, i1, i2⟩ := h
  have s := nb_st (W := g 0 0) (H := g 0 1) (c := x) (by omega) (by omega) i1 i2 (by omega)
  unfold stG dif at s
  rw [if_neg (by omega), if_neg (by omega)] at s
  omega
theorem ad2_st {g : AH} (hg : gi g) {x y : Nat} (hy : y < nG g) : ad2 (nbF g) x y 4 ↔ stG (g 0 0) x y = 1 := by
  have hn := gi_n hg
  have hW := hg.1
  constructor
  · rintro ⟨i, i1, i2⟩
    exact nb_st (W := g 0 0) (H := g 0 1) (c := x) (by omega) (by omega) i1 i2 (by omega)
  · intro s
    obtain ⟨k, k1, k2⟩ := st_nb (W := g 0 0) (H := g 0 1) (c := x) (y := y) (by omega) (by omega) (by omega) s
    exact ⟨k, k1, k2⟩
theorem ad2_some {g : AH} (hg : gi g) {x : Nat} (hx : x < nG g) : ∃ y, y < nG g ∧ ad2 (nbF g) x y 4 := by
  have hn := gi_n hg
  have hW := hg.1
  have a1 : 0 ≤ (x : Int) / g 0 0 := Int.ediv_nonneg (by omega) (by omega)
  have a3 : 0 ≤ (x : Int) % g 0 0 := Int.emod_nonneg _ (by omega)
  have a4 : (x : Int) % g 0 0 < g 0 0 := Int.emod_lt_of_pos _ (by omega)
  have a5 : (x : Int) / g 0 0 ≤ g 0 1 - 1 := by
    have : (x : Int) / g 0 0 < g 0 1 := Int.ediv_lt_of_lt_mul (by omega) (by rw [Int.mul_comm]; omega)
    omega
  have nn : ∃ i, i < 4 ∧ ¬ nbF g x (2 * i) = -1 := by
    by_cases q : (x : Int) % g 0 0 = 0
    · refine ⟨1, by omega, ?_⟩
      unfold nbF nbG
      have e1 : rStep ((2 * 1 : Nat) : Int) = 0 := by decide
      have e2 : cStep ((2 * 1 : Nat) : Int) = 1 := by decide
      rw [e1, e2, if_pos (by omega)]
      have := Int.mul_nonneg (show 0 ≤ g 0 0 by omega) (show 0 ≤ (x : Int) / g 0 0 + 0 by omega)
      omega
    · refine ⟨3, by omega, ?_⟩
      unfold nbF nbG
      have e1 : rStep ((2 * 3 : Nat) : Int) = 0 := by decide
      have e2 : cStep ((2 * 3 : Nat) : Int) = -1 := by decide
      rw [e1, e2, if_pos (by omega)]
      have := Int.mul_nonneg (show 0 ≤ g 0 0 by omega) (show 0 ≤ (x : Int) / g 0 0 + 0 by omega)
      omega
  obtain ⟨i, i1, i2⟩ := nn
  have := nbF_r hg x (2 * i)
  exact ⟨(nbF g x (2 * i)).toNat, by omega, i, i1, by omega⟩
/-- within k steps of an exit, by roads -/
def LR (nb : Nat → Nat → Int) (n : Nat) (rd ex : Nat → Int) : Nat → Nat → Prop
  | 0, x => ex x = 1
  | k + 1, x => LR nb n rd ex k x ∨ (rd x = 1 ∧ ∃ y, y < n ∧ LR nb n rd ex k y ∧ ad2 nb y x 4)
abbrev RLx (g : AH) (k x : Nat) : Prop := LR (nbF g) (nG g) (g 8) (g 9) k x
noncomputable def tG (g : AH) (x : Nat) : Int := lst (fun k => RLx g k x)
theorem LR_m {nb : Nat → Nat → Int} {n : Nat} {rd ex : Nat → Int} {k x : Nat} (h : LR nb n rd ex k x) : ∀ j, LR nb n rd ex (k + j) x
  | 0 => h
  | j + 1 => Or.inl (LR_m h j)
theorem RLx_le {g : AH} {k l x : Nat} (h : RLx g k x) (e : k ≤ l) : RLx g l x := by
  have := LR_m h (l - k)
  rw [show k + (l - k) = l by omega] at this
  exact this
theorem RM_le {g : AH} {o k l x : Nat} (h : RM g o k x) (e : k ≤ l) : RM g o l x := by
  have := MR_m h (l - k)
  rw [show k + (l - k) = l by omega] at this
  exact this
theorem RLx_mark {g : AH} : ∀ {k x : Nat}, RLx g k x → g 8 x = 1 ∨ g 9 x = 1
  | 0, _, h => Or.inr h
  | k + 1, x, h => by
    rcases h with h | h
    · exact RLx_mark h
    · exact Or.inl h.1
/-- by which neighbour -/
theorem RLx_by {g : AH} : ∀ {k x : Nat}, RLx g k x → ¬ g 9 x = 1 → ∃ j y, j < k ∧ y < nG g ∧ RLx g j y ∧ ad2 (nbF g) y x 4
  | 0, _, h, h2 => absurd h h2
  | k + 1, x, h, h2 => by
    rcases h with h | ⟨_, y, y1, y2, y3⟩
    · obtain ⟨j, y, j1, j2⟩ := RLx_by h h2
      exact ⟨j, y, by omega, j2⟩
    · exact ⟨k, y, by omega, y1, y2, y3⟩
theorem RM_by {g : AH} {o : Nat} : ∀ {k x : Nat}, RM g o k x → ¬ g 9 x = 1 → ∃ j y, j < k ∧ y < nG g ∧ ¬ y = o ∧ RM g o j y ∧ ad2 (nbF g) x y 4
  | 0, _, h, h2 => absurd h h2
  | k + 1, x, h, h2 => by
    rcases h with h | ⟨_, _, y, y1, y2, y3, y4⟩
    · obtain ⟨j, y, j1, j2⟩ := RM_by h h2
      exact ⟨j, y, by omega, j2⟩
    · exact ⟨k, y, by omega, y1, y2, y3, y4⟩
theorem RM_RLx {g : AH} (hg : gi g) {o : Nat} : ∀ {k y : Nat}, y < nG g → ¬ y = o → RM g o k y → RLx g k y
  | 0, _, _, _, h => h
  | k + 1, y, hy, hyo, h => by
    rcases h with h | ⟨_, h2, z, z1, z2, z3, z4⟩
    · exact Or.inl (RM_RLx hg hy hyo h)
    · refine Or.inr ⟨?_, z, z1, RM_RLx hg z1 z2 z3, ad2_sym hg hy z1 z4⟩
      rcases h2 with h2 | h2
      · exact h2
      · exact absurd h2 hyo
theorem RLx_RM {g : AH} (hg : gi g) {o : Nat} : ∀ {k y : Nat}, y < nG g → ¬ y = o → RLx g k y → RM g o k y ∨ ∃ j, j < k ∧ RLx g j o
  | 0, _, _, _, h => Or.inl h
  | k + 1, y, hy, hyo, h => by
    rcases h with h | ⟨h1, z, z1, z2, z3⟩
    · rcases RLx_RM hg hy hyo h with a | ⟨j, a, b⟩
      · exact Or.inl (Or.inl a)
      · exact Or.inr ⟨j, by omega, b⟩
    · by_cases e : z = o
      · subst e; exact Or.inr ⟨k, by omega, z2⟩
      · rcases RLx_RM hg z1 e z2 with a | ⟨j, a, b⟩
        · left
          by_cases e2 : g 9 y = 1
          · exact RM_le (k := 0) e2 (by omega)
          · exact Or.inr ⟨e2, Or.inl h1, z, z1, e, a, ad2_sym hg z1 hy z3⟩
        · exact Or.inr ⟨j, by omega, b⟩
theorem tG_ex {g : AH} {x k : Nat} (h : RLx g k x) : ∃ t : Nat, tG g x = t ∧ t ≤ k ∧ RLx g t x ∧ ∀ j, j < t → ¬ RLx g j x := by
  obtain ⟨t, e, h1, h2⟩ := lst_ex (P := fun k => RLx g k x) ⟨k, h⟩
  refine ⟨t, e, ?_, h1, h2⟩
  rcases Nat.lt_or_ge k t with q | q
  · exact absurd h (h2 k q)
  · exact q
theorem tG_r {g : AH} (x : Nat) : (tG g x = 1000000 ∧ ∀ k, ¬ RLx g k x) ∨ ∃ t : Nat, tG g x = t ∧ RLx g t x ∧ ∀ j, j < t → ¬ RLx g j x := by
  by_cases h : ∃ k, RLx g k x
  · obtain ⟨k, h⟩ := h
    obtain ⟨t, e, _, h1, h2⟩ := tG_ex h
    exact Or.inr ⟨t, e, h1, h2⟩
  · exact Or.inl ⟨lst_no h, fun k hk => h ⟨k, hk⟩⟩
theorem LR_pig {g : AH} (hn : 1 ≤ nG g) : ∀ k x, x < nG g → RLx g k x → RLx g (nG g - 1) x := by
  refine pig hn (fun k x h => Or.inl h) (fun k st x hx h => ?_) (fun e x hx h => ?_)
  · rcases h with h | ⟨h1, y, y1, y3, y4⟩
    · exact h
    · exact Or.inr ⟨h1, y, y1, st y y1 y3, y4⟩
  · rcases h with h | ⟨h1, y, y1, y3, y4⟩
    · exact e x hx h
    · exact e y y1 y3
theorem tG_b {g : AH} (hg : gi g) {x : Nat} (hx : x < nG g) : (0 ≤ tG g x ∧ tG g x < nG g) ∨ tG g x = 1000000 := by
  have hn := gi_n hg
  rcases tG_r (g := g) x with h | ⟨t, e, h1, h2⟩
  · exact Or.inr h.1
  · left
    rcases Nat.lt_or_ge t (nG g) with q | q
    · omega
    · exact absurd (LR_pig (by omega) t x hx h1) (h2 (nG g - 1) (by omega))
/-- the nearest beside: fewest steps, then the lowest -/
def NB (g : AH) (c v : Nat) : Prop := v < nG g ∧ ad2 (nbF g) c v 4 ∧ ∀ u, u < nG g → ad2 (nbF g) c u 4 → tG g v < tG g u ∨ (tG g v = tG g u ∧ v ≤ u)
/-- the first step's length -/
theorem fG_first {g : AH} (hg : gi g) {o v : Nat} (ho : o < nG g) (he : ¬ g 9 o = 1) (hv : NB g o v) : fG g o o = if 1000000 ≤ tG g v then 1000000 else tG g v + 1 := by
  have hn := gi_n hg
  obtain ⟨v1, v2, v3⟩ := hv
  have vo : ¬ v = o := fun e => by subst e; exact ad2_ne hg v2
  have low : ∀ k y, y < nG g → ad2 (nbF g) o y 4 → RLx g k y → tG g v ≤ k := by
    intro k y hy ha h
    obtain ⟨t, e, h1, _⟩ := tG_ex h
    have := v3 y hy ha
    omega
  have noo : ∀ k, RLx g k o → tG g v + 1 ≤ k := by
    intro k h
    obtain ⟨j, y, j1, j2, j3, j4⟩ := RLx_by h he
    have := low j y j2 (ad2_sym hg j2 ho j4) j3
    omega
  have nom : ∀ k, RM g o k o → tG g v + 1 ≤ k := by
    intro k h
    obtain ⟨j, y, j1, j2, j3, j4, j5⟩ := RM_by h he
    have := low j y j2 j5 (RM_RLx hg j2 j3 j4)
    omega
  rcases tG_r (g := g) v with ⟨h, hno⟩ | ⟨t, e, h1, h2⟩
  · rw [if_pos (by omega)]
    refine lst_no (fun z => ?_)
    obtain ⟨k, z⟩ := z
    obtain ⟨j, y, j1, j2, j3, j4, j5⟩ := RM_by z he
    have yl := RM_RLx hg j2 j3 j4
    obtain ⟨s, s1, s2, s3, _⟩ := tG_ex (LR_pig (by omega) j y j2 yl)
    have := v3 y j2 j5
    omega
  · have tb : t < nG g := by
      obtain ⟨s, s1, s2, _⟩ := tG_ex (LR_pig (by omega) t v v1 h1)
      omega
    rw [if_neg (by omega), e]
    have hm : RM g o (t + 1) o := by
      rcases RLx_RM hg v1 vo h1 with a | ⟨j, a, b⟩
      · exact Or.inr ⟨he, Or.inr rfl, v, v1, vo, a, v2⟩
      · have := noo j b; omega
    have := lst_eq (P := fun k => MR (nbF g) (nG g) (g 8) (g 9) o k o) hm (fun j hj h => by have := nom j h; omega)
    show lst _ = _
    rw [this]; omega
/-- short of the first step, steps counted with and without the own cell agree -/
theorem fG_tG {g : AH} (hg : gi g) {o K : Nat} (ho : o < nG g) (he : ¬ g 9 o = 1) (hK : fG g o o = K) (hKn : K < nG g) {u t : Nat} (hu : u < nG g) (ht : t < K) : (fG g o u = t ∧ (g 8 u = 1 ∨ g 9 u = 1)) ↔ tG g u = t := by
  have hn := gi_n hg
  have kmin : ∀ k, RM g o k o → K ≤ k := by
    intro k h
    obtain ⟨q, e, q1, q2⟩ := lst_ex (P := fun k => MR (nbF g) (nG g) (g 8) (g 9) o k o) ⟨k, h⟩
    have e2 : fG g o o = q := e
    rcases Nat.lt_or_ge k q with z | z
    · exact absurd h (q2 k z)
    · omega
  have noo : ∀ k, RLx g k o → K ≤ k := by
    intro k
    induction k using Nat.strongRecOn with
    | ind k ih =>
      intro h
      obtain ⟨j, y, j1, j2, j3, j4⟩ := RLx_by h he
      have yo : ¬ y = o := fun e => by subst e; exact ad2_ne hg j4
      rcases RLx_RM hg j2 yo j3 with a | ⟨i, a, b⟩
      · have : RM g o (j + 1) o := Or.inr ⟨he, Or.inr rfl, y, j2, yo, a, ad2_sym hg j2 ho j4⟩
        have := kmin _ this
        omega
      · have := ih i (by omega) b
        omega
  constructor
  · rintro ⟨h1, h2⟩
    have uo : ¬ u = o := fun e => by subst e; omega
    rcases fG_r hg (o := o) hu with z | ⟨k, k1, k2, k3, k4⟩
    · omega
    · have e : k = t := by omega
      subst e
      refine lst_eq (RM_RLx hg hu uo k3) (fun j hj h => ?_)
      rcases RLx_RM hg hu uo h with a | ⟨i, a, b⟩
      · exact k4 j hj a
      · have := noo i b; omega
  · intro h
    rcases tG_r (g := g) u with ⟨z, _⟩ | ⟨k, k1, k2, k3⟩
    · omega
    · have e : k = t := by omega
      subst e
      have uo : ¬ u = o := fun e => by subst e; have := noo _ k2; omega
      refine ⟨?_, RLx_mark k2⟩
      rcases RLx_RM hg hu uo k2 with a | ⟨i, a, b⟩
      · exact lst_eq a (fun j hj h => k3 j hj (RM_RLx hg hu uo h))
      · have := noo i b; omega
/-- one step of the way -/
theorem wy_next {g : AH} (hg : gi g) {o K : Nat} (ho : o < nG g) (he : ¬ g 9 o = 1) (hK : fG g o o = K) (hKn : K < nG g) {i x v : Nat} (hi : i < K) (hx : x < nG g) (hw : wyG g o i = x) (hv : NB g x v) : wyG g o (i + 1) = v := by
  have hn := gi_n hg
  obtain ⟨y, y1, y2, y3⟩ := wy_r hg ho hKn hK i (by omega)
  have e : y = x := by omega
  subst e
  obtain ⟨v1, v2, v3⟩ := hv
  obtain ⟨z, z1, z2, z3⟩ := wy_r hg ho hKn hK (i + 1) (by omega)
  have wyE : wyG g o (i + 1) = lowQ (nxP g o y ((K : Int) - ((i : Int) + 1))) (nG g) := by
    show lowQ (nxP g o (wyG g o i) (fG g o o - ((i : Int) + 1))) (nG g) = _
    rw [hw, hK]
  obtain ⟨t, ht⟩ : ∃ t : Nat, (t : Int) = (K : Int) - ((i : Int) + 1) := ⟨K - (i + 1), by omega⟩
  rw [← ht] at wyE
  have nx : ∀ u, u < nG g → (nxP g o y t u ↔ (ad2 (nbF g) y u 4 ∧ tG g u = t)) := by
    intro u hu
    have a := fG_tG hg ho he hK hKn hu (show t < K by omega)
    have b := ad2_st hg (x := y) hu
    unfold nxP
    rw [b, ← a]
  have yx : ¬ g 9 y = 1 := by
    intro q
    have : fG g o y = ((0 : Nat) : Int) := lst_eq (P := fun k => MR (nbF g) (nG g) (g 8) (g 9) o k y) q (fun j hj => absurd hj (by omega))
    omega
  have yr : g 8 y = 1 ∨ y = o := by
    rcases fG_r hg (o := o) hx with q | ⟨k, k1, k2, k3, k4⟩
    · omega
    · obtain ⟨m, e⟩ : ∃ m, k = m + 1 := ⟨k - 1, by omega⟩
      subst e
      rcases k3 with q | ⟨_, q, _⟩
      · exact absurd q (k4 m (by omega))
      · exact q
  have low : ∀ u, u < nG g → ad2 (nbF g) y u 4 → (t : Int) ≤ tG g u := by
    intro u hu ha
    rcases Int.lt_or_le (tG g u) t with q | q
    · exfalso
      have ub := tG_b hg hu
      obtain ⟨s, hs⟩ : ∃ s : Nat, tG g u = s := ⟨(tG g u).toNat, by omega⟩
      obtain ⟨a, _⟩ := (fG_tG hg ho he hK hKn hu (show s < K by omega)).mpr hs
      have uo : ¬ u = o := fun e => by subst e; omega
      rcases fG_r hg (o := o) hu with z | ⟨k, k1, k2, k3, k4⟩
      · omega
      · have hm : RM g o (k + 1) y := Or.inr ⟨yx, yr, u, hu, uo, k3, ha⟩
        rcases fG_r hg (o := o) hx with z | ⟨l, l1, l2, l3, l4⟩
        · omega
        · rcases Nat.lt_or_ge (k + 1) l with w | w
          · exact l4 _ w hm
          · omega
    · exact q
  rw [wyE]
  have zz : nxP g o y t z := by
    rcases lowQ_s (nxP g o y t) (nG g) with ⟨q, _⟩ | ⟨q, q1, q2, q3, _⟩
    · omega
    · have : q = z := by omega
      subst this; exact q3
  have zt := (nx z z1).mp zz
  have vz := v3 z z1 zt.1
  have vl := low v v1 v2
  have vt : nxP g o y t v := (nx v v1).mpr ⟨v2, by omega⟩
  rcases lowQ_s (nxP g o y t) (nG g) with ⟨_, q⟩ | ⟨q, q1, q2, q3, q4⟩
  · exact absurd vt (q v v1)
  · rw [q2]
    have qt := (nx q q1).mp q3
    have := v3 q q1 qt.1
    rcases Nat.lt_trichotomy v q with w | w | w
    · exact absurd vt (q4 v w)
    · omega
    · omega
