/-! the fire: cells go on in the order in which they burn -/
abbrev FS : Type := (Nat → Int) × (Nat → Int) × (Nat → Int)
def pk (s : FS) : Nat → Int
  | 0 => -1
  | k + 1 => if s.2.2 k = 0 ∧ s.1 k < 1000000 ∧ (pk s k = -1 ∨ s.1 k < s.1 (pk s k).toNat) then (k : Int) else pk s k
def rl1 (m : Int) (c to : Nat) (s : FS) : FS := if m = 1000000 then s else if m < s.1 to then (updA s.1 to m, updA s.2.1 to c, s.2.2) else if m = s.1 to ∧ ¬ s.2.1 to = -1 ∧ (c : Int) < s.2.1 to then (s.1, updA s.2.1 to c, s.2.2) else s
def rlx (nb : Nat → Nat → Int) (av : Nat → Nat → Nat → Int → Int) (c : Nat) (s : FS) (d : Nat) : FS := if nb c d = -1 then s else rl1 (av c (nb c d).toNat d (s.1 c)) c (nb c d).toNat s
def rlK (nb : Nat → Nat → Int) (av : Nat → Nat → Nat → Int → Int) (c : Nat) : Nat → FS → FS
  | 0, s => s
  | k + 1, s => rlx nb av c (rlK nb av c k s) k
def stp (nb : Nat → Nat → Int) (av : Nat → Nat → Nat → Int → Int) (c : Nat) (s : FS) : FS := rlK nb av c 8 (s.1, s.2.1, updA s.2.2 c 1)
def rnS (nb : Nat → Nat → Int) (av : Nat → Nat → Nat → Int → Int) (n : Nat) : Nat → FS → FS
  | 0, s => s
  | k + 1, s => if pk s n = -1 then s else rnS nb av n k (stp nb av (pk s n).toNat s)
def nbF (g : AH) (c d : Nat) : Int := nbG (g 0 0) (g 0 1) c d
def avF (g : AH) (ct : Nat → Int) (w c to d : Nat) (m : Int) : Int := arv g ct w c to d m
def ini (g : AH) : FS := (fun c => if g 4 c = -1 then 1000000 else g 4 c, fun _ => -1, fun _ => 0)
def fr (g : AH) (ct : Nat → Int) (w : Nat) : FS := rnS (nbF g) (avF g ct w) (nG g) (nG g) (ini g)
/-- alike on the first n -/
def agr (n : Nat) (s t : FS) : Prop := ∀ c, c < n → s.1 c = t.1 c ∧ s.2.1 c = t.2.1 c ∧ s.2.2 c = t.2.2 c
/-- the ranges -/
def FR (n : Nat) (s : FS) : Prop := ∀ c, c < n → (0 ≤ s.1 c ∧ (s.1 c ≤ 5000 ∨ s.1 c = 1000000)) ∧ (-1 ≤ s.2.1 c ∧ s.2.1 c < n) ∧ (s.2.2 c = 0 ∨ s.2.2 c = 1)
theorem pk_r (s : FS) : ∀ n : Nat, pk s n = -1 ∨ ∃ c : Nat, c < n ∧ pk s n = c ∧ s.2.2 c = 0 ∧ s.1 c < 1000000
  | 0 => Or.inl rfl
  | k + 1 => by
    unfold pk
    split
    next q => exact Or.inr ⟨k, by omega, rfl, q.1, q.2.1⟩
    next q =>
      rcases pk_r s k with h | ⟨c, h1, h2, h3⟩
      · exact Or.inl h
      · exact Or.inr ⟨c, by omega, h2, h3⟩
theorem pk_none {s : FS} : ∀ n : Nat, pk s n = -1 → ∀ c, c < n → s.2.2 c = 0 → 1000000 ≤ s.1 c
  | 0, _, c, hc, _ => absurd hc (by omega)
  | k + 1, h, c, hc, h0 => by
    unfold pk at h
    split at h
    next q => omega
    next q =>
      by_cases e : c = k
      · subst e
        exact Int.not_lt.mp fun z => q ⟨h0, z, Or.inl h⟩
      · exact pk_none k h c (by omega) h0
theorem pk_min {s : FS} : ∀ n : Nat, ∀ c, c < n → s.2.2 c = 0 → s.1 c < 1000000 → ¬ pk s n = -1 ∧ s.1 (pk s n).toNat ≤ s.1 c
  | 0, c, hc, _, _ => absurd hc (by omega)
  | k + 1, c, hc, h0, h1 => by
    unfold pk
    split
    next q =>
      refine ⟨by omega, ?_⟩
      rw [Int.toNat_natCast]
      by_cases e : c = k
      · subst e; exact Int.le_refl _
      · have := pk_min k c (by omega) h0 h1
        rcases q.2.2 with z | z
        · exact absurd z this.1
        · omega
    next q =>
      by_cases e : c = k
      · subst e
        by_cases z : pk s c = -1
        · exact absurd ⟨h0, h1, Or.inl z⟩ q
        · refine ⟨z, Int.not_lt.mp fun y => q ⟨h0, h1, Or.inr y⟩⟩
      · exact pk_min k c (by omega) h0 h1
theorem pk_c {s t : FS} {n : Nat} (h : agr n s t) : ∀ k : Nat, k ≤ n → pk s k = pk t k
  | 0, _ => rfl
  | k + 1, hk => by
    have ih := pk_c h k (by omega)
    have hk' := h k (by omega)
    unfold pk
    rw [ih, hk'.1, hk'.2.2]
    rcases pk_r t k with q | ⟨c, q1, q2, -⟩
    · simp [q]
    · have := h c (by omega)
      rw [q2, Int.toNat_natCast, this.1]
theorem rl1_c {s t : FS} {n : Nat} (h : agr n s t) {m : Int} {c to : Nat} (ht : to < n) : agr n (rl1 m c to s) (rl1 m c to t) := by
  have := h to ht
  unfold rl1
  rw [this.1, this.2.1]
  intro x hx
  have hx' := h x hx
  split
  · exact hx'
  · split
    · by_cases e : x = to <;> simp [updA, e, hx'.1, hx'.2.1, hx'.2.2]
      exact this.2.2
    · split
      · by_cases e : x = to <;> simp [updA, e, hx'.1, hx'.2.1, hx'.2.2]
        exact ⟨this.1, this.2.2⟩
      · exact hx'
theorem rlx_c {nb : Nat → Nat → Int} {av : Nat → Nat → Nat → Int → Int} {s t : FS} {n : Nat} (hnb : ∀ c d, c < n → nb c d = -1 ∨ (0 ≤ nb c d ∧ nb c d < n)) (h : agr n s t) {c d : Nat} (hc : c < n) : agr n (rlx nb av c s d) (rlx nb av c t d) := by
  unfold rlx
  rw [(h c hc).1]
  split
  · exact h
  · rcases hnb c d hc with q | q
    · contradiction
    · exact rl1_c h (by omega)
theorem rlK_c {nb : Nat → Nat → Int} {av : Nat → Nat → Nat → Int → Int} {n : Nat} (hnb : ∀ c d, c < n → nb c d = -1 ∨ (0 ≤ nb c d ∧ nb c d < n)) {c : Nat} (hc : c < n) : ∀ (k : Nat) {s t : FS}, agr n s t → agr n (rlK nb av c k s) (rlK nb av c k t)
  | 0, _, _, h => h
  | k + 1, _, _, h => rlx_c hnb (rlK_c hnb hc k h) hc
theorem stp_c {nb : Nat → Nat → Int} {av : Nat → Nat → Nat → Int → Int} {n : Nat} (hnb : ∀ c d, c < n → nb c d = -1 ∨ (0 ≤ nb c d ∧ nb c d < n)) {c : Nat} (hc : c < n) {s t : FS} (h : agr n s t) : agr n (stp nb av c s) (stp nb av c t) := by
  refine rlK_c hnb hc 8 (fun x hx => ?_)
  have := h x hx
  refine ⟨this.1, this.2.1, ?_⟩
  by_cases e : x = c <;> simp [updA, e, this.2.2]
theorem rnS_c {nb : Nat → Nat → Int} {av : Nat → Nat → Nat → Int → Int} {n : Nat} (hnb : ∀ c d, c < n → nb c d = -1 ∨ (0 ≤ nb c d ∧ nb c d < n)) : ∀ (k : Nat) {s t : FS}, agr n s t → agr n (rnS nb av n k s) (rnS nb av n k t)
  | 0, _, _, h => h
  | k + 1, s, t, h => by
    unfold rnS
    rw [pk_c h n (Nat.le_refl n)]
    split
    · exact h
    · rcases pk_r t n with q | ⟨c, q1, q2, -⟩
      · contradiction
      · rw [q2, Int.toNat_natCast]
        exact rnS_c hnb k (stp_c hnb q1 h)
theorem rl1_r {n : Nat} {s : FS} (h : FR n s) {m : Int} (hm : (0 ≤ m ∧ m ≤ 5000) ∨ m = 1000000) {c to : Nat} (hc : c < n) : FR n (rl1 m c to s) := by
  unfold rl1
  split
  · exact h
  next q =>
    split
    · intro x hx
      have := h x hx
      by_cases e : x = to
      · simp only [updA, e, if_true]
        subst e
        exact ⟨⟨by omega, by omega⟩, ⟨by omega, by omega⟩, this.2.2⟩
      · simp only [updA, e, if_false]
        exact this
    · split
      · intro x hx
        have := h x hx
        by_cases e : x = to
        · simp only [updA, e, if_true]
          subst e
          exact ⟨this.1, ⟨by omega, by omega⟩, this.2.2⟩
        · simp only [updA, e, if_false]
          exact this
      · exact h
theorem rl1_d (m : Int) (c to : Nat) (s : FS) : (rl1 m c to s).2.2 = s.2.2 := by
  unfold rl1
  split
  · rfl
  · split
    · rfl
    · split <;> rfl
theorem rlx_d (nb : Nat → Nat → Int) (av : Nat → Nat → Nat → Int → Int) (c : Nat) (s : FS) (d : Nat) : (rlx nb av c s d).2.2 = s.2.2 := by
  unfold rlx
  split
  · rfl
  · exact rl1_d ..
theorem rlK_d (nb : Nat → Nat → Int) (av : Nat → Nat → Nat → Int → Int) (c : Nat) : ∀ (k : Nat) (s : FS), (rlK nb av c k s).2.2 = s.2.2
  | 0, _ => rfl
  | k + 1, s => by
    show (rlx nb av c (rlK nb av c k s) k).2.2 = s.2.2
    rw [rlx_d, rlK_d nb av c k s]
/-- how many aren't done -/
def nd (x : Nat → Int) : Nat → Nat
  | 0 => 0
  | k + 1 => nd x k + (if x k = 0 then 1 else 0)
theorem nd_le (x : Nat → Int) : ∀ n, nd x n ≤ n
  | 0 => Nat.le_refl 0
  | k + 1 => by
    have := nd_le x k
    unfold nd
    split <;> omega
theorem nd_same {x y : Nat → Int} : ∀ n, (∀ c, c < n → x c = y c) → nd x n = nd y n
  | 0, _ => rfl
  | k + 1, h => by
    unfold nd
    rw [nd_same k (fun c hc => h c (by omega)), h k (by omega)]
theorem nd_upd {x : Nat → Int} {c : Nat} (hx : x c = 0) : ∀ n, c < n → nd (updA x c 1) n + 1 = nd x n
  | 0, h => absurd h (by omega)
  | k + 1, h => by
    unfold nd
    by_cases e : k = c
    · subst e
      rw [nd_same (y := x) k (fun c hc => by simp [updA, show ¬ c = k by omega])]
      simp [updA, hx]
    · have ih := nd_upd hx k (by omega)
      simp only [updA, e, if_false] at ih ⊢
      split <;> omega
/-- what the fire reads of a state -/
def P8 (g h : AH) : Prop := (∀ j, j < 8 → g 0 j = h 0 j) ∧ ∀ k, 0 < k → k < 23 → g k = h k
theorem wa_c {g h : AH} (e : P8 g h) (w : Nat) (m : Int) : ∀ k, wa g w m k = wa h w m k
  | 0 => rfl
  | k + 1 => by
    unfold wa
    rw [e.2 11 (by omega) (by omega), e.2 12 (by omega) (by omega), e.2 13 (by omega) (by omega), wa_c e w m k]
theorem dct_c {g h : AH} (e : P8 g h) (to m : Int) : ∀ k, dct g to m k = dct h to m k
  | 0 => rfl
  | k + 1 => by
    unfold dct
    rw [e.2 14 (by omega) (by omega), e.2 15 (by omega) (by omega), dct_c e to m k]
theorem spd_c {g h : AH} (e : P8 g h) (w c to : Nat) (d : Int) : spd g w c to d = spd h w c to d := by
  funext m
  unfold spd
  rw [wa_c e, e.2 10 (by omega) (by omega), e.2 2 (by omega) (by omega)]
theorem wrk_c {g h : AH} (e : P8 g h) (to : Nat) (d m : Int) : wrk g to d m = wrk h to d m := by
  unfold wrk
  rw [dct_c e, e.1 3 (by omega), e.2 1 (by omega) (by omega), e.2 3 (by omega) (by omega)]
theorem avF_c8 {g h : AH} (e : P8 g h) (ct : Nat → Int) (w : Nat) : avF g ct w = avF h ct w := by
  funext c to d m
  unfold avF arv
  rw [spd_c e, wrk_c e, e.2 1 (by omega) (by omega), e.2 5 (by omega) (by omega)]
theorem nbF_c8 {g h : AH} (e : P8 g h) : nbF g = nbF h := by
  funext c d
  unfold nbF
  rw [e.1 0 (by omega), e.1 1 (by omega)]
theorem gi_c8 {g h : AH} (e : P8 g h) (hg : gi h) : gi g := by
  unfold gi at *
  simp only [e.1 0 (by omega), e.1 1 (by omega), e.1 2 (by omega), e.1 3 (by omega), e.1 4 (by omega), e.1 5 (by omega), e.1 6 (by omega), e.1 7 (by omega), e.2 1 (by omega) (by omega), e.2 2 (by omega) (by omega), e.2 3 (by omega) (by omega), e.2 4 (by omega) (by omega), e.2 5 (by omega) (by omega), e.2 6 (by omega) (by omega), e.2 7 (by omega) (by omega), e.2 8 (by omega) (by omega), e.2 9 (by omega) (by omega), e.2 10 (by omega) (by omega), e.2 11 (by omega) (by omega), e.2 12 (by omega) (by omega), e.2 13 (by omega) (by omega), e.2 14 (by omega) (by omega), e.2 15 (by omega) (by omega), e.2 16 (by omega) (by omega), e.2 17 (by omega) (by omega), e.2 18 (by omega) (by omega), e.2 19 (by omega) (by omega), e.2 20 (by omega) (by omega), e.2 21 (by omega) (by omega), e.2 22 (by omega) (by omega)]
  exact hg
theorem nG_c8 {g h : AH} (e : P8 g h) : nG g = nG h := by
  unfold nG
  rw [e.1 0 (by omega), e.1 1 (by omega)]
theorem ini_c8 {g h : AH} (e : P8 g h) : ini g = ini h := by
  unfold ini
  rw [e.2 4 (by omega) (by omega)]
theorem fr_c8 {g h : AH} (e : P8 g h) (ct : Nat → Int) (w : Nat) : fr g ct w = fr h ct w := by
  unfold fr
  rw [nbF_c8 e, avF_c8 e, nG_c8 e, ini_c8 e]
theorem P8_of {g h : AH} (e : ∀ k, k < 23 → g k = h k) : P8 g h := ⟨fun j _ => by rw [e 0 (by omega)], fun k _ hk => e k hk⟩
theorem avF_c {g h : AH} (e : ∀ k, k < 23 → g k = h k) (ct : Nat → Int) (w : Nat) : avF g ct w = avF h ct w := avF_c8 (P8_of e) ct w
theorem nbF_c {g h : AH} (e : ∀ k, k < 23 → g k = h k) : nbF g = nbF h := nbF_c8 (P8_of e)
theorem gi_c {g h : AH} (e : ∀ k, k < 23 → g k = h k) (hg : gi h) : gi g := gi_c8 (P8_of e) hg
theorem nbF_r {g : AH} (hg : gi g) (c d : Nat) : nbF g c d = -1 ∨ (0 ≤ nbF g c d ∧ nbF g c d < nG g) := by
  have h1 := hg.1
  have h2 := gi_n hg
  rw [← h2.2.2]
  exact nb_r (by omega) (by omega)
theorem wl_r {sp : Int → Int} {lo : Int} (hs : ∀ m, 1 ≤ sp m ∧ sp m ≤ 91) : ∀ (k : Nat) (left m : Int), -91 ≤ left → left ≤ 20000 → 0 ≤ m → m ≤ 5001 → lo ≤ m → (-91 ≤ (wl sp k left m).1 ∧ (wl sp k left m).1 ≤ 20000) ∧ (0 ≤ (wl sp k left m).2 ∧ (wl sp k left m).2 ≤ 5001) ∧ lo ≤ (wl sp k left m).2
  | 0, left, m, h1, h2, h3, h4, h5 => ⟨⟨h1, h2⟩, ⟨h3, h4⟩, h5⟩
  | k + 1, left, m, h1, h2, h3, h4, h5 => by
    unfold wl
    have := hs m
    split
    next q => exact wl_r hs k (left - sp m) (m + 1) (by omega) (by omega) (by omega) (by omega) (by omega)
    next q => exact ⟨⟨h1, h2⟩, ⟨h3, h4⟩, h5⟩
/-- the fire comes behind the beginning -/
theorem arv_r {g : AH} (hg : gi g) {ct : Nat → Int} {w c to : Nat} (hw : w < 4) (hc : c < 64) (ht : to < 64) {d m : Int} (hd : 0 ≤ d ∧ d ≤ 7) (hm : 0 ≤ m ∧ m ≤ 5000) : arv g ct w c to d m = 1000000 ∨ (m < arv g ct w c to d m ∧ arv g ct w c to d m ≤ 5000) := by
  unfold arv
  split
  · exact Or.inl rfl
  next q =>
    have hs : ∀ m, 1 ≤ spd g w c to d m ∧ spd g w c to d m ≤ 91 := fun m => spd_r hg hw hc ht hd
    have hk := wrk_r hg ht (d := d) (m := m)
    have hk2 := hk.2.2 (by have := (hg.2.1 to ht).1; omega)
    have e : wl (spd g w c to d) 5002 (wrk g to d m) m = wl (spd g w c to d) 5001 (wrk g to d m - spd g w c to d m) (m + 1) := by
      show (if 0 < wrk g to d m ∧ m ≤ 5000 then wl (spd g w c to d) 5001 (wrk g to d m - spd g w c to d m) (m + 1) else _) = _
      rw [if_pos ⟨hk2, hm.2⟩]
    have hr := wl_r (lo := m + 1) hs 5001 (wrk g to d m - spd g w c to d m) (m + 1) (by have := hs m; omega) (by have := hs m; omega) (by omega) (by omega) (by omega)
    rw [e]
    generalize wl (spd g w c to d) 5001 (wrk g to d m - spd g w c to d m) (m + 1) = p at *
    unfold fall seen
    (repeat' split) <;> first | exact Or.inl rfl | (right; omega)
theorem avF_r {g : AH} (hg : gi g) {ct : Nat → Int} {w : Nat} (hw : w < 4) {c to d : Nat} (hc : c < nG g) (ht : to < nG g) (hd : d < 8) {m : Int} (hm : 0 ≤ m ∧ m ≤ 5000) : avF g ct w c to d m = 1000000 ∨ (m < avF g ct w c to d m ∧ avF g ct w c to d m ≤ 5000) := by
  have := gi_n hg
  exact arv_r hg hw (by omega) (by omega) (by omega) hm
theorem rl1_le (m : Int) (c to : Nat) (s : FS) (x : Nat) : (rl1 m c to s).1 x ≤ s.1 x := by
  unfold rl1
  split
  · exact Int.le_refl _
  · split
    next q =>
      by_cases e : x = to
      · subst e; simp only [updA, if_true]; omega
      · simp only [updA, e, if_false]; exact Int.le_refl _
    · split <;> exact Int.le_refl _
theorem rlx_le (nb : Nat → Nat → Int) (av : Nat → Nat → Nat → Int → Int) (c : Nat) (s : FS) (d x : Nat) : (rlx nb av c s d).1 x ≤ s.1 x := by
  unfold rlx
  split
  · exact Int.le_refl _
  · exact rl1_le ..
theorem rlx_r {g : AH} (hg : gi g) {ct : Nat → Int} {w : Nat} (hw : w < 4) {c d : Nat} (hc : c < nG g) (hd : d < 8) {s : FS} (h : FR (nG g) s) (h5 : s.1 c ≤ 5000) : FR (nG g) (rlx (nbF g) (avF g ct w) c s d) := by
  unfold rlx
  split
  · exact h
  next q =>
    rcases nbF_r hg c d with z | z
    · contradiction
    · have a := avF_r hg (ct := ct) hw hc (show (nbF g c d).toNat < nG g by omega) hd (show 0 ≤ s.1 c ∧ s.1 c ≤ 5000 from ⟨(h c hc).1.1, h5⟩)
      have b := (h c hc).1.1
      exact rl1_r h (by omega) hc
theorem rlK_r {g : AH} (hg : gi g) {ct : Nat → Int} {w : Nat} (hw : w < 4) {c : Nat} (hc : c < nG g) : ∀ (k : Nat), k ≤ 8 → ∀ {s : FS}, FR (nG g) s → s.1 c ≤ 5000 → FR (nG g) (rlK (nbF g) (avF g ct w) c k s) ∧ (rlK (nbF g) (avF g ct w) c k s).1 c ≤ 5000
  | 0, _, _, h, h5 => ⟨h, h5⟩
  | k + 1, hk, s, h, h5 => by
    obtain ⟨a, b⟩ := rlK_r hg hw hc (ct := ct) k (by omega) h h5
    exact ⟨rlx_r hg hw hc (by omega) a b, Int.le_trans (rlx_le ..) b⟩
theorem stp_r {g : AH} (hg : gi g) {ct : Nat → Int} {w : Nat} (hw : w < 4) {c : Nat} (hc : c < nG g) {s : FS} (h : FR (nG g) s) (h5 : s.1 c ≤ 5000) : FR (nG g) (stp (nbF g) (avF g ct w) c s) := by
  refine (rlK_r hg hw hc 8 (Nat.le_refl 8) (s := (s.1, s.2.1, updA s.2.2 c 1)) (fun x hx => ?_) h5).1
  have := h x hx
  refine ⟨this.1, this.2.1, ?_⟩
  by_cases e : x = c <;> simp [updA, e, this.2.2]
theorem ini_r {g : AH} (hg : gi g) : FR (nG g) (ini g) := by
  intro c hc
  have n := gi_n hg
  have := (hg.2.1 c (by omega)).2.2.2.1
  unfold ini
  dsimp only
  refine ⟨?_, by omega, Or.inl rfl⟩
  split <;> omega
theorem fil_s {f g : Nat → Int} {k : Nat} {x : Int} (hx : x = f k) : updA (fun c => if c < k then f c else g c) k x = fun c => if c < k + 1 then f c else g c := by
  funext c
  by_cases e : c = k
  · subst e; simp [updA, hx]
  · simp only [updA, e, if_false]
    by_cases q : c < k
    · rw [if_pos q, if_pos (by omega)]
    · rw [if_neg q, if_neg (by omega)]
theorem fil_0 {f g : Nat → Int} : (fun c => if c < 0 then f c else g c) = g := by funext c; simp
theorem rnS_x {nb : Nat → Nat → Int} {av : Nat → Nat → Nat → Int → Int} {n : Nat} {s : FS} (h : pk s n = -1) : ∀ k, rnS nb av n k s = s
  | 0 => rfl
  | k + 1 => by unfold rnS; rw [if_pos h]
theorem rnS_r {g : AH} (hg : gi g) {ct : Nat → Int} {w : Nat} (hw : w < 4) : ∀ (k : Nat) {s : FS}, FR (nG g) s → FR (nG g) (rnS (nbF g) (avF g ct w) (nG g) k s)
  | 0, _, h => h
  | k + 1, s, h => by
    unfold rnS
    split
    · exact h
    · rcases pk_r s (nG g) with q | ⟨c, q1, q2, q3, q4⟩
      · contradiction
      · rw [q2, Int.toNat_natCast]
        have := h c q1
        exact rnS_r hg hw k (stp_r hg hw q1 h (by omega))
theorem fr_r {g : AH} (hg : gi g) {ct : Nat → Int} {w : Nat} (hw : w < 4) : FR (nG g) (fr g ct w) := rnS_r hg hw _ (ini_r hg)
theorem rnS_av {nb : Nat → Nat → Int} {av av2 : Nat → Nat → Nat → Int → Int} {n : Nat} (hnb : ∀ c d, nb c d = -1 ∨ (0 ≤ nb c d ∧ nb c d < n)) (e : ∀ c to d m, to < n → av c to d m = av2 c to d m) : ∀ (k : Nat) (s : FS), rnS nb av n k s = rnS nb av2 n k s := by
  have r1 : ∀ c s d, rlx nb av c s d = rlx nb av2 c s d := by
    intro c s d
    unfold rlx
    split
    · rfl
    · rcases hnb c d with q | q
      · contradiction
      · rw [e _ _ _ _ (by omega)]
  have r2 : ∀ c k s, rlK nb av c k s = rlK nb av2 c k s := by
    intro c k
    induction k with
    | zero => intro s; rfl
    | succ k ih => intro s; show rlx nb av c (rlK nb av c k s) k = rlx nb av2 c (rlK nb av2 c k s) k; rw [ih, r1]
  intro k
  induction k with
  | zero => intro s; rfl
  | succ k ih =>
    intro s
    unfold rnS
    split
    · rfl
    · show rnS nb av n k (rlK nb av _ 8 _) = rnS nb av2 n k (rlK nb av2 _ 8 _)
      rw [r2, ih]
theorem fr_ct {g : AH} (hg : gi g) {ct ct2 : Nat → Int} (e : ∀ to, to < nG g → ct to = ct2 to) (w : Nat) : fr g ct w = fr g ct2 w := by
  unfold fr
  refine rnS_av (nbF_r hg) (fun c to d m ht => ?_) _ _
  unfold avF arv
  rw [e to ht]
