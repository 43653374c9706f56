/-! each call's answer (a_) and next state (n_), over a state as the reference holds it -/
def P23 (x y : AH) : Prop := ∀ k, k < 23 → x k = y k
abbrev cellP (g : AH) (c : Int) : Prop := 0 ≤ c ∧ c < g 0 0 * g 0 1
abbrev minP (m : Int) : Prop := 0 ≤ m ∧ m ≤ 5000
abbrev worldP (g : AH) (w : Int) : Prop := 0 ≤ w ∧ w < g 0 2
def b01 (p : Prop) [Decidable p] : Int := if p then 1 else 0
theorem b01_t {p : Prop} [Decidable p] (h : p) : b01 p = 1 := if_pos h
theorem b01_f {p : Prop} [Decidable p] (h : ¬ p) : b01 p = 0 := if_neg h
abbrev hillsP (w h : Int) : Prop := (2 ≤ w ∧ w ≤ 8) ∧ (2 ≤ h ∧ h ≤ 8)
def filN (n : Nat) (x : Int) (f : Nat → Int) : Nat → Int := fun c => if c < n then x else f c
/-- a state anew -/
def g0 (g : AH) (w h : Int) : AH := fun k => match k with
  | 0 => updA (updA (updA (updA (updA (updA (updA (updA (g 0) 0 w) 1 h) 2 1) 3 0) 4 0) 5 0) 6 0) 7 0
  | 1 => filN 64 2 (g 1)
  | 2 => filN 64 0 (g 2)
  | 3 => filN 64 0 (g 3)
  | 4 => filN 64 (-1) (g 4)
  | 5 => filN 64 (-1) (g 5)
  | 6 => filN 64 1000000 (g 6)
  | 7 => filN 64 0 (g 7)
  | 8 => filN 64 0 (g 8)
  | 9 => filN 64 0 (g 9)
  | 10 => filN 4 0 (g 10)
  | k => g k
def n_hills (g : AH) (w h : Int) : AH := if hillsP w h then g0 g w h else g
abbrev cellQ (g : AH) (c f h w : Int) : Prop := cellP g c ∧ (0 ≤ f ∧ f ≤ 4) ∧ (0 ≤ h ∧ h ≤ 9) ∧ (0 ≤ w ∧ w ≤ 99)
def n_cell (g : AH) (c f h w : Int) : AH := if cellQ g c f h w then updC (updC (updC g 1 (updA (g 1) c.toNat f)) 2 (updA (g 2) c.toNat h)) 3 (updA (g 3) c.toNat w) else g
def cpW (f : Nat → Int) (w n : Nat) : Nat → Int := fun j => if 8 * w ≤ j ∧ j < 8 * w + n then f (j - 8 * w) else f j
def a_world (g : AH) : Int := if g 0 2 = 4 then -1 else g 0 2
def n_world (g : AH) : AH := if g 0 2 = 4 then g else updC (updC (updC (updC (updC g 10 (updA (g 10) (g 0 2).toNat (g 10 0))) 11 (cpW (g 11) (g 0 2).toNat (g 10 0).toNat)) 12 (cpW (g 12) (g 0 2).toNat (g 10 0).toNat)) 13 (cpW (g 13) (g 0 2).toNat (g 10 0).toNat)) 0 (updA (g 0) 2 (g 0 2 + 1))
abbrev windP (g : AH) (w m t f : Int) : Prop := worldP g w ∧ minP m ∧ (0 ≤ t ∧ t ≤ 7) ∧ (0 ≤ f ∧ f ≤ 9) ∧ ¬ g 10 w.toNat = 8 ∧ (g 10 w.toNat ≤ 0 ∨ g 11 (8 * w + g 10 w.toNat - 1).toNat < m)
def n_wind (g : AH) (w m t f : Int) : AH := if windP g w m t f then updC (updC (updC (updC g 11 (updA (g 11) (8 * w + g 10 w.toNat).toNat m)) 12 (updA (g 12) (8 * w + g 10 w.toNat).toNat t)) 13 (updA (g 13) (8 * w + g 10 w.toNat).toNat f)) 10 (updA (g 10) w.toNat (g 10 w.toNat + 1)) else g
abbrev lightP (g : AH) (c m : Int) : Prop := cellP g c ∧ minP m ∧ ¬ g 1 c.toNat = 0 ∧ (g 4 c.toNat = -1 ∨ m < g 4 c.toNat)
def n_light (g : AH) (c m : Int) : AH := if lightP g c m then updC g 4 (updA (g 4) c.toNat m) else g
abbrev notP (g : AH) (c m : Int) : Prop := cellP g c ∧ minP m ∧ g 5 c.toNat < m ∧ (g 4 c.toNat = -1 ∨ m < g 4 c.toNat)
def n_not (g : AH) (c m : Int) : AH := if notP g c m then updC g 5 (updA (g 5) c.toNat m) else g
abbrev dropP (g : AH) (c m : Int) : Prop := cellP g c ∧ minP m ∧ ¬ g 0 3 = 40
def n_drop (g : AH) (c m : Int) : AH := if dropP g c m then updC (updC (updC g 14 (updA (g 14) (g 0 3).toNat c)) 15 (updA (g 15) (g 0 3).toNat m)) 0 (updA (g 0) 3 (g 0 3 + 1)) else g
def nvr (b : Int) : Int := if b = 1000000 then -1 else b
def a_burns (g : AH) (w c : Int) : Int := if worldP g w ∧ cellP g c then nvr ((fr g (g 6) w.toNat).1 c.toNat) else -1
def cntB (b : Nat → Int) (m : Int) : Nat → Int
  | 0 => 0
  | k + 1 => cntB b m k + (if b k ≤ m then 1 else 0)
def bntG (g : AH) (ct : Nat → Int) (w : Nat) (m : Int) : Int := cntB (fr g ct w).1 m (nG g)
def a_burnt (g : AH) (w m : Int) : Int := if worldP g w ∧ minP m then bntG g (g 6) w.toNat m else -1
def a_from (g : AH) (w c : Int) : Int := if worldP g w ∧ cellP g c then (fr g (g 6) w.toNat).2.1 c.toNat else -1
abbrev markP (g : AH) (k : Nat) (c : Int) : Prop := cellP g c ∧ g k c.toNat = 0
def n_mark (g : AH) (k : Nat) (c : Int) : AH := if markP g k c then updC g k (updA (g k) c.toNat 1) else g
abbrev crewP (g : AH) (c : Int) : Prop := cellP g c ∧ ¬ g 0 4 = 6
def a_crew (g : AH) (c : Int) : Int := if crewP g c then g 0 4 else -1
def n_crew (g : AH) (c : Int) : AH := if crewP g c then updC (updC (updC (updC g 16 (updA (g 16) (g 0 4).toNat c)) 17 (updA (g 17) (g 0 4).toNat 0)) 18 (updA (g 18) (g 0 4).toNat 0)) 0 (updA (g 0) 4 (g 0 4 + 1)) else g
def a_look (g : AH) (k u : Int) : Int := if 0 ≤ k ∧ k < g 0 4 then (if u = 0 then g 16 k.toNat else if u = 1 then g 17 k.toNat else if u = 2 then g 18 k.toNat else -1) else -1
abbrev vilP (g : AH) (c n e : Int) : Prop := cellP g c ∧ (1 ≤ n ∧ n ≤ 500) ∧ (1 ≤ e ∧ e ≤ 50) ∧ ¬ g 0 6 = 6
def a_village (g : AH) (c n e : Int) : Int := if vilP g c n e then g 0 6 else -1
def n_village (g : AH) (c n e : Int) : AH := if vilP g c n e then updC (updC (updC (updC g 19 (updA (g 19) (g 0 6).toNat c)) 20 (updA (g 20) (g 0 6).toNat n)) 21 (updA (g 21) (g 0 6).toNat e)) 0 (updA (g 0) 6 (g 0 6 + 1)) else g
def inMay (g : AH) (c : Int) : Nat → Bool
  | 0 => false
  | k + 1 => inMay g c k || decide (g 22 k = c)
abbrev mayP (g : AH) (c : Int) : Prop := cellP g c ∧ ¬ g 1 c.toNat = 0 ∧ ¬ g 0 7 = 6 ∧ inMay g c (g 0 7).toNat = false
def n_maybe (g : AH) (c : Int) : AH := if mayP g c then updC (updC g 22 (updA (g 22) (g 0 7).toNat c)) 0 (updA (g 0) 7 (g 0 7 + 1)) else g
def dcn (g : AH) (c : Int) : Nat → Int
  | 0 => 0
  | k + 1 => dcn g c k + (if g 14 k = c then 1 else 0)
def a_about (g : AH) (c u : Int) : Int := if cellP g c then (if u = 0 then g 1 c.toNat else if u = 1 then g 2 c.toNat else if u = 2 then g 3 c.toNat else if u = 3 then nvr (g 6 c.toNat) else if u = 4 then dcn g c (g 0 3).toNat else if u = 5 then g 7 c.toNat else if u = 6 then g 8 c.toNat else if u = 7 then g 9 c.toNat else if u = 8 then g 4 c.toNat else if u = 9 then g 5 c.toNat else -1) else -1
/-- burns in one of the first k worlds -/
def brnW (g : AH) (c : Nat) : Nat → Bool
  | 0 => false
  | k + 1 => brnW g c k || decide ((fr g (g 6) k).1 c < 1000000)
def nvrB (g : AH) : Nat → Int
  | 0 => 0
  | k + 1 => nvrB g k + (if brnW g k (g 0 2).toNat then 0 else 1)
def a_count (g : AH) (u : Int) : Int := if u = 0 then g 0 0 else if u = 1 then g 0 1 else if u = 2 then g 0 2 else if u = 3 then g 0 4 else if u = 4 then g 0 6 else if u = 5 then g 0 5 else if u = 6 then g 0 7 else if u = 7 then nvrB g (nG g) else -1
theorem P23_rf (h : AH) : P23 h h := fun _ _ => rfl
