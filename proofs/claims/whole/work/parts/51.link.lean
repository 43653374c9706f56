/-! a state known only by its first cells -/
theorem fr_P {a b : AH} (e : P23 a b) (ct : Nat → Int) (w : Nat) : fr a ct w = fr b ct w := fr_c8 (P8_of e) ct w
theorem Rel_P {x a b : AH} (e : P23 a b) (h : RelC x b) : RelC x a := by
  have n : nG a = nG b := nG_c8 (P8_of e)
  have nb : nbF a = nbF b := nbF_c e
  have e0 := e 0 (by omega)
  have e14 := e 14 (by omega)
  have dn : ∀ c k, dcn a c k = dcn b c k := fun c k => dcn_w e14 c k
  have ld : ∀ c k, lsD a c k = lsD b c k := fun c k => lsD_w e14 c k
  obtain ⟨⟨hG, hD, hW, hO⟩, hC, hF⟩ := h
  refine ⟨⟨?_, ?_, ?_, ?_⟩, ?_, ?_⟩
  · unfold rG at *
    simp only [n, nb, e0, e 1 (by omega), e 2 (by omega), e 3 (by omega), e 4 (by omega), e 5 (by omega), e 7 (by omega), e 8 (by omega), e 9 (by omega)]
    exact hG
  · unfold rD at *
    simp only [dn, ld, e0, e14, e 15 (by omega)]
    exact hD
  · unfold rW rW1 at *
    simp only [e0, e 10 (by omega), e 11 (by omega), e 12 (by omega), e 13 (by omega)]
    exact hW
  · unfold rO at *
    simp only [e0, e 16 (by omega), e 17 (by omega), e 18 (by omega), e 19 (by omega), e 20 (by omega), e 21 (by omega), e 22 (by omega)]
    exact hO
  · unfold rC at *
    simp only [e 6 (by omega)]
    exact hC
  · unfold rF rF1 at *
    simp only [e0, n, e 6 (by omega), fr_P e]
    exact hF
/-- both sides, before and behind every call -/
def LI (x h : AH) : Prop := RelC x h ∧ gi h ∧ h 0 30 = 0
theorem LI_n {x h h2 n : AH} (hR : RelC x n) (hg : gi n) (hP : P23 h2 n) (h30 : h2 0 30 = h 0 30) (h0 : h 0 30 = 0) : LI x h2 := ⟨Rel_P hP hR, gi_c hP hg, by rw [h30]; exact h0⟩
