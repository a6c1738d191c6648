def wrdR (a tc : Int → Int) (ty : Int) : Int → Int := updZ (wrdK a tc ty 6) 25 (a 25 + 1)
def GWrd (a : Int → Int) (G : Int → Int → Int) (tc : Int → Int) (ty : Int) : Int → Int → Int := fun x => if x = 6 then cpZ tc (G 6) 0 (a 25 * 6) ty else if x = 7 then updZ (G 7) (a 25) ty else G x
theorem wrdR_f {a tc : Int → Int} {ty : Int} (hw : 0 ≤ a 25 ∧ a 25 < 10) : wrdR a tc ty 25 = a 25 + 1 ∧ (∀ j, j < 25 ∨ (25 < j ∧ j < 26 + 7 * a 25) ∨ 96 ≤ j → wrdR a tc ty j = a j) ∧ wrdR a tc ty (26 + 7 * a 25) = ty ∧ ∀ i, 0 ≤ i → i < 6 → i < ty → wrdR a tc ty (26 + 7 * a 25 + 1 + i) = sgc (tc i) := by
  unfold wrdR
  refine ⟨updZ_s, fun j hj => ?_, ?_, fun i x y z => ?_⟩
  · rw [updZ_n (by omega)]; unfold wrdK; rw [if_neg (by omega), if_neg (by omega)]
  · rw [updZ_n (by omega)]; unfold wrdK; rw [if_neg (by omega), if_pos rfl]
  · rw [updZ_n (by omega)]; unfold wrdK; rw [if_pos (by omega), show 26 + 7 * a 25 + 1 + i - (26 + 7 * a 25 + 1) = i by omega, if_pos z]
theorem SBG_wrd {a : Int → Int} {G : Int → Int → Int} (h : SBG a G) {tc : Int → Int} {ty : Int} (ht : 1 ≤ ty ∧ ty ≤ 6) (hw : a 25 < 10) (hc : CH 40 tc) (hok : ∀ j, 0 ≤ j → j < ty → 97 ≤ tc j ∧ tc j ≤ 104) : SBG (wrdR a tc ty) (GWrd a G tc ty) := by
  have hM := SB.mr h
  have hn := hM.n; have hnw := hM.nw; have hcc := hM.wc
  obtain ⟨e25, e, el, es⟩ := wrdR_f (a := a) (tc := tc) (ty := ty) ⟨hnw.1, hw⟩
  have hs : ∀ j, 0 ≤ j → j < ty → sgc (tc j) = tc j - 96 := fun j x y => by have := hok j x y; unfold sgc; rw [if_neg (by omega), if_neg (by omega)]
  refine ⟨?_, fun j x y => ?_, fun w x y => ?_, fun w x y => ?_, SB.cg h, fun j x y => ?_⟩
  · unfold MR
    rw [e 0 (by omega), e25, e 96 (by omega)]
    refine ⟨hM.1, fun j x y => ?_, by omega, fun w x y => ?_, hM.wc, fun w x y => ?_⟩
    · rw [e _ (by omega)]; exact hM.q x y
    · by_cases hww : w = a 25
      · subst hww; rw [el]
        refine ⟨ht, fun i u v => ?_⟩
        rw [es i u (by omega) v, hs i u v]; have := hok i u v; omega
      · have hb := hM.b x (show w < a 25 by omega)
        rw [e (26 + 7 * w) (by omega)]
        exact ⟨hb.1, fun i u v => by rw [e _ (by omega)]; exact hb.2 i u v⟩
    · rw [e _ (by omega), e _ (by omega), e _ (by omega), e _ (by omega), e _ (by omega)]; exact hM.w x y
  · rw [e 0 (by omega)] at y
    show G 0 j = sc (wrdR a tc ty (1 + j))
    rw [e _ (by omega)]; exact h.2.1 j x y
  · rw [e25] at y
    show updZ (G 7) (a 25) ty w = _ ∧ ∀ i, 0 ≤ i → _ → cpZ tc (G 6) 0 (a 25 * 6) ty (w * 6 + i) = _
    by_cases hww : w = a 25
    · subst hww; rw [el, updZ_s]
      refine ⟨rfl, fun i u v => ?_⟩
      rw [cpZ_in (by omega) (by omega), es i u (by omega) v, hs i u v, show 0 + (a 25 * 6 + i - a 25 * 6) = i by omega]; omega
    · have hb := hM.b x (show w < a 25 by omega)
      have ho := h.2.2.1 w x (show w < a 25 by omega)
      rw [e (26 + 7 * w) (by omega), updZ_n hww]
      refine ⟨ho.1, fun i u v => ?_⟩
      rw [cpZ_out (by omega), e _ (by omega)]; exact ho.2 i u v
  · rw [e 96 (by omega)] at y
    rw [e _ (by omega), e _ (by omega), e _ (by omega), e _ (by omega), e _ (by omega)]; exact SB.wk h x y
  · show 0 ≤ cpZ tc (G 6) 0 (a 25 * 6) ty j ∧ cpZ tc (G 6) 0 (a 25 * 6) ty j < 65536
    by_cases hj : a 25 * 6 ≤ j ∧ j < a 25 * 6 + ty
    · rw [cpZ_in hj.1 hj.2]; exact hc _ (by omega) (by omega)
    · rw [cpZ_out (by omega)]; exact SB.cl h j x y
