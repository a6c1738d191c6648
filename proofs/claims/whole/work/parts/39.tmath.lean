def GRmv (a : Int → Int) (G : Int → Int → Int) (w : Int) : Int → Int → Int := fun x => if x = 6 then cpZ (G 6) (G 6) ((w + 1) * 6) (w * 6) ((a 25 - 1 - w) * 6) else if x = 7 then cpZ (G 7) (G 7) (w + 1) w (a 25 - 1 - w) else G x
theorem rmvR_f {a : Int → Int} {w : Int} (hw : 0 ≤ w ∧ w < a 25) (hn : a 25 ≤ 10) : rmvR a w 25 = a 25 - 1 ∧ (∀ j, j < 25 ∨ (25 < j ∧ j < 26 + 7 * w) ∨ 96 ≤ j → rmvR a w j = a j) ∧ ∀ j, 26 + 7 * w ≤ j → j < 26 + 7 * (a 25 - 1) → rmvR a w j = a (j + 7) := by
  unfold rmvR rmvK
  refine ⟨?_, fun j hj => ?_, fun j x y => ?_⟩
  · rw [if_neg (by omega), if_pos rfl]
  · rw [if_neg (by omega), if_neg (by omega)]
  · rw [if_pos (by omega)]
theorem SBG_rmv {a : Int → Int} {G : Int → Int → Int} (h : SBG a G) {w : Int} (hw : 0 ≤ w ∧ w < a 25) : SBG (rmvR a w) (GRmv a G w) := by
  have hM := SB.mr h
  have hn := hM.n; have hnw := hM.nw; have hcc := hM.wc
  obtain ⟨e25, e, es⟩ := rmvR_f hw hnw.2
  refine ⟨?_, fun j x y => ?_, fun v x y => ?_, fun v x y => ?_, SB.cg h, fun j x y => ?_⟩
  · unfold MR
    rw [e 0 (by omega), e25, e 96 (by omega)]
    refine ⟨hM.1, fun j x y => ?_, by omega, fun v x y => ?_, hM.wc, fun v x y => ?_⟩
    · rw [e _ (by omega)]; exact hM.q x y
    · by_cases hv : v < w
      · have hb := hM.b x (show v < a 25 by omega)
        rw [e (26 + 7 * v) (by omega)]
        exact ⟨hb.1, fun i u z => by rw [e _ (by omega)]; exact hb.2 i u z⟩
      · have hb := hM.b (w := v + 1) (by omega) (by omega)
        rw [es (26 + 7 * v) (by omega) (by omega), show 26 + 7 * v + 7 = 26 + 7 * (v + 1) by omega]
        exact ⟨hb.1, fun i u z => by rw [es _ (by omega) (by omega), show 26 + 7 * v + 1 + i + 7 = 26 + 7 * (v + 1) + 1 + i by omega]; exact hb.2 i u z⟩
    · rw [e _ (by omega), e _ (by omega), e _ (by omega), e _ (by omega), e _ (by omega)]; exact hM.w x y
  · rw [e 0 (by omega)] at y
    show G 0 j = sc (rmvR a w (1 + j))
    rw [e _ (by omega)]; exact h.2.1 j x y
  · rw [e25] at y
    show cpZ (G 7) (G 7) (w + 1) w (a 25 - 1 - w) v = _ ∧ ∀ i, 0 ≤ i → _ → cpZ (G 6) (G 6) ((w + 1) * 6) (w * 6) ((a 25 - 1 - w) * 6) (v * 6 + i) = _
    by_cases hv : v < w
    · have hb := hM.b x (show v < a 25 by omega)
      have ho := h.2.2.1 v x (show v < a 25 by omega)
      rw [e (26 + 7 * v) (by omega), cpZ_out (by omega)]
      refine ⟨ho.1, fun i u z => ?_⟩
      rw [cpZ_out (by omega), e _ (by omega)]; exact ho.2 i u z
    · have hb := hM.b (w := v + 1) (by omega) (by omega)
      have ho := h.2.2.1 (v + 1) (by omega) (by omega)
      rw [es (26 + 7 * v) (by omega) (by omega), show 26 + 7 * v + 7 = 26 + 7 * (v + 1) by omega, cpZ_in (by omega) (by omega), show w + 1 + (v - w) = v + 1 by omega]
      refine ⟨ho.1, fun i u z => ?_⟩
      rw [cpZ_in (by omega) (by omega), es _ (by omega) (by omega), show 26 + 7 * v + 1 + i + 7 = 26 + 7 * (v + 1) + 1 + i by omega, show (w + 1) * 6 + (v * 6 + i - w * 6) = (v + 1) * 6 + i by omega]; exact ho.2 i u z
  · rw [e 96 (by omega)] at y
    rw [e _ (by omega), e _ (by omega), e _ (by omega), e _ (by omega), e _ (by omega)]; exact SB.wk h x y
  · show 0 ≤ cpZ (G 6) (G 6) ((w + 1) * 6) (w * 6) ((a 25 - 1 - w) * 6) j ∧ cpZ (G 6) (G 6) ((w + 1) * 6) (w * 6) ((a 25 - 1 - w) * 6) j < 65536
    by_cases hj : w * 6 ≤ j ∧ j < w * 6 + (a 25 - 1 - w) * 6
    · rw [cpZ_in hj.1 hj.2]; exact SB.cl h _ (by omega) (by omega)
    · rw [cpZ_out (by omega)]; exact SB.cl h j x y
