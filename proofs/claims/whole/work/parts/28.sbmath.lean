/-- a state of the class holds what the reference's row a holds -/
def SB (a g lt ln wp wd wq wi we : Int → Int) : Prop := MR a ∧ (∀ j, 0 ≤ j → j < a 0 → g j = sc (rq a j)) ∧ (∀ w, 0 ≤ w → w < a 25 → ln w = a (26 + 7 * w) ∧ ∀ i, 0 ≤ i → i < a (26 + 7 * w) → lt (w * 6 + i) = 96 + a (26 + 7 * w + 1 + i)) ∧ (∀ w, 0 ≤ w → w < a 96 → wp w = a (97 + 5 * w + 0) ∧ wd w = a (97 + 5 * w + 1) ∧ wq w = a (97 + 5 * w + 2) ∧ wi w = a (97 + 5 * w + 3) ∧ we w = a (97 + 5 * w + 4)) ∧ CH 24 g ∧ CH 60 lt
section SBs
variable {a g lt ln wp wd wq wi we : Int → Int}
theorem SB.mr (h : SB a g lt ln wp wd wq wi we) : MR a := h.1
theorem SB.rg (h : SB a g lt ln wp wd wq wi we) : RG (a 0) g (rq a) := ⟨h.1.n.1, h.1.n.2, fun j x y => ⟨h.2.1 j x y, (h.1.q x y).1, (h.1.q x y).2⟩⟩
theorem SB.bk (h : SB a g lt ln wp wd wq wi we) : BK (a 25) lt ln (rbl a) (rbc a) := ⟨h.1.nw.1, h.1.nw.2, fun w x y => ⟨(h.2.2.1 w x y).1, (h.1.b x y).1.1, (h.1.b x y).1.2, fun i u v => ⟨(h.2.2.1 w x y).2 i u v, ((h.1.b x y).2 i u v).1, ((h.1.b x y).2 i u v).2⟩⟩⟩
theorem SB.wk (h : SB a g lt ln wp wd wq wi we) {w : Int} (x : 0 ≤ w) (y : w < a 96) : wp w = a (97 + 5 * w + 0) ∧ wd w = a (97 + 5 * w + 1) ∧ wq w = a (97 + 5 * w + 2) ∧ wi w = a (97 + 5 * w + 3) ∧ we w = a (97 + 5 * w + 4) := h.2.2.2.1 w x y
theorem SB.ws (h : SB a g lt ln wp wd wq wi we) : WS (a 0) (a 96) wp wd wq wi we := ⟨h.1.wc.1, h.1.wc.2, fun w x y => by obtain ⟨e0, e1, e2, e3, e4⟩ := h.wk x y; rw [e0, e1, e2, e3, e4]; exact h.1.w x y⟩
theorem SB.cg (h : SB a g lt ln wp wd wq wi we) : CH 24 g := h.2.2.2.2.1
theorem SB.cl (h : SB a g lt ln wp wd wq wi we) : CH 60 lt := h.2.2.2.2.2
end SBs
theorem CH_upd {n : Int} {g : Int → Int} {i v : Int} (h : CH n g) (hv : 0 ≤ v ∧ v < 65536) : CH n (updZ g i v) := fun j x y => by
  by_cases hj : j = i
  · rw [hj, updZ_s]; exact hv
  · rw [updZ_n hj]; exact h j x y
theorem CH_ins {g : Int → Int} {n i : Int} (h : CH 24 g) (hi : 0 ≤ i) : CH 24 (insZ g n i) := fun j x y => by
  unfold insZ; split
  · exact h _ (by omega) (by omega)
  · exact h _ x y
theorem CH_del {g : Int → Int} {n i : Int} (h : CH 24 g) (hi : 0 ≤ i) (hn : n < 24) : CH 24 (delZ g i n) := fun j x y => by
  unfold delZ; split
  · exact h _ (by omega) (by omega)
  · exact h _ x y
noncomputable def gAct (a g : Int → Int) (kd i c : Int) : Int → Int := if kd = 1 then updZ g i (sc c) else if kd = 2 then updZ g i (sc (if a (1 + i) = 0 then 0 else 9)) else if kd = 3 then updZ (insZ g (a 0) i) i (sc c) else delZ g i (a 0 - 1)
noncomputable def gTry (a g : Int → Int) (kd i c : Int) : Int → Int := if pB (okA a kd i c) = true then gAct a g kd i c else g
theorem gTry_y {a g : Int → Int} {kd i c : Int} (h : okA a kd i c) : gTry a g kd i c = gAct a g kd i c := by unfold gTry; rw [if_pos (pB_t h)]
theorem gTry_n {a g : Int → Int} {kd i c : Int} (h : ¬ okA a kd i c) : gTry a g kd i c = g := by unfold gTry; rw [pB_f h]; rfl
/-- what a try leaves of the row's counts -/
theorem tryR_12 {a : Int → Int} (hn : 0 ≤ a 0 ∧ a 0 ≤ 24) {kd i c : Int} (hk : kd = 1 ∨ kd = 2) {j : Int} (hj : j = 0 ∨ 25 ≤ j) : tryR a kd i c j = a j := by
  by_cases h : okA a kd i c
  · rw [tryR_y h]; unfold okA at h; unfold actR
    split
    · exact updZ_n (by omega)
    · split
      · exact updZ_n (by omega)
      · omega
  · rw [tryR_n h]
theorem tryR_3 {a : Int → Int} (hn : 0 ≤ a 0 ∧ a 0 ≤ 24) {i c : Int} (h : okA a 3 i c) : tryR a 3 i c 0 = a 0 + 1 ∧ tryR a 3 i c 96 = 0 ∧ ∀ j, (25 ≤ j ∧ j < 96) ∨ 117 ≤ j → tryR a 3 i c j = a j := by
  rw [tryR_y h]; unfold okA at h
  rw [show actR a 3 i c = zrZ (updZ (updZ (insZ a (1 + a 0) (1 + i)) (1 + i) c) 0 (a 0 + 1)) 96 117 from rfl]
  refine ⟨?_, ?_, fun j hj => ?_⟩
  · unfold zrZ; rw [if_neg (by omega), updZ_s]
  · unfold zrZ; rw [if_pos (by omega)]
  · unfold zrZ; rw [if_neg (by omega), updZ_n (by omega), updZ_n (by omega)]; unfold insZ; rw [if_neg (by omega)]
theorem tryR_4 {a : Int → Int} (hn : 0 ≤ a 0 ∧ a 0 ≤ 24) {i c : Int} (h : okA a 4 i c) : tryR a 4 i c 0 = a 0 - 1 ∧ tryR a 4 i c 96 = 0 ∧ ∀ j, (25 ≤ j ∧ j < 96) ∨ 117 ≤ j → tryR a 4 i c j = a j := by
  rw [tryR_y h]; unfold okA at h
  rw [show actR a 4 i c = zrZ (updZ (delZ (updZ a 0 (a 0 - 1)) (1 + i) (1 + (a 0 - 1))) (1 + (a 0 - 1)) 0) 96 117 from rfl]
  refine ⟨?_, ?_, fun j hj => ?_⟩
  · unfold zrZ; rw [if_neg (by omega), updZ_n (by omega)]; unfold delZ; rw [if_neg (by omega), updZ_s]
  · unfold zrZ; rw [if_pos (by omega)]
  · unfold zrZ; rw [if_neg (by omega), updZ_n (by omega)]; unfold delZ; rw [if_neg (by omega), updZ_n (by omega)]
theorem SB_try {a g lt ln wp wd wq wi we : Int → Int} (h : SB a g lt ln wp wd wq wi we) {kd i c : Int} (hk : 1 ≤ kd ∧ kd ≤ 4) : SB (tryR a kd i c) (gTry a g kd i c) lt ln wp wd wq wi we := by
  have hM := h.mr
  have hn := hM.n
  have hnw := hM.nw
  by_cases ho : okA a kd i c
  · have hM2 : MR (tryR a kd i c) := tryR_MR hM
    rcases (show (kd = 1 ∨ kd = 2) ∨ kd = 3 ∨ kd = 4 by omega) with hk1 | rfl | rfl
    · have e : ∀ j, (j = 0 ∨ 25 ≤ j) → tryR a kd i c j = a j := fun j hj => tryR_12 hn hk1 hj
      refine ⟨hM2, fun j x y => ?_, fun w x y => ?_, fun w x y => ?_, ?_, h.cl⟩
      · rw [e 0 (by omega)] at y
        show _ = sc (tryR a kd i c (1 + j))
        rw [tryR_y ho, gTry_y ho]
        rcases hk1 with rfl | rfl
        · show updZ g i (sc c) j = sc (updZ a (1 + i) c (1 + j))
          by_cases hj : j = i
          · rw [hj, updZ_s, updZ_s]
          · rw [updZ_n hj, updZ_n (by omega)]; exact h.2.1 j x y
        · show updZ g i (sc (if a (1 + i) = 0 then 0 else 9)) j = sc (updZ a (1 + i) (if a (1 + i) = 0 then 0 else 9) (1 + j))
          by_cases hj : j = i
          · rw [hj, updZ_s, updZ_s]
          · rw [updZ_n hj, updZ_n (by omega)]; exact h.2.1 j x y
      · rw [e 25 (by omega)] at y
        rw [e (26 + 7 * w) (by omega)]
        exact ⟨(h.2.2.1 w x y).1, fun i2 u v => by rw [e _ (by omega)]; exact (h.2.2.1 w x y).2 i2 u v⟩
      · rw [e 96 (by omega)] at y
        rw [e _ (by omega), e _ (by omega), e _ (by omega), e _ (by omega), e _ (by omega)]; exact h.wk x y
      · rw [gTry_y ho]; unfold okA at ho
        rcases hk1 with rfl | rfl
        · have := sc_rng (c := c) (by omega); exact CH_upd h.cg (by omega)
        · exact CH_upd h.cg (by have := sc_rng (c := if a (1 + i) = 0 then 0 else 9) (by split <;> omega); omega)
    · obtain ⟨e0, e96, e⟩ := tryR_3 hn ho
      have ho2 := ho; unfold okA at ho2
      refine ⟨hM2, fun j x y => ?_, fun w x y => ?_, fun w x y => ?_, ?_, h.cl⟩
      · rw [e0] at y
        show _ = sc (tryR a 3 i c (1 + j))
        rw [tryR_y ho, gTry_y ho]
        show updZ (insZ g (a 0) i) i (sc c) j = sc (zrZ (updZ (updZ (insZ a (1 + a 0) (1 + i)) (1 + i) c) 0 (a 0 + 1)) 96 117 (1 + j))
        unfold zrZ; rw [if_neg (by omega), updZ_n (j := 1 + j) (k := 0) (by omega)]
        by_cases hj : j = i
        · rw [hj, updZ_s, updZ_s]
        · rw [updZ_n hj, updZ_n (show 1 + j ≠ 1 + i by omega)]
          unfold insZ
          by_cases h2 : i < j ∧ j ≤ a 0
          · rw [if_pos h2, if_pos (by omega), show 1 + j - 1 = 1 + (j - 1) by omega]; exact h.2.1 (j - 1) (by omega) (by omega)
          · rw [if_neg h2, if_neg (by omega)]; exact h.2.1 j x (by omega)
      · rw [e 25 (by omega)] at y
        have hb := hM.b x y
        rw [e (26 + 7 * w) (by omega)]
        exact ⟨(h.2.2.1 w x y).1, fun i2 u v => by rw [e _ (by omega)]; exact (h.2.2.1 w x y).2 i2 u v⟩
      · rw [e96] at y; omega
      · rw [gTry_y ho]; have := sc_rng (c := c) (by omega); exact CH_upd (CH_ins h.cg (by omega)) (by omega)
    · obtain ⟨e0, e96, e⟩ := tryR_4 hn ho
      have ho2 := ho; unfold okA at ho2
      refine ⟨hM2, fun j x y => ?_, fun w x y => ?_, fun w x y => ?_, ?_, h.cl⟩
      · rw [e0] at y
        show _ = sc (tryR a 4 i c (1 + j))
        rw [tryR_y ho, gTry_y ho]
        show delZ g i (a 0 - 1) j = sc (zrZ (updZ (delZ (updZ a 0 (a 0 - 1)) (1 + i) (1 + (a 0 - 1))) (1 + (a 0 - 1)) 0) 96 117 (1 + j))
        unfold zrZ; rw [if_neg (by omega), updZ_n (show 1 + j ≠ 1 + (a 0 - 1) by omega)]
        unfold delZ
        by_cases h2 : i ≤ j ∧ j < a 0 - 1
        · rw [if_pos h2, if_pos (by omega), updZ_n (by omega), show 1 + j + 1 = 1 + (j + 1) by omega]; exact h.2.1 (j + 1) (by omega) (by omega)
        · rw [if_neg h2, if_neg (by omega), updZ_n (by omega)]; exact h.2.1 j x (by omega)
      · rw [e 25 (by omega)] at y
        have hb := hM.b x y
        rw [e (26 + 7 * w) (by omega)]
        exact ⟨(h.2.2.1 w x y).1, fun i2 u v => by rw [e _ (by omega)]; exact (h.2.2.1 w x y).2 i2 u v⟩
      · rw [e96] at y; omega
      · rw [gTry_y ho]; exact CH_del h.cg (by omega) (by omega)
  · rw [tryR_n ho, gTry_n ho]; exact h
