-- a text laid as a ring, written down as a word; a word struck out
def ringR (a tc : Int → Int) (ty : Int) : Int → Int := zrZ (updZ (rngK a tc ty 24) 0 ty) 96 117
def GRing (G : Int → Int → Int) (tc : Int → Int) (ty : Int) : Int → Int → Int := fun x => if x = 0 then cpZ tc (G 0) 0 0 ty else G x
theorem ringR_f (a tc : Int → Int) (ty : Int) : ringR a tc ty 0 = ty ∧ ringR a tc ty 96 = 0 ∧ (∀ j, (25 ≤ j ∧ j < 96) ∨ 117 ≤ j → ringR a tc ty j = a j) ∧ ∀ j, 0 ≤ j → j < 24 → j < ty → ringR a tc ty (1 + j) = sgc (tc j) := by
  unfold ringR
  refine ⟨?_, ?_, fun j hj => ?_, fun j x y z => ?_⟩
  · unfold zrZ; rw [if_neg (by omega), updZ_s]
  · unfold zrZ; rw [if_pos (by omega)]
  · unfold zrZ; rw [if_neg (by omega), updZ_n (by omega)]; unfold rngK; rw [if_neg (by omega)]
  · unfold zrZ; rw [if_neg (by omega), updZ_n (by omega)]; unfold rngK; rw [if_pos (by omega), show 1 + j - 1 = j by omega, if_pos z]
theorem sgc_ok {x : Int} (h : (97 ≤ x ∧ x ≤ 104) ∨ x = 46 ∨ x = 63) : x = sc (sgc x) ∧ 0 ≤ sgc x ∧ sgc x ≤ 9 := by
  unfold sgc sc; repeat' split <;> omega
theorem SBG_ring {a : Int → Int} {G : Int → Int → Int} (h : SBG a G) {tc : Int → Int} {ty : Int} (ht : 1 ≤ ty ∧ ty ≤ 24) (hc : CH 40 tc) (hok : ∀ j, 0 ≤ j → j < ty → ferok tc 0 j) : SBG (ringR a tc ty) (GRing G tc ty) := by
  have hM := SB.mr h
  have hnw := hM.nw
  obtain ⟨e0, e96, e, es⟩ := ringR_f a tc ty
  have hs : ∀ j, 0 ≤ j → j < ty → tc j = sc (sgc (tc j)) ∧ 0 ≤ sgc (tc j) ∧ sgc (tc j) ≤ 9 := fun j x y => sgc_ok (by have := (hok j x y).2; omega)
  refine ⟨MR_cut hM (by rw [e0]; omega) (fun j x y => ?_) (fun j x y => e j (by omega)) e96, fun j x y => ?_, fun w x y => ?_, fun w x y => ?_, fun j x y => ?_, SB.cl h⟩
  · rw [e0] at y; rw [es j x (by omega) y]; exact (hs j x y).2
  · rw [e0] at y
    show cpZ tc (G 0) 0 0 ty j = sc (ringR a tc ty (1 + j))
    rw [es j x (by omega) y, cpZ_in x (by omega), show 0 + (j - 0) = j by omega]; exact (hs j x y).1
  · rw [e 25 (by omega)] at y
    have hb := hM.b x y
    rw [e (26 + 7 * w) (by omega)]
    exact ⟨(h.2.2.1 w x y).1, fun i u v => by rw [e _ (by omega)]; exact (h.2.2.1 w x y).2 i u v⟩
  · rw [e96] at y; omega
  · show 0 ≤ cpZ tc (G 0) 0 0 ty j ∧ _
    by_cases hj : j < ty
    · have e2 : cpZ tc (G 0) 0 0 ty j = tc j := by rw [cpZ_in x (by omega), show 0 + (j - 0) = j by omega]
      rw [e2]; show 0 ≤ tc j ∧ cpZ tc (G 0) 0 0 ty j < 65536; rw [e2]; exact hc j x (by omega)
    · have e2 : cpZ tc (G 0) 0 0 ty j = G 0 j := cpZ_out (by omega)
      rw [e2]; show 0 ≤ G 0 j ∧ cpZ tc (G 0) 0 0 ty j < 65536; rw [e2]; exact SB.cg h j x y
