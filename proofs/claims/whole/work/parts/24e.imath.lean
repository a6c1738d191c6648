def shZ (a : Int → Int) (k : Int) : Int → Int := fun j => if 0 ≤ j ∧ j < k then a (j + 118) else a j
theorem shZ_0 (a : Int → Int) : shZ a 0 = a := by funext j; unfold shZ; rw [if_neg (by omega)]
theorem shZ_s {a : Int → Int} {k : Int} (h : 0 ≤ k) : updZ (shZ a k) k (shZ a k (k + 118)) = shZ a (k + 1) := by
  funext j
  by_cases hj : j = k
  · subst hj; rw [updZ_s]; unfold shZ; rw [if_neg (by omega), if_pos (by omega)]
  · rw [updZ_n hj]; unfold shZ
    by_cases h2 : 0 ≤ j ∧ j < k
    · rw [if_pos h2, if_pos (by omega)]
    · rw [if_neg h2, if_neg (by omega)]
/-- the count of past states behind remembering one -/
def remN (ss : Int) : Int := if ss = 14 then 14 else ss + 1
/-- the rows of the past behind remembering one -/
def remA (a ap : Int → Int) (ss : Int) : Int → Int := cpZ a (if ss = 14 then shZ ap 1534 else ap) 0 (118 * (if ss = 14 then 13 else ss)) 118
theorem rq_carve (a : Int → Int) (k c : Int) : rq (updZ a (1 + k) c) = updZ (rq a) k c := by
  funext j
  show updZ a (1 + k) c (1 + j) = updZ (fun j => a (1 + j)) k c j
  by_cases h : j = k
  · subst h; rw [updZ_s, updZ_s]
  · rw [updZ_n h, updZ_n (by omega)]
theorem sns_rng {n : Int} (h : 0 ≤ n) (q : Int → Int) (nw : Int) (bl : Int → Int) (bc : Int → Int → Int) (d : Int) : 0 ≤ sns n q nw bl bc d ∧ sns n q nw bl bc d ≤ n := cnt_rng _ h
/-- the sense of the ring with a divider carved at p, read from the row that holds it -/
theorem sns_carve {a : Int → Int} {k d : Int} (hk : 0 ≤ k ∧ k < 24) : sns (updZ a (1 + k) 0 0) (rq (updZ a (1 + k) 0)) (updZ a (1 + k) 0 25) (rbl (updZ a (1 + k) 0)) (rbc (updZ a (1 + k) 0)) d = sns (a 0) (updZ (rq a) k 0) (a 25) (rbl a) (rbc a) d := by
  rw [rq_carve, show updZ a (1 + k) 0 0 = a 0 from updZ_n (by omega), show updZ a (1 + k) 0 25 = a 25 from updZ_n (by omega)]
  exact cnt_congr (fun j x y => hf_congr (by omega) ⟨x, y⟩ (fun _ _ _ => rfl) (fun w u v => ⟨updZ_n (by omega), fun i u2 v2 => updZ_n (by omega)⟩))
theorem stW_s {a : Int → Int} {w k : Int} (hk : 0 ≤ k) : updZ (updZ (stW a w k) (97 + 5 * w + 0) (off ((stW a w k) 0) ((stW a w k) (97 + 5 * w + 0)) ((stW a w k) (97 + 5 * w + 1)) ((stW a w k) (97 + 5 * w + 2)))) (97 + 5 * w + 4) (bor ((stW a w k) (97 + 5 * w + 4)) (vw ((stW a w k) 0) (off ((stW a w k) 0) ((stW a w k) (97 + 5 * w + 0)) ((stW a w k) (97 + 5 * w + 1)) ((stW a w k) (97 + 5 * w + 2))) ((stW a w k) (97 + 5 * w + 1)) ((stW a w k) (97 + 5 * w + 3)))) = stW a w (k + 1) := by
  have e0 : stW a w k 0 = a 0 := stW_n (by omega) (by omega)
  have e1 : stW a w k (97 + 5 * w + 1) = a (97 + 5 * w + 1) := stW_n (by omega) (by omega)
  have e2 : stW a w k (97 + 5 * w + 2) = a (97 + 5 * w + 2) := stW_n (by omega) (by omega)
  have e3 : stW a w k (97 + 5 * w + 3) = a (97 + 5 * w + 3) := stW_n (by omega) (by omega)
  rw [e0, e1, e2, e3, stW_p, stW_e]
  funext j
  by_cases h4 : j = 97 + 5 * w + 4
  · rw [h4, updZ_s, stW_e, ← se_s _ _ _ _ _ _ hk, Int.one_mul]
  · by_cases h0 : j = 97 + 5 * w + 0
    · rw [h0, updZ_n (by omega), updZ_s, stW_p, ← ps_s _ _ _ _ hk, Int.one_mul]
    · rw [updZ_n h4, updZ_n h0, stW_n h0 h4, stW_n h0 h4]
theorem stW_c {a : Int → Int} {w v k k2 : Int} (h : ¬ w = v) : stW (stW a w k) v k2 = stW (stW a v k2) w k := by
  have q0 : ∀ (u x y : Int) (b : Int → Int), stW b u x 0 = b 0 := fun u x y b => stW_n (by omega) (by omega)
  funext j
  by_cases hw : j = 97 + 5 * w + 0 ∨ j = 97 + 5 * w + 4
  · rw [stW_n (w := v) (by omega) (by omega)]
    rcases hw with hw | hw
    · rw [hw, stW_p, stW_p, stW_n (w := v) (by omega) (by omega), stW_n (w := v) (by omega) (by omega), stW_n (w := v) (by omega) (by omega), stW_n (w := v) (by omega) (by omega)]
    · rw [hw, stW_e, stW_e, stW_n (w := v) (by omega) (by omega), stW_n (w := v) (by omega) (by omega), stW_n (w := v) (by omega) (by omega), stW_n (w := v) (by omega) (by omega), stW_n (w := v) (by omega) (by omega), stW_n (w := v) (by omega) (by omega)]
  · rw [stW_n (w := w) (a := stW a v k2) (by omega) (by omega)]
    by_cases hv : j = 97 + 5 * v + 0 ∨ j = 97 + 5 * v + 4
    · rcases hv with hv | hv
      · rw [hv, stW_p, stW_p, stW_n (w := w) (by omega) (by omega), stW_n (w := w) (by omega) (by omega), stW_n (w := w) (by omega) (by omega), stW_n (w := w) (by omega) (by omega)]
      · rw [hv, stW_e, stW_e, stW_n (w := w) (by omega) (by omega), stW_n (w := w) (by omega) (by omega), stW_n (w := w) (by omega) (by omega), stW_n (w := w) (by omega) (by omega), stW_n (w := w) (by omega) (by omega), stW_n (w := w) (by omega) (by omega)]
    · rw [stW_n (w := v) (by omega) (by omega), stW_n (w := w) (by omega) (by omega), stW_n (w := v) (by omega) (by omega)]
