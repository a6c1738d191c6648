/-- the signs of the text laid on the row, as far as k -/
def rngK (a tc : Int → Int) (ty k : Int) : Int → Int := fun j => if 1 ≤ j ∧ j < 1 + k then (if j - 1 < ty then sgc (tc (j - 1)) else 0) else a j
theorem rngK_0 (a tc : Int → Int) (ty : Int) : rngK a tc ty 0 = a := by funext j; unfold rngK; rw [if_neg (by omega)]
theorem rngK_a {a tc : Int → Int} {ty k v : Int} (h : 0 ≤ k) (hv : v = if k < ty then sgc (tc k) else 0) : updZ (rngK a tc ty k) (1 + k) v = rngK a tc ty (k + 1) := by
  funext j
  by_cases hj : j = 1 + k
  · rw [hj, updZ_s]; unfold rngK; rw [if_pos (by omega), show 1 + k - 1 = k by omega, hv]
  · rw [updZ_n hj]; unfold rngK
    by_cases h2 : 1 ≤ j ∧ j < 1 + k
    · rw [if_pos h2, if_pos (show 1 ≤ j ∧ j < 1 + (k + 1) by omega)]
    · rw [if_neg h2, if_neg (by omega)]
theorem rngK_y {a tc : Int → Int} {ty k : Int} (h : 0 ≤ k) (hk : k < ty) : updZ (rngK a tc ty k) (1 + k) (sgc (tc k)) = rngK a tc ty (k + 1) := rngK_a h (by rw [if_pos hk])
theorem rngK_n {a tc : Int → Int} {ty k : Int} (h : 0 ≤ k) (hk : ¬ k < ty) : updZ (rngK a tc ty k) (1 + k) 0 = rngK a tc ty (k + 1) := rngK_a h (by rw [if_neg hk])
/-- the letters of the text laid on the row of words, as far as k -/
def wrdK (a tc : Int → Int) (ty k : Int) : Int → Int := fun j => if 26 + 7 * a 25 + 1 ≤ j ∧ j < 26 + 7 * a 25 + 1 + k then (if j - (26 + 7 * a 25 + 1) < ty then sgc (tc (j - (26 + 7 * a 25 + 1))) else 0) else if j = 26 + 7 * a 25 then ty else a j
theorem wrdK_0 (a tc : Int → Int) (ty : Int) : wrdK a tc ty 0 = updZ a (26 + 7 * a 25) ty := by funext j; unfold wrdK updZ; rw [if_neg (by omega)]
theorem wrdK_lo {a tc : Int → Int} {ty k j : Int} (h : j < 26) (h2 : 0 ≤ a 25) : wrdK a tc ty k j = a j := by unfold wrdK; rw [if_neg (by omega), if_neg (by omega)]
theorem wrdK_a {a tc : Int → Int} {ty k v : Int} (h : 0 ≤ k) (hv : v = if k < ty then sgc (tc k) else 0) : updZ (wrdK a tc ty k) (26 + 7 * a 25 + 1 + k) v = wrdK a tc ty (k + 1) := by
  funext j
  by_cases hj : j = 26 + 7 * a 25 + 1 + k
  · rw [hj, updZ_s]; unfold wrdK; rw [if_pos (by omega), show 26 + 7 * a 25 + 1 + k - (26 + 7 * a 25 + 1) = k by omega, hv]
  · rw [updZ_n hj]; unfold wrdK
    by_cases h2 : 26 + 7 * a 25 + 1 ≤ j ∧ j < 26 + 7 * a 25 + 1 + k
    · rw [if_pos h2, if_pos (show 26 + 7 * a 25 + 1 ≤ j ∧ j < 26 + 7 * a 25 + 1 + (k + 1) by omega)]
    · rw [if_neg h2, if_neg (show ¬ (26 + 7 * a 25 + 1 ≤ j ∧ j < 26 + 7 * a 25 + 1 + (k + 1)) by omega)]
theorem wrdK_y {a tc : Int → Int} {ty k : Int} (h : 0 ≤ k) (hk : k < ty) : updZ (wrdK a tc ty k) (26 + 7 * a 25 + 1 + k) (sgc (tc k)) = wrdK a tc ty (k + 1) := wrdK_a h (by rw [if_pos hk])
theorem wrdK_n {a tc : Int → Int} {ty k : Int} (h : 0 ≤ k) (hk : ¬ k < ty) : updZ (wrdK a tc ty k) (26 + 7 * a 25 + 1 + k) 0 = wrdK a tc ty (k + 1) := wrdK_a h (by rw [if_neg hk])
