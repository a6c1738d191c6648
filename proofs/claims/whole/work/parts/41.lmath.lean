-- links between the two programs' terms
/-- t steps by hand are one way of t times the pace -/
theorem off_add {n p d j k : Int} : off n (off n p d j) d k = off n p d (j + k) := by
  unfold off
  by_cases hd : d = 0
  · rw [if_pos hd, if_pos hd, if_pos hd, Int.emod_add_emod, show p + j + k = p + (j + k) by omega]
  · rw [if_neg hd, if_neg hd, if_neg hd, Int.emod_sub_emod, show p - j - k = p - (j + k) by omega]
theorem ps_off {n p d q t : Int} (hp : 0 ≤ p ∧ p < n) (ht : 0 ≤ t) : ps n p d q t = off n p d (t * q) := by
  obtain ⟨m, rfl⟩ := Int.eq_ofNat_of_zero_le ht
  induction m with
  | zero =>
    rw [show ((0 : Nat) : Int) = 0 from rfl, Int.zero_mul, off_at0 hp]; rfl
  | succ m ih =>
    rw [show ((m + 1 : Nat) : Int) = (m : Int) + 1 by omega, ← ps_s _ _ _ _ (by omega), ih (by omega), off_add, Int.add_mul]
theorem off_per {n p d k : Int} (m : Int) : off n p d (k + m * n) = off n p d k := by
  unfold off
  split
  · rw [show p + (k + m * n) = p + k + n * m by rw [Int.mul_comm m n]; omega, Int.add_mul_emod_self_left]
  · rw [show p - (k + m * n) = p - k + n * (-m) by rw [Int.mul_comm m n, Int.mul_neg]; omega, Int.add_mul_emod_self_left]
