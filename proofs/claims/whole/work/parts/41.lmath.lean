-- links between the two programs' terms
/-- t steps by hand are one way of t times the pace -/
theorem off_add {n p d j k : Int} : off n (off n p d j) d k = off n p d (j + k) := by
  unfold off
  by_cases hd : d = 0
  · rw [if_pos hd, if_pos hd, if_pos hd, Int.emod_add_emod, show p + j + k = p + (j + k) by omega]
  · rw [if_neg hd, if_neg hd, if_neg hd, Int.emod_sub_emod, show p - j - k = p - (j + k) by omega]
theorem ps_off {n p d q t : Int} (hp : 0 ≤ p ∧ p < n) (ht : 0 ≤ t) : ps n p d q t = off n p d (t * q) := by
  obtain ⟨m, rfl⟩ := Int.eq_ofNat_of_zero_le ht
  induction m with
  | zero =>
    rw [show ((0 : Nat) : Int) = 0 from rfl, Int.zero_mul, off_at0 hp]; rfl
  | succ m ih =>
    rw [show ((m + 1 : Nat) : Int) = (m : Int) + 1 by omega, ← ps_s _ _ _ _ (by omega), ih (by omega), off_add, Int.add_mul]
theorem off_per {n p d k : Int} (m : Int) : off n p d (k + m * n) = off n p d k := by
  unfold off
  split
  · rw [show p + (k + m * n) = p + k + n * m by rw [Int.mul_comm m n]; omega, Int.add_mul_emod_self_left]
  · rw [show p - (k + m * n) = p - k + n * (-m) by rw [Int.mul_comm m n, Int.mul_neg]; omega, Int.add_mul_emod_self_left]
/-- the first of a property that comes back with period n is below n -/
theorem low_per {P : Int → Prop} {n N : Int} (hn : 0 < n) (hN : n ≤ N) (hp : ∀ t, 0 ≤ t → P t → P (t % n)) : low P N = low P n := by
  have hr := fst_rng P (n := n) (by omega)
  by_cases h : fst P n < n
  · have hy := fst_yes P h
    rw [← low_hit (P := P) (n := N) hr.1 (by omega) hy (fun j a b => fst_no P (n := n) a b)]
    exact low_hit hr.1 h hy (fun j a b => fst_no P (n := n) a b)
  · have hno : ∀ j, 0 ≤ j → j < n → ¬ P j := fun j a b => fst_no P (n := n) a (by omega)
    rw [← low_miss (P := P) (n := N) (by omega) (fun j a b hj => hno (j % n) (Int.emod_nonneg _ (by omega)) (Int.emod_lt_of_pos _ hn) (hp j a hj))]
    exact low_miss (by omega) hno
theorem low_congr {P Q : Int → Prop} {n : Int} (hn : 0 ≤ n) (h : ∀ j, 0 ≤ j → j < n → (P j ↔ Q j)) : low P n = low Q n := by
  unfold low; rw [fst_congr hn h]
/-- the meeting of two walkers, as both programs seek it -/
theorem meet_link {n p d q p2 d2 q2 : Int} (hn : n ≤ 24) (hp : 0 ≤ p ∧ p < n) (hp2 : 0 ≤ p2 ∧ p2 < n) : low (fun t => ps n p d q t = ps n p2 d2 q2 t) 25 = low (fun t => off n p d (t * q) = off n p2 d2 (t * q2)) n := by
  rw [low_congr (by omega) (fun j a _ => by rw [ps_off hp a, ps_off hp2 a])]
  refine low_per (by omega) (by omega) (fun t ht h => ?_)
  have e : t = t % n + (t / n) * n := by rw [Int.mul_comm]; exact (Int.emod_add_mul_ediv t n).symm
  have f : ∀ x y k : Int, off n x y (t * k) = off n x y (t % n * k) := fun x y k => by
    have e2 : t * k = t % n * k + (t / n * k) * n := by
      conv => lhs; rw [e]
      rw [Int.add_mul, Int.mul_assoc, Int.mul_comm n k, ← Int.mul_assoc]
    rw [e2]; exact off_per _
  rw [f, f p2] at h
  exact h
theorem cnt_all {P : Int → Prop} {n : Int} (hn : 0 ≤ n) (h : ∀ j, 0 ≤ j → j < n → P j) : cnt P n = n := by
  obtain ⟨m, rfl⟩ := Int.eq_ofNat_of_zero_le hn
  induction m with
  | zero => rfl
  | succ m ih =>
    rw [show ((m + 1 : Nat) : Int) = (m : Int) + 1 by omega, cnt_s P (by omega), pB_t (h m (by omega) (by omega)), ih (by omega) (fun j a b => h j a (by omega))]; rfl
theorem all_cnt {P : Int → Prop} {n : Int} (hn : 0 ≤ n) (h : cnt P n = n) : ∀ j, 0 ≤ j → j < n → P j := by
  intro j a b
  refine Classical.byContradiction fun hc => ?_
  have h1 := cnt_n (P := P) a hc
  have h2 := cnt_rng P (n := j) a
  have key : ∀ m : Nat, cnt P (j + 1 + m) ≤ j + m := by
    intro m
    induction m with
    | zero => rw [show j + 1 + ((0 : Nat) : Int) = j + 1 by omega, ← h1]; omega
    | succ m ih =>
      rw [show j + 1 + ((m + 1 : Nat) : Int) = j + 1 + (m : Int) + 1 by omega, cnt_s P (by omega)]
      have : b2i (pB (P (j + 1 + (m : Int)))) ≤ 1 := by cases pB (P (j + 1 + (m : Int))) <;> decide
      omega
  have := key (n - (j + 1)).toNat
  rw [show j + 1 + (((n - (j + 1)).toNat : Nat) : Int) = n by omega, h] at this
  omega
