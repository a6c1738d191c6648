theorem tryR_117 {a : Int → Int} (hM : MR a) {kd i c : Int} : tryR a kd i c 117 = a 117 := by
  have hn := hM.n
  by_cases h : okA a kd i c
  · rw [tryR_y h]; unfold okA at h; unfold actR
    split
    · exact updZ_n (by omega)
    · split
      · exact updZ_n (by omega)
      · split
        · unfold zrZ; rw [if_neg (by omega), updZ_n (by omega), updZ_n (by omega)]; unfold insZ; rw [if_neg (by omega)]
        · unfold zrZ; rw [if_neg (by omega), updZ_n (by omega)]; unfold delZ; rw [if_neg (by omega), updZ_n (by omega)]
  · rw [tryR_n h]
theorem goT_117 (a : Int → Int) (t : Int) : goT a t 117 = a 117 + t := by unfold goT; rw [updZ_s]
theorem turnR_117 {a : Int → Int} (hM : MR a) {r : Int} : a 117 ≤ turnR a r 117 ∧ turnR a r 117 ≤ a 117 + 9 := by
  have hc := hM.wc
  unfold turnR
  repeat' split
  · rw [tryR_117 hM]; omega
  · rw [tryR_117 hM]; omega
  · rw [tryR_117 hM]; omega
  · rw [tryR_117 hM]; omega
  · unfold comR; rw [updZ_n (by omega), updZ_n (by omega), updZ_n (by omega), updZ_n (by omega), updZ_n (by omega), updZ_n (by omega), updZ_n (by omega)]; omega
  · omega
  · unfold turR; rw [updZ_n (by omega), updZ_n (by omega)]; omega
  · omega
  · rw [goT_117]; omega
theorem tryT_117 {a : Int → Int} (hM : MR a) {x : Int} : a 117 ≤ tryT a x 117 ∧ tryT a x 117 ≤ a 117 + 50 := by
  unfold tryT
  split
  · rw [tryR_117 hM]; omega
  · split
    · rw [goT_117]; omega
    · omega
def lcgN (s : Int) : Nat → Int
  | 0 => s
  | m + 1 => lcgN s m * 6364136223846793005 + 1442695040888963407
/-- the number behind k steps of the recurrence -/
def lcgZ (s k : Int) : Int := lcgN s k.toNat
theorem lcg_s (s : Int) {k : Int} (h : 0 ≤ k) : lcgZ s k * 6364136223846793005 + 1442695040888963407 = lcgZ s (k + 1) := by
  obtain ⟨m, rfl⟩ := Int.eq_ofNat_of_zero_le h
  rfl
noncomputable def simN (a : Int → Int) (s : Int) : Nat → Int → Int
  | 0 => a
  | m + 1 => turnR (simN a s m) (u33 (lcgZ s ((m : Int) + 1)))
/-- the row behind k turns of the simulation -/
noncomputable def simR (a : Int → Int) (s k : Int) : Int → Int := simN a s k.toNat
theorem simR_s {a : Int → Int} {s k : Int} (h : 0 ≤ k) : turnR (simR a s k) (u33 (lcgZ s (k + 1))) = simR a s (k + 1) := by
  obtain ⟨m, rfl⟩ := Int.eq_ofNat_of_zero_le h
  rfl
theorem simR_0 (a : Int → Int) (s : Int) : simR a s 0 = a := rfl
theorem simR_ok {a : Int → Int} (hM : MR a) {s k : Int} (h : 0 ≤ k) : MR (simR a s k) ∧ a 117 ≤ simR a s k 117 ∧ simR a s k 117 ≤ a 117 + 9 * k := by
  obtain ⟨m, rfl⟩ := Int.eq_ofNat_of_zero_le h
  induction m with
  | zero => exact ⟨hM, Int.le_refl _, by show a 117 ≤ a 117 + 9 * 0; omega⟩
  | succ m ih =>
    have ih := ih (by omega)
    rw [show ((m + 1 : Nat) : Int) = (m : Int) + 1 by omega, ← simR_s (by omega)]
    have h2 := turnR_117 ih.1 (r := u33 (lcgZ s ((m : Int) + 1)))
    exact ⟨turnR_MR ih.1, by omega, by omega⟩
/-- what a simulation answers of the last row -/
noncomputable def simV (b : Int → Int) : Int := 10000 * sns (b 0) (rq b) (b 25) (rbl b) (rbc b) 0 + 100 * sns (b 0) (rq b) (b 25) (rbl b) (rbc b) 1 + sm (fun w => knb (b 0) (rq b) (b 25) (rbl b) (rbc b) (b (97 + 5 * w + 1)) (b (97 + 5 * w + 4)) 0) (b 96)
def pw (e : Int) : Int := if e = 0 then 1 else if e = 1 then 10000 else if e = 2 then 100000000 else 1000000000000
theorem pw_d {e : Int} (h : 1 ≤ e ∧ e ≤ 3) : (pw e).tdiv 10000 = pw (e - 1) := by
  rcases (show e = 1 ∨ e = 2 ∨ e = 3 by omega) with rfl | rfl | rfl <;> decide
theorem pw_rng (e : Int) : 0 < pw e ∧ pw e ≤ 1000000000000 := by unfold pw; repeat' split <;> omega
/-- the t-th step of a script of n steps -/
def dg (s n t : Int) : Int := s / pw (n - (t + 1)) % 10000
theorem dg_rng (s n t : Int) : 0 ≤ dg s n t ∧ dg s n t < 10000 := by unfold dg; omega
noncomputable def scN (a : Int → Int) (s n : Int) : Nat → Int → Int
  | 0 => a
  | m + 1 => tryT (scN a s n m) (dg s n m)
/-- the row behind t steps of a script -/
noncomputable def scR (a : Int → Int) (s n t : Int) : Int → Int := scN a s n t.toNat
theorem scR_s {a : Int → Int} {s n t : Int} (h : 0 ≤ t) : tryT (scR a s n t) (dg s n t) = scR a s n (t + 1) := by
  obtain ⟨m, rfl⟩ := Int.eq_ofNat_of_zero_le h
  rfl
theorem scR_0 (a : Int → Int) (s n : Int) : scR a s n 0 = a := rfl
theorem scR_ok {a : Int → Int} (hM : MR a) {s n t : Int} (h : 0 ≤ t) : MR (scR a s n t) ∧ a 117 ≤ scR a s n t 117 ∧ scR a s n t 117 ≤ a 117 + 50 * t := by
  obtain ⟨m, rfl⟩ := Int.eq_ofNat_of_zero_le h
  induction m with
  | zero => exact ⟨hM, Int.le_refl _, by show a 117 ≤ a 117 + 50 * 0; omega⟩
  | succ m ih =>
    have ih := ih (by omega)
    rw [show ((m + 1 : Nat) : Int) = (m : Int) + 1 by omega, ← scR_s (by omega)]
    have h2 := tryT_117 ih.1 (x := dg s n m)
    exact ⟨tryT_MR ih.1, by omega, by omega⟩
/-- the row a script leaves, when r is its answer -/
noncomputable def scE (a : Int → Int) (s n r : Int) : Int → Int := if r = -1 then scR a s n n else scR a s n (r + 1)
theorem scE_a {a : Int → Int} {s n r t : Int} (h : t = r) (h0 : 0 ≤ t) : scE a s n r = scR a s n (t + 1) := by unfold scE; rw [if_neg (by omega), h]
theorem scE_b {a : Int → Int} {s n r : Int} (h : -1 = r) : scE a s n r = scR a s n n := by unfold scE; rw [if_pos h.symm]
