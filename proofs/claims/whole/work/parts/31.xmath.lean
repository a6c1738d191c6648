noncomputable def GSimN (a : Int → Int) (G : Int → Int → Int) (s : Int) : Nat → Int → Int → Int
  | 0 => G
  | m + 1 => GTurn (simN a s m) (GSimN a G s m) (u33 (lcgZ s ((m : Int) + 1)))
noncomputable def GSim (a : Int → Int) (G : Int → Int → Int) (s k : Int) : Int → Int → Int := GSimN a G s k.toNat
theorem GSim_s {a : Int → Int} {G : Int → Int → Int} {s k : Int} (h : 0 ≤ k) : GTurn (simR a s k) (GSim a G s k) (u33 (lcgZ s (k + 1))) = GSim a G s (k + 1) := by
  obtain ⟨m, rfl⟩ := Int.eq_ofNat_of_zero_le h
  rfl
theorem SBG_sim {a : Int → Int} {G : Int → Int → Int} (hZ : SBG a G) {s k : Int} (h : 0 ≤ k) : SBG (simR a s k) (GSim a G s k) := by
  obtain ⟨m, rfl⟩ := Int.eq_ofNat_of_zero_le h
  induction m with
  | zero => exact hZ
  | succ m ih => exact SBG_turn (ih (by omega))
noncomputable def GScN (a : Int → Int) (G : Int → Int → Int) (s n : Int) : Nat → Int → Int → Int
  | 0 => G
  | m + 1 => GTryT (scN a s n m) (GScN a G s n m) (dg s n m)
noncomputable def GSc (a : Int → Int) (G : Int → Int → Int) (s n t : Int) : Int → Int → Int := GScN a G s n t.toNat
theorem GSc_s {a : Int → Int} {G : Int → Int → Int} {s n t : Int} (h : 0 ≤ t) : GTryT (scR a s n t) (GSc a G s n t) (dg s n t) = GSc a G s n (t + 1) := by
  obtain ⟨m, rfl⟩ := Int.eq_ofNat_of_zero_le h
  rfl
theorem SBG_sc {a : Int → Int} {G : Int → Int → Int} (hZ : SBG a G) {s n t : Int} (h : 0 ≤ t) : SBG (scR a s n t) (GSc a G s n t) := by
  obtain ⟨m, rfl⟩ := Int.eq_ofNat_of_zero_le h
  induction m with
  | zero => exact hZ
  | succ m ih => exact SBG_tryT (ih (by omega))
noncomputable def GScE (a : Int → Int) (G : Int → Int → Int) (s n r : Int) : Int → Int → Int := if r = -1 then GSc a G s n n else GSc a G s n (r + 1)
theorem GScE_a {a : Int → Int} {G : Int → Int → Int} {s n r t : Int} (h : t = r) (h0 : 0 ≤ t) : GScE a G s n r = GSc a G s n (t + 1) := by unfold GScE; rw [if_neg (by omega), h]
theorem GScE_b {a : Int → Int} {G : Int → Int → Int} {s n r : Int} (h : -1 = r) : GScE a G s n r = GSc a G s n n := by unfold GScE; rw [if_pos h.symm]
theorem simV_of {b : Int → Int} {G : Int → Int → Int} (h : SBG b G) : 10000 * sns (b 0) (rq b) (b 25) (rbl b) (rbc b) 0 + 100 * sns (b 0) (rq b) (b 25) (rbl b) (rbc b) 1 + sm (fun w => knb (b 0) (rq b) (b 25) (rbl b) (rbc b) (G 2 w) (G 5 w) 0) (b 96) = simV b := by
  unfold simV; congr 1
  exact sm_congr (fun w x y => by have hk := SB.wk h x y; rw [hk.2.1, hk.2.2.2.2])
theorem pw_u {e : Int} (h : 0 ≤ e ∧ e ≤ 2) : pw e * 10000 = pw (e + 1) := by
  rcases (show e = 0 ∨ e = 1 ∨ e = 2 by omega) with rfl | rfl | rfl <;> decide
theorem dg_c {s n t : Int} (hs : 0 ≤ s) (h : 0 ≤ n - t - 1 ∧ n - t - 1 ≤ 2) : s % pw (n - t) / pw (n - (t + 1)) = dg s n t := by
  unfold dg
  generalize he : n - (t + 1) = e
  rw [show n - t = e + 1 by omega]
  rcases (show e = 0 ∨ e = 1 ∨ e = 2 by omega) with rfl | rfl | rfl
  · show s % 10000 / 1 = s / 1 % 10000; omega
  · show s % 100000000 / 10000 = s / 10000 % 10000; omega
  · show s % 1000000000000 / 100000000 = s / 100000000 % 10000; omega
theorem md_c {s n t : Int} (h : 0 ≤ n - t - 1 ∧ n - t - 1 ≤ 2) : s % pw (n - t) % pw (n - (t + 1)) = s % pw (n - (t + 1)) := by
  generalize he : n - (t + 1) = e
  rw [show n - t = e + 1 by omega]
  rcases (show e = 0 ∨ e = 1 ∨ e = 2 by omega) with rfl | rfl | rfl
  · show s % 10000 % 1 = s % 1; omega
  · show s % 100000000 % 10000 = s % 10000; omega
  · show s % 1000000000000 % 100000000 = s % 100000000; omega
theorem RG_carve0 {n : Int} {g q : Int → Int} (h : RG n g q) {k : Int} : RG n (updZ g k 46) (updZ q k 0) := by
  refine ⟨h.1, h.2.1, fun j x y => ?_⟩
  by_cases hj : j = k
  · rw [hj, updZ_s, updZ_s]; exact ⟨rfl, by omega, by omega⟩
  · rw [updZ_n hj, updZ_n hj]; exact h.2.2 j x y
theorem upd_back {g : Int → Int} {k c v : Int} (h : g k = v) : updZ (updZ g k c) k v = g := by
  funext j
  by_cases hj : j = k
  · rw [hj, updZ_s, h]
  · rw [updZ_n hj, updZ_n hj]
