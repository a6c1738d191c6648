theorem cnt_rev (P : Int → Prop) {n : Int} (hn : 0 ≤ n) : cnt (fun j => P (n - 1 - j)) n = cnt P n := by
  obtain ⟨m, rfl⟩ := Int.eq_ofNat_of_zero_le hn
  induction m generalizing P with
  | zero => rfl
  | succ m ih =>
    have h1 := cnt_s P (k := (m : Int)) (by omega)
    have h2 := cnt_cons (fun j => P ((m : Int) - j)) (m := (m : Int)) (by omega)
    have h3 := ih P (by omega)
    rw [show ((m + 1 : Nat) : Int) = (m : Int) + 1 by omega]
    rw [h1, ← h3]
    have e1 : cnt (fun j => P ((m : Int) + 1 - 1 - j)) ((m : Int) + 1) = cnt (fun j => P ((m : Int) - j)) ((m : Int) + 1) := cnt_congr (fun j _ _ => by rw [show (m : Int) + 1 - 1 - j = (m : Int) - j by omega])
    have e2 : cnt (fun j => P ((m : Int) - 1 - j)) (m : Int) = cnt (fun j => P ((m : Int) - (j + 1))) (m : Int) := cnt_congr (fun j _ _ => by rw [show (m : Int) - 1 - j = (m : Int) - (j + 1) by omega])
    rw [e1, e2, ← h2, show (m : Int) - 0 = m by omega]
theorem cnt_plc (P : Int → Prop) {n d : Int} (hn : 0 ≤ n) (hd : 0 ≤ d ∧ d ≤ 1) : cnt (fun j => P (plc n d j)) n = cnt P n := by
  by_cases h : d = 0
  · exact cnt_congr (fun j _ _ => by unfold plc; rw [if_pos h])
  · rw [← cnt_rev P hn]; exact cnt_congr (fun j _ _ => by unfold plc; rw [if_neg h])
theorem kth_lt {P : Int → Prop} {s n : Int} (hn : 0 ≤ n) (hs : 0 ≤ s ∧ s < cnt P n) : kth P s n < n := by
  refine Classical.byContradiction fun hc => ?_
  have hr := fst_rng (fun j => P j ∧ cnt P j = s) (n := n) hn
  have hno : ∀ j, 0 ≤ j → j < n → ¬ (P j ∧ cnt P j = s) := fun j a b => fst_no (fun j => P j ∧ cnt P j = s) (n := n) a (by unfold kth at hc; omega)
  have key : ∀ m : Nat, (m : Int) ≤ n → cnt P m ≤ s := by
    intro m
    induction m with
    | zero => intro _; show cnt P 0 ≤ s; rw [cnt_0]; omega
    | succ m ih =>
      intro hm
      have h1 := ih (by omega)
      rw [show ((m + 1 : Nat) : Int) = (m : Int) + 1 by omega, cnt_s P (by omega)]
      by_cases hp : P m
      · have := hno m (by omega) (by omega)
        have h2 : cnt P m ≠ s := fun h => this ⟨hp, h⟩
        rw [pB_t hp]; show _ + 1 ≤ s; omega
      · rw [pB_f hp]; show _ + 0 ≤ s; omega
  have := key n.toNat (by omega)
  rw [show ((n.toNat : Nat) : Int) = n by omega] at this
  omega
theorem dva_ok {n : Int} {q : Int → Int} {d s : Int} (hn : 0 ≤ n) (hd : 0 ≤ d ∧ d ≤ 1) (hs : 0 ≤ s ∧ s < cnt (fun p => 0 < seg n q p d) n) : (0 ≤ dva n q d s ∧ dva n q d s < n) ∧ 0 < seg n q (dva n q d s) d := by
  have hk := kth_lt (P := fun j => 0 < seg n q (plc n d j) d) (s := s) hn (by rw [cnt_plc (fun p => 0 < seg n q p d) hn hd]; exact hs)
  have hr := fst_rng (fun j => (fun j => 0 < seg n q (plc n d j) d) j ∧ cnt (fun j => 0 < seg n q (plc n d j) d) j = s) (n := n) hn
  have hy := fst_yes (fun j => (fun j => 0 < seg n q (plc n d j) d) j ∧ cnt (fun j => 0 < seg n q (plc n d j) d) j = s) (n := n) hk
  unfold dva; rw [if_pos hk]
  exact ⟨plc_rng hr.1 hk, hy.1⟩
/-- the row behind taking a word out, as far as k -/
def rmvK (a : Int → Int) (w k : Int) : Int → Int := fun j => if 26 + 7 * w ≤ j ∧ j < 26 + k then a (j + 7) else if j = 25 then a 25 - 1 else a j
def rmvR (a : Int → Int) (w : Int) : Int → Int := rmvK a w (7 * (a 25 - 1))
theorem rmvK_0 (a : Int → Int) (w : Int) : rmvK a w (7 * w) = updZ a 25 (a 25 - 1) := by
  funext j; unfold rmvK updZ; rw [if_neg (by omega)]
theorem rmvK_25 {a : Int → Int} {w k : Int} (hw : 0 ≤ w := by omega) : rmvK a w k 25 = a 25 - 1 := by
  unfold rmvK; rw [if_neg (by omega), if_pos rfl]
theorem rmvK_s {a : Int → Int} {w k : Int} (h : 0 ≤ w ∧ 7 * w ≤ k) : updZ (rmvK a w k) (26 + k) (rmvK a w k (26 + k + 7)) = rmvK a w (k + 1) := by
  have e : rmvK a w k (26 + k + 7) = a (26 + k + 7) := by unfold rmvK; rw [if_neg (by omega), if_neg (by omega)]
  rw [e]
  funext j
  by_cases hj : j = 26 + k
  · rw [hj, updZ_s]; unfold rmvK; rw [if_pos (by omega)]
  · rw [updZ_n hj]; unfold rmvK
    by_cases h2 : 26 + 7 * w ≤ j ∧ j < 26 + k
    · rw [if_pos h2, if_pos (by omega)]
    · rw [if_neg h2, if_neg (show ¬ (26 + 7 * w ≤ j ∧ j < 26 + (k + 1)) by omega)]
