-- to see all: both ways of counting
theorem low_cut {P : Int → Prop} {n N : Int} (hn : 0 ≤ n) (hN : n ≤ N) (hp : ∀ t, n ≤ t → t < N → P t → ∃ k, 0 ≤ k ∧ k < n ∧ P k) : low P N = low P n := by
  have hr := fst_rng P (n := n) hn
  by_cases h : fst P n < n
  · have hy := fst_yes P h
    rw [← low_hit (P := P) (n := N) hr.1 (by omega) hy (fun j a b => fst_no P (n := n) a b)]
    exact low_hit hr.1 h hy (fun j a b => fst_no P (n := n) a b)
  · have hno : ∀ j, 0 ≤ j → j < n → ¬ P j := fun j a b => fst_no P (n := n) a (by omega)
    rw [← low_miss (P := P) (n := N) (by omega) (fun j a b hj => by
      by_cases e : j < n
      · exact hno j a e hj
      · obtain ⟨k, k0, k1, k2⟩ := hp j (by omega) b hj
        exact hno k k0 k1 k2)]
    exact low_miss hn hno
theorem cnt_cut {P : Int → Prop} {n N : Int} (hn : 0 ≤ n) (hN : n ≤ N) (h : ∀ j, n ≤ j → j < N → ¬ P j) : cnt P N = cnt P n := by
  obtain ⟨m, hm⟩ := Int.eq_ofNat_of_zero_le (show 0 ≤ N - n by omega)
  have key : ∀ k : Nat, k ≤ m → cnt P (n + k) = cnt P n := by
    intro k
    induction k with
    | zero => intro _; rw [show n + ((0 : Nat) : Int) = n by omega]
    | succ k ih =>
      intro hk
      rw [show n + ((k + 1 : Nat) : Int) = n + (k : Int) + 1 by omega, ← cnt_n (P := P) (by omega) (h _ (by omega) (by omega))]
      exact ih (by omega)
  rw [show N = n + (m : Int) by omega]
  exact key m (Nat.le_refl _)
theorem bit_full {n x : Int} (hn : 0 ≤ n ∧ n ≤ 24) (hx : 0 ≤ x ∧ x < p2 n) : cnt (bit x) 24 = n ↔ x = p2 n - 1 := by
  have hhi : ∀ j, n ≤ j → j < 24 → ¬ bit x j := by
    intro j a b hb
    unfold bit at hb
    have h1 : x.toNat < 2 ^ n.toNat := by unfold p2 at hx; omega
    have h2 : x.toNat < 2 ^ j.toNat := Nat.lt_of_lt_of_le h1 (Nat.pow_le_pow_right (by decide) (by omega))
    rw [Nat.testBit_lt_two_pow h2] at hb
    cases hb
  rw [cnt_cut hn.1 hn.2 hhi]
  have hp := Nat.two_pow_pos n.toNat
  constructor
  · intro h
    have hall := all_cnt hn.1 h
    have e : x.toNat = 2 ^ n.toNat - 1 := by
      refine Nat.eq_of_testBit_eq fun i => ?_
      rw [Nat.testBit_two_pow_sub_one]
      by_cases hi : i < n.toNat
      · rw [decide_eq_true hi]
        exact hall (i : Int) (by omega) (by omega)
      · rw [decide_eq_false hi]
        have h1 : x.toNat < 2 ^ n.toNat := by unfold p2 at hx; omega
        exact Nat.testBit_lt_two_pow (Nat.lt_of_lt_of_le h1 (Nat.pow_le_pow_right (by decide) (by omega)))
    unfold p2
    omega
  · intro h
    refine cnt_all hn.1 (fun j a b => ?_)
    unfold bit
    have e : x.toNat = 2 ^ n.toNat - 1 := by unfold p2 at h; omega
    rw [e, Nat.testBit_two_pow_sub_one]
    exact decide_eq_true (by omega)
section B52d
variable {n p d q i e : Int}
theorem off_0 (hp : 0 ≤ p ∧ p < n) : off n p d 0 = p := by
  unfold off
  split
  · rw [Int.add_zero, Int.emod_eq_of_lt hp.1 hp.2]
  · rw [Int.sub_zero, Int.emod_eq_of_lt hp.1 hp.2]
theorem ac_se (hp : 0 ≤ p ∧ p < n) (h : bor e (vw n p d i) = e) {t : Int} (ht : 0 ≤ t) : ac n p d q i e (t + 1) = se n p d q i e t := by
  obtain ⟨m, rfl⟩ := Int.eq_ofNat_of_zero_le ht
  have key : ∀ m : Nat, acN n p d q i e (m + 1) = seN n p d q i e m := by
    intro m
    induction m with
    | zero =>
      show bor e (vw n (off n p d (((0 : Nat) : Int) * q)) d i) = e
      rw [show ((0 : Nat) : Int) * q = 0 by rw [Int.natCast_zero, Int.zero_mul], off_0 hp]
      exact h
    | succ m ih =>
      show bor (acN n p d q i e (m + 1)) (vw n (off n p d (((m + 1 : Nat) : Int) * q)) d i) = bor (seN n p d q i e m) (vw n (psN n p d q (m + 1)) d i)
      rw [ih, ← ps_off hp (by omega)]
      rfl
  exact key m
theorem bor_comm (x y : Int) : bor x y = bor y x := by unfold bor; rw [Nat.or_comm]
theorem bor_keep {x y z : Int} (h : bor x z = x) : bor (bor x y) z = bor x y := by
  rw [bor_assoc, bor_comm y z, ← bor_assoc, h]
/-- what has been seen stays seen -/
theorem se_has (h : bor e (vw n p d i) = e) {k : Int} (hk : 0 ≤ k) : ∀ m : Nat, bor (se n p d q i e (k + m)) (vw n (ps n p d q k) d i) = se n p d q i e (k + m) := by
  intro m
  induction m with
  | zero => rw [show k + ((0 : Nat) : Int) = k by omega]; exact se_self h hk
  | succ m ih =>
    rw [show k + ((m + 1 : Nat) : Int) = k + (m : Int) + 1 by omega, ← se_s n p d q i e (by omega)]
    exact bor_keep ih
theorem ps_per (hp : 0 ≤ p ∧ p < n) {t : Int} (ht : 0 ≤ t) : ps n p d q t = ps n p d q (t % n) := by
  have e : t = t % n + (t / n) * n := by rw [Int.mul_comm]; exact (Int.emod_add_mul_ediv t n).symm
  rw [ps_off hp ht, ps_off hp (Int.emod_nonneg _ (by omega))]
  have e2 : t * q = t % n * q + (t / n * q) * n := by
    conv => lhs; rw [e]
    rw [Int.add_mul, Int.mul_assoc, Int.mul_comm n q, ← Int.mul_assoc]
  rw [e2]
  exact off_per _
theorem se_end (hp : 0 ≤ p ∧ p < n) (h : bor e (vw n p d i) = e) : ∀ m : Nat, se n p d q i e (n - 1 + m) = se n p d q i e (n - 1) := by
  intro m
  induction m with
  | zero => rw [show n - 1 + ((0 : Nat) : Int) = n - 1 by omega]
  | succ m ih =>
    rw [show n - 1 + ((m + 1 : Nat) : Int) = n - 1 + (m : Int) + 1 by omega, ← se_s n p d q i e (by omega), ps_s _ _ _ _ (by omega), ih, ps_per hp (by omega)]
    have h0 := Int.emod_nonneg (n - 1 + (m : Int) + 1) (show n ≠ 0 by omega)
    have h1 := Int.emod_lt_of_pos (n - 1 + (m : Int) + 1) (show 0 < n by omega)
    have h2 := se_has (q := q) h h0 (n - 1 - (n - 1 + (m : Int) + 1) % n).toNat
    rw [show (n - 1 + (m : Int) + 1) % n + (((n - 1 - (n - 1 + (m : Int) + 1) % n).toNat : Nat) : Int) = n - 1 by omega] at h2
    exact h2
theorem sees_link (hn : n ≤ 24) (hp : 0 ≤ p ∧ p < n) (hi : 0 ≤ i) (he : 0 ≤ e ∧ e < p2 n) (h : bor e (vw n p d i) = e) : low (fun t => cnt (bit (se n p d q i e t)) 24 = n) 25 = low (fun t => ac n p d q i e (t + 1) = p2 n - 1) (n + 1) := by
  rw [low_congr (Q := fun t => se n p d q i e t = p2 n - 1) (by omega) (fun j a _ => bit_full ⟨by omega, hn⟩ (se_lt (by omega) hi he)), low_congr (P := fun t => ac n p d q i e (t + 1) = p2 n - 1) (Q := fun t => se n p d q i e t = p2 n - 1) (by omega) (fun j a _ => by rw [ac_se hp h a])]
  refine low_cut (by omega) (by omega) (fun t h0 h1 h2 => ⟨n - 1, by omega, by omega, ?_⟩)
  have h3 := se_end (q := q) hp h (t - (n - 1)).toNat
  rw [show n - 1 + (((t - (n - 1)).toNat : Nat) : Int) = t by omega] at h3
  show se n p d q i e (n - 1) = p2 n - 1
  rw [← h3]
  exact h2
end B52d
theorem lk_sees {a : Int → Int} {G : Int → Int → Int} (hZ : SBG a G) (hS : SV a) {w : Int} (hw : 0 ≤ w ∧ w < a 96) : low (fun t => cnt (bit (se (a 0) (a (97 + 5 * w + 0)) (a (97 + 5 * w + 1)) (a (97 + 5 * w + 2)) (a (97 + 5 * w + 3)) (a (97 + 5 * w + 4)) t)) 24 = a 0) 25 = low (fun t => ac (a 0) (G 1 w) (G 2 w) (G 3 w) (G 4 w) (G 5 w) (t + 1) = p2 (a 0) - 1) (a 0 + 1) := by
  have hM := SB.mr hZ
  obtain ⟨v1, v2, v3, v4, v5⟩ := hM.w hw.1 hw.2
  obtain ⟨e0, e1, e2, e3, e4⟩ := SB.wk hZ hw.1 hw.2
  rw [sees_link hM.n.2 v1 (by omega) v5 (hS w hw.1 hw.2), e0, e1, e2, e3, e4]
