-- walkers: views, knowing, meeting
def vwN (n pl d : Int) : Nat → Int
  | 0 => 0
  | m + 1 => bor (vwN n pl d m) (p2 (off n pl d m))
/-- the places seen from pl with sight si, as a set -/
def vw (n pl d si : Int) : Int := vwN n pl d si.toNat
theorem vw_s (n pl d : Int) {k : Int} (h : 0 ≤ k) : bor (vw n pl d k) (p2 (off n pl d k)) = vw n pl d (k + 1) := by
  obtain ⟨m, rfl⟩ := Int.eq_ofNat_of_zero_le h
  rfl
theorem p2_lt {a b : Int} (h0 : 0 ≤ a) (h : a < b) : p2 a < p2 b := by
  have := Nat.pow_lt_pow_right (a := 2) (by decide) (show a.toNat < b.toNat by omega)
  show ((2 ^ a.toNat : Nat) : Int) < ((2 ^ b.toNat : Nat) : Int)
  omega
theorem p2_24 {n : Int} (h0 : 0 ≤ n) (h : n ≤ 24) : 1 ≤ p2 n ∧ p2 n ≤ 16777216 := by
  have h1 := Nat.pow_le_pow_right (n := 2) (by decide) (show n.toNat ≤ 24 by omega)
  have h2 := Nat.two_pow_pos n.toNat
  show 1 ≤ ((2 ^ n.toNat : Nat) : Int) ∧ ((2 ^ n.toNat : Nat) : Int) ≤ 16777216
  omega
theorem bor_lt {a b n : Int} (ha : 0 ≤ a ∧ a < p2 n) (hb : 0 ≤ b ∧ b < p2 n) : 0 ≤ bor a b ∧ bor a b < p2 n := by
  unfold p2 at *
  have h := Nat.or_lt_two_pow (x := a.toNat) (y := b.toNat) (n := n.toNat) (by omega) (by omega)
  show 0 ≤ ((a.toNat ||| b.toNat : Nat) : Int) ∧ ((a.toNat ||| b.toNat : Nat) : Int) < ((2 ^ n.toNat : Nat) : Int)
  omega
theorem vw_lt {n pl d k : Int} (hn : 0 < n) (hk : 0 ≤ k) : 0 ≤ vw n pl d k ∧ vw n pl d k < p2 n := by
  obtain ⟨m, rfl⟩ := Int.eq_ofNat_of_zero_le hk
  induction m with
  | zero =>
    have h2 := Nat.two_pow_pos n.toNat
    refine ⟨Int.le_refl _, ?_⟩
    show (0 : Int) < ((2 ^ n.toNat : Nat) : Int)
    omega
  | succ m ih =>
    have e : ((m + 1 : Nat) : Int) = (m : Int) + 1 := by omega
    have o := off_rng hn pl d m
    have h1 := p2_lt o.1 o.2
    have h2 : 0 ≤ p2 (off n pl d m) := Int.natCast_nonneg _
    rw [e, ← vw_s n pl d (by omega)]
    exact bor_lt (ih (by omega)) ⟨h2, h1⟩
theorem bor_assoc (a b c : Int) : bor (bor a b) c = bor a (bor b c) := by
  unfold bor
  rw [Int.toNat_natCast, Int.toNat_natCast, Nat.or_assoc]
theorem mulq {t q : Int} (ht : 0 ≤ t ∧ t ≤ 30) (hq : 1 ≤ q ∧ q ≤ 3) : 0 ≤ t * q ∧ t * q ≤ 90 := by
  rcases (show q = 1 ∨ q = 2 ∨ q = 3 by omega) with rfl | rfl | rfl <;> omega
def acN (n pl d pa si se : Int) : Nat → Int
  | 0 => se
  | t + 1 => bor (acN n pl d pa si se t) (vw n (off n pl d (t * pa)) d si)
/-- what has been seen behind the views of the first t places of the walk -/
def ac (n pl d pa si se t : Int) : Int := acN n pl d pa si se t.toNat
theorem ac_s (n pl d pa si se : Int) {t : Int} (h : 0 ≤ t) : bor (ac n pl d pa si se t) (vw n (off n pl d (t * pa)) d si) = ac n pl d pa si se (t + 1) := by
  obtain ⟨m, rfl⟩ := Int.eq_ofNat_of_zero_le h
  rfl
theorem ac_lt {n pl d pa si se t : Int} (hn : 0 < n) (hs : 0 ≤ si) (he : 0 ≤ se ∧ se < p2 n) (h : 0 ≤ t) : 0 ≤ ac n pl d pa si se t ∧ ac n pl d pa si se t < p2 n := by
  obtain ⟨m, rfl⟩ := Int.eq_ofNat_of_zero_le h
  induction m with
  | zero => exact he
  | succ m ih =>
    have e : ((m + 1 : Nat) : Int) = (m : Int) + 1 := by omega
    rw [e, ← ac_s n pl d pa si se (by omega)]
    exact bor_lt (ih (by omega)) (vw_lt hn hs)
/-- a walker in a ring of n places -/
def WK (n wp wd wq wi we : Int) : Prop := (0 ≤ wp ∧ wp < n) ∧ (0 ≤ wd ∧ wd ≤ 1) ∧ (1 ≤ wq ∧ wq ≤ 3) ∧ (1 ≤ wi ∧ wi ≤ 5) ∧ (0 ≤ we ∧ we < p2 n)
/-- the segment behind dv is known by who has seen we -/
def kn (n : Int) (q : Int → Int) (dv d we : Int) : Prop := 0 < seg n q dv d ∧ ∀ j, 0 ≤ j → j ≤ seg n q dv d + 1 → bit we (off n dv d j)
