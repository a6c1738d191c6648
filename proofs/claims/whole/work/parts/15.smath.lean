-- senses and readings
theorem cnt_pos {P : Int → Prop} {n : Int} (hn : 0 ≤ n) : 0 < cnt P n ↔ ∃ w, 0 ≤ w ∧ w < n ∧ P w := by
  obtain ⟨m, rfl⟩ := Int.eq_ofNat_of_zero_le hn
  induction m with
  | zero => exact ⟨fun h => absurd h (by rw [show ((0 : Nat) : Int) = 0 from rfl, cnt_0]; decide), fun ⟨w, h1, h2, _⟩ => by omega⟩
  | succ m ih =>
    have e : ((m + 1 : Nat) : Int) = (m : Int) + 1 := by omega
    have h0 := cnt_rng P (n := (m : Int)) (by omega)
    have ih := ih (by omega)
    rw [e, cnt_s P (by omega)]
    by_cases hp : P m
    · rw [pB_t hp]
      exact ⟨fun _ => ⟨m, by omega, by omega, hp⟩, fun _ => by have : b2i true = 1 := rfl; omega⟩
    · rw [pB_f hp]
      have : b2i false = 0 := rfl
      refine ⟨fun h => ?_, fun ⟨w, h1, h2, h3⟩ => ?_⟩
      · obtain ⟨w, a, b, c⟩ := ih.mp (by omega)
        exact ⟨w, a, by omega, c⟩
      · by_cases hw : w = m
        · exact absurd (hw ▸ h3) hp
        · have := ih.mpr ⟨w, h1, by omega, h3⟩
          omega
/-- a word fits -/
def hf (n : Int) (q : Int → Int) (nw : Int) (bl : Int → Int) (bc : Int → Int → Int) (p d : Int) : Prop := ∃ w, 0 ≤ w ∧ w < nw ∧ ft n q (bl w) (bc w) p d
/-- how many words fit -/
noncomputable def fc (n : Int) (q : Int → Int) (nw : Int) (bl : Int → Int) (bc : Int → Int → Int) (p d : Int) : Int := cnt (fun w => ft n q (bl w) (bc w) p d) nw
theorem low_ne {P : Int → Prop} {n : Int} (hn : 0 ≤ n) : low P n = -1 ↔ ¬ ∃ w, 0 ≤ w ∧ w < n ∧ P w := by
  have h := fst_rng P hn
  unfold low
  by_cases hc : fst P n < n
  · rw [if_pos hc]
    exact ⟨fun h2 => by omega, fun h2 => absurd ⟨_, h.1, hc, fst_yes P hc⟩ h2⟩
  · rw [if_neg hc]
    exact ⟨fun _ ⟨w, a, b, c⟩ => fst_no P a (by omega : w < fst P n) c, fun _ => rfl⟩
noncomputable def prdN (G : Int → Prop) (f : Int → Int) : Nat → Int
  | 0 => 1
  | m + 1 => if pB (G m) = true then prdN G f m * f m else prdN G f m
/-- the product of f over the places with G -/
noncomputable def prd (G : Int → Prop) (f : Int → Int) (k : Int) : Int := prdN G f k.toNat
theorem prd_y {G : Int → Prop} {f : Int → Int} {k : Int} (h : 0 ≤ k) (hg : G k) : prd G f k * f k = prd G f (k + 1) := by
  obtain ⟨m, rfl⟩ := Int.eq_ofNat_of_zero_le h
  show _ = if pB (G m) = true then prdN G f m * f m else prdN G f m
  rw [if_pos (pB_t hg)]; rfl
theorem prd_n {G : Int → Prop} {f : Int → Int} {k : Int} (h : 0 ≤ k) (hg : ¬ G k) : prd G f k = prd G f (k + 1) := by
  obtain ⟨m, rfl⟩ := Int.eq_ofNat_of_zero_le h
  show _ = if pB (G m) = true then prdN G f m * f m else prdN G f m
  rw [if_neg (by rw [pB_f hg]; decide)]; rfl
theorem prd_bd {G : Int → Prop} {f : Int → Int} {k : Int} (h : 0 ≤ k) (hf : ∀ j, 0 ≤ j → j < k → 0 ≤ f j ∧ f j ≤ 10) : 0 ≤ prd G f k ∧ prd G f k ≤ ((10 ^ (cnt G k).toNat : Nat) : Int) := by
  obtain ⟨m, rfl⟩ := Int.eq_ofNat_of_zero_le h
  induction m with
  | zero => exact ⟨(by decide : (0 : Int) ≤ 1), (by decide : (1 : Int) ≤ ((10 ^ ((0 : Int)).toNat : Nat) : Int))⟩
  | succ m ih =>
    have e : ((m + 1 : Nat) : Int) = (m : Int) + 1 := by omega
    obtain ⟨i1, i2⟩ := ih (by omega) (fun j a b => hf j a (by omega))
    have hc := cnt_rng G (n := (m : Int)) (by omega)
    have f1 := hf m (by omega) (by omega)
    rw [e]
    by_cases hg : G m
    · rw [← prd_y (by omega) hg, ← cnt_y (by omega) hg]
      refine ⟨Int.mul_nonneg i1 f1.1, ?_⟩
      have e2 : (cnt G m + 1).toNat = (cnt G m).toNat + 1 := by omega
      rw [e2, Nat.pow_succ, Int.natCast_mul]
      exact Int.mul_le_mul i2 f1.2 f1.1 (Int.natCast_nonneg _)
    · rw [← prd_n (by omega) hg, ← cnt_n (by omega) hg]
      exact ⟨i1, i2⟩
/-- turning the ring by one place keeps counts -/
theorem cnt_cons (Q : Int → Prop) {m : Int} (h : 0 ≤ m) : cnt (fun j => Q (j + 1)) m + b2i (pB (Q 0)) = cnt Q (m + 1) := by
  obtain ⟨k, rfl⟩ := Int.eq_ofNat_of_zero_le h
  induction k with
  | zero =>
    have := cnt_s Q (k := 0) (by omega)
    have e0 : cnt Q 0 = 0 := rfl
    have e1 : cnt (fun j => Q (j + 1)) ((0 : Nat) : Int) = 0 := rfl
    have e2 : ((0 : Nat) : Int) + 1 = 0 + 1 := rfl
    rw [e2, this, e0, e1]
  | succ k ih =>
    have e : ((k + 1 : Nat) : Int) = (k : Int) + 1 := by omega
    have ih := ih (by omega)
    rw [e, cnt_s _ (by omega), cnt_s Q (k := (k : Int) + 1) (by omega), ← ih]
    omega
theorem cnt_next (Q : Int → Prop) {n : Int} (h : 0 < n) : cnt (fun p => Q (off n p 0 1)) n = cnt Q n := by
  have e : n = (n - 1) + 1 := by omega
  have h1 := cnt_cons Q (m := n - 1) (by omega)
  rw [← e] at h1
  rw [← h1]
  have h2 := cnt_s (fun p => Q (off n p 0 1)) (k := n - 1) (by omega)
  rw [← e] at h2
  rw [h2]
  have e3 : off n (n - 1) 0 1 = 0 := by unfold off; rw [if_pos rfl, show n - 1 + 1 = n by omega, Int.emod_self]
  rw [e3]
  congr 1
  refine cnt_congr (fun j a b => ?_)
  have e4 : off n j 0 1 = j + 1 := by unfold off; rw [if_pos rfl]; exact Int.emod_eq_of_lt (by omega) (by omega)
  rw [e4]
theorem cnt_prev (Q : Int → Prop) {n d : Int} (hd : ¬ d = 0) (h : 0 < n) : cnt (fun p => Q (off n p d 1)) n = cnt Q n := by
  have e : n = (n - 1) + 1 := by omega
  have h1 := cnt_cons (fun p => Q (off n p d 1)) (m := n - 1) (by omega)
  rw [← e] at h1
  rw [← h1]
  have h2 := cnt_s Q (k := n - 1) (by omega)
  rw [← e] at h2
  rw [h2]
  have e3 : off n 0 d 1 = n - 1 := by
    unfold off; rw [if_neg hd, show (0 : Int) - 1 = (n - 1) + n * (-1) by omega, Int.add_mul_emod_self_left]
    exact Int.emod_eq_of_lt (by omega) (by omega)
  rw [e3]
  congr 1
  refine cnt_congr (fun j a b => ?_)
  have e4 : off n (j + 1) d 1 = j := by unfold off; rw [if_neg hd, show j + 1 - 1 = j by omega]; exact Int.emod_eq_of_lt (by omega) (by omega)
  rw [e4]
theorem cnt_turn (Q : Int → Prop) {n d : Int} (h : 0 < n) : cnt (fun p => Q (off n p d 1)) n = cnt Q n := by
  by_cases hd : d = 0
  · rw [hd]; exact cnt_next Q h
  · exact cnt_prev Q hd h
theorem cnt_le {P Q : Int → Prop} {n : Int} (hn : 0 ≤ n) (h : ∀ j, 0 ≤ j → j < n → P j → Q j) : cnt P n ≤ cnt Q n := by
  obtain ⟨m, rfl⟩ := Int.eq_ofNat_of_zero_le hn
  induction m with
  | zero => exact Int.le_refl _
  | succ m ih =>
    have e : ((m + 1 : Nat) : Int) = (m : Int) + 1 := by omega
    have ih := ih (by omega) (fun j a b => h j a (by omega))
    rw [e, cnt_s P (by omega), cnt_s Q (by omega)]
    by_cases hp : P m
    · rw [pB_t hp, pB_t (h m (by omega) (by omega) hp)]; omega
    · have := b2i_rng (pB (Q m))
      rw [pB_f hp]
      have : b2i false = 0 := rfl
      omega
theorem cnt_not (P : Int → Prop) {n : Int} (hn : 0 ≤ n) : cnt P n + cnt (fun j => ¬ P j) n = n := by
  obtain ⟨m, rfl⟩ := Int.eq_ofNat_of_zero_le hn
  induction m with
  | zero => rfl
  | succ m ih =>
    have e : ((m + 1 : Nat) : Int) = (m : Int) + 1 := by omega
    have ih := ih (by omega)
    rw [e, cnt_s P (by omega), cnt_s (fun j => ¬ P j) (by omega)]
    by_cases hp : P m
    · rw [pB_t hp, pB_f (fun h => h hp)]
      have : b2i false = 0 := rfl
      have : b2i true = 1 := rfl
      omega
    · rw [pB_f hp, pB_t hp]
      have : b2i false = 0 := rfl
      have : b2i true = 1 := rfl
      omega
/-- at most half of the places begin a segment -/
theorem seg_half (n : Int) (q : Int → Int) (d : Int) (hn : 0 ≤ n) : 2 * cnt (fun p => 0 < seg n q p d) n ≤ n := by
  by_cases h0 : n = 0
  · subst h0; exact (by decide : (2 : Int) * 0 ≤ 0)
  · have h1 : cnt (fun p => 0 < seg n q p d) n ≤ cnt (fun p => q p = 0) n := cnt_le hn (fun j a b h => Classical.byContradiction fun hc => by rw [seg_no hc] at h; omega)
    have h2 : cnt (fun p => 0 < seg n q p d) n ≤ cnt (fun p => ¬ q (off n p d 1) = 0) n := cnt_le hn (fun j a b h => fun hc => by
      have hs : q j = 0 := Classical.byContradiction fun hc => by rw [seg_no hc] at h; omega
      rw [seg_yes hs] at h
      exact fst_no (fun k => q (off n j d (k + 1)) = 0) (Int.le_refl 0) h hc)
    have h3 := cnt_turn (fun p => ¬ q p = 0) (n := n) (d := d) (by omega)
    have h4 := cnt_not (fun p => q p = 0) hn
    omega
/-- the readings, capped -/
noncomputable def rdg (n : Int) (q : Int → Int) (nw : Int) (bl : Int → Int) (bc : Int → Int → Int) (d : Int) : Int :=
  if cnt (fun p => 0 < seg n q p d) n = 0 then 0 else (if prd (fun p => 0 < seg n q p d) (fun p => fc n q nw bl bc p d) n < 1000000 then prd (fun p => 0 < seg n q p d) (fun p => fc n q nw bl bc p d) n else 1000000)
/-- the sense -/
noncomputable def sns (n : Int) (q : Int → Int) (nw : Int) (bl : Int → Int) (bc : Int → Int → Int) (d : Int) : Int := cnt (fun p => hf n q nw bl bc p d) n
theorem prd_fit {n : Int} {q : Int → Int} {nw : Int} {bl : Int → Int} {bc : Int → Int → Int} {d k : Int} (hn : 0 ≤ n ∧ n ≤ 24) (hw : 0 ≤ nw ∧ nw ≤ 10) (h0 : 0 ≤ k) (hk : k ≤ n) : 0 ≤ prd (fun p => 0 < seg n q p d) (fun p => fc n q nw bl bc p d) k ∧ prd (fun p => 0 < seg n q p d) (fun p => fc n q nw bl bc p d) k ≤ 1000000000000 := by
  have h1 := prd_bd (G := fun p => 0 < seg n q p d) (f := fun p => fc n q nw bl bc p d) h0 (fun j a b => by have := cnt_rng (fun w => ft n q (bl w) (bc w) j d) hw.1; unfold fc; omega)
  have h2 := seg_half n q d hn.1
  have h3 := cnt_mono (fun p => 0 < seg n q p d) h0 hk
  have h4 : (10 : Nat) ^ (cnt (fun p => 0 < seg n q p d) k).toNat ≤ 10 ^ 12 := Nat.pow_le_pow_right (by decide) (by omega)
  refine ⟨h1.1, Int.le_trans h1.2 ?_⟩
  exact Int.ofNat_le.mpr h4
