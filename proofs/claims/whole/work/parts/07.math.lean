-- plain functions of integers that both programs are tied to
noncomputable def fstN (P : Int → Prop) : Nat → Int
  | 0 => 0
  | m + 1 => if fstN P m < m then fstN P m else if pB (P m) = true then m else m + 1
/-- the first place below n with P; n if there is none -/
noncomputable def fst (P : Int → Prop) (n : Int) : Int := fstN P n.toNat
theorem fstN_spec (P : Int → Prop) : ∀ m : Nat, 0 ≤ fstN P m ∧ fstN P m ≤ m ∧ (∀ j : Int, 0 ≤ j → j < fstN P m → ¬ P j) ∧ (fstN P m < m → P (fstN P m))
  | 0 => ⟨Int.le_refl _, Int.le_refl _, fun j h1 h2 => by simp [fstN] at h2; omega, fun h => by simp [fstN] at h⟩
  | m + 1 => by
    obtain ⟨h1, h2, h3, h4⟩ := fstN_spec P m
    have e : fstN P (m + 1) = if fstN P m < m then fstN P m else if pB (P m) = true then (m : Int) else m + 1 := rfl
    by_cases hc : fstN P m < m
    · rw [if_pos hc] at e
      rw [e]
      exact ⟨h1, by omega, h3, fun _ => h4 hc⟩
    · rw [if_neg hc] at e
      have hm : fstN P m = m := by omega
      by_cases hp : pB (P m) = true
      · rw [if_pos hp] at e
        rw [e]
        exact ⟨by omega, by omega, fun j a b => h3 j a (by omega), fun _ => pB_of hp⟩
      · rw [if_neg hp] at e
        rw [e]
        refine ⟨by omega, by omega, fun j a b => ?_, fun h => by omega⟩
        by_cases hj : j = m
        · rw [hj]; exact pB_no (Bool.eq_false_iff.mpr hp)
        · exact h3 j a (by omega)
theorem fst_rng (P : Int → Prop) {n : Int} (hn : 0 ≤ n) : 0 ≤ fst P n ∧ fst P n ≤ n := by
  have h := fstN_spec P n.toNat
  unfold fst; omega
theorem fst_no (P : Int → Prop) {n : Int} {j : Int} (h0 : 0 ≤ j) (h : j < fst P n) : ¬ P j := (fstN_spec P n.toNat).2.2.1 j h0 h
theorem fst_yes (P : Int → Prop) {n : Int} (h : fst P n < n) : P (fst P n) := by
  have h1 := fstN_spec P n.toNat
  unfold fst at *
  exact h1.2.2.2 (by omega)
theorem fst_eq {P : Int → Prop} {n k : Int} (h0 : 0 ≤ k) (h1 : k ≤ n) (h2 : ∀ j : Int, 0 ≤ j → j < k → ¬ P j) (h3 : k < n → P k) : fst P n = k := by
  have hr := fst_rng P (n := n) (by omega)
  rcases Int.lt_trichotomy (fst P n) k with h | h | h
  · exact absurd (fst_yes P (n := n) (by omega)) (h2 _ hr.1 h)
  · exact h
  · exact absurd (h3 (by omega)) (fst_no P h0 h)
theorem fst_congr {P Q : Int → Prop} {n : Int} (hn : 0 ≤ n) (h : ∀ j, 0 ≤ j → j < n → (P j ↔ Q j)) : fst P n = fst Q n := by
  have hr := fst_rng Q (n := n) hn
  refine fst_eq hr.1 hr.2 (fun j a b hp => fst_no Q a b ((h j a (by omega)).mp hp)) (fun hl => (h _ hr.1 hl).mpr (fst_yes Q hl))
noncomputable def cntN (P : Int → Prop) : Nat → Int
  | 0 => 0
  | m + 1 => cntN P m + b2i (pB (P m))
/-- how many places below n have P -/
noncomputable def cnt (P : Int → Prop) (n : Int) : Int := cntN P n.toNat
theorem cnt_0 (P : Int → Prop) : cnt P 0 = 0 := rfl
theorem cnt_s (P : Int → Prop) {k : Int} (h : 0 ≤ k) : cnt P (k + 1) = cnt P k + b2i (pB (P k)) := by
  obtain ⟨m, rfl⟩ := Int.eq_ofNat_of_zero_le h
  rfl
theorem cnt_y {P : Int → Prop} {k : Int} (h : 0 ≤ k) (hp : P k) : cnt P k + 1 = cnt P (k + 1) := by rw [cnt_s P h, pB_t hp]; rfl
theorem cnt_n {P : Int → Prop} {k : Int} (h : 0 ≤ k) (hp : ¬ P k) : cnt P k = cnt P (k + 1) := by rw [cnt_s P h, pB_f hp]; simp [b2i]
theorem cnt_rng (P : Int → Prop) {n : Int} (hn : 0 ≤ n) : 0 ≤ cnt P n ∧ cnt P n ≤ n := by
  obtain ⟨m, rfl⟩ := Int.eq_ofNat_of_zero_le hn
  induction m with
  | zero => exact ⟨Int.le_refl _, Int.le_refl _⟩
  | succ m ih =>
    have h1 := ih (by omega)
    have h2 := cnt_s P (k := (m : Int)) (by omega)
    have h3 := b2i_rng (pB (P m))
    have e : ((m + 1 : Nat) : Int) = (m : Int) + 1 := by omega
    rw [e, h2]; omega
theorem cnt_congr {P Q : Int → Prop} {n : Int} (h : ∀ j, 0 ≤ j → j < n → (P j ↔ Q j)) : cnt P n = cnt Q n := by
  by_cases hn : 0 ≤ n
  · obtain ⟨m, rfl⟩ := Int.eq_ofNat_of_zero_le hn
    induction m with
    | zero => rfl
    | succ m ih =>
      have e : ((m + 1 : Nat) : Int) = (m : Int) + 1 := by omega
      rw [e] at h ⊢
      rw [cnt_s P (by omega), cnt_s Q (by omega), ih (fun j a b => h j a (by omega)) (by omega), pB_eq (h m (by omega) (by omega))]
  · have e : n.toNat = 0 := by omega
    unfold cnt; rw [e]; rfl
theorem cnt_mono (P : Int → Prop) {a b : Int} (ha : 0 ≤ a) (h : a ≤ b) : cnt P a ≤ cnt P b := by
  obtain ⟨m, hm⟩ := Int.eq_ofNat_of_zero_le (show 0 ≤ b - a by omega)
  have hb : b = a + m := by omega
  subst hb
  clear h hm
  induction m with
  | zero => simp
  | succ m ih =>
    have e : a + ((m + 1 : Nat) : Int) = (a + m) + 1 := by omega
    rw [e, cnt_s P (by omega)]
    have h3 := b2i_rng (pB (P (a + m)))
    omega
def mxN (f : Int → Int) : Nat → Int
  | 0 => 0
  | m + 1 => if mxN f m ≤ f m then f m else mxN f m
/-- the greatest of f below n, 0 at least -/
def mx (f : Int → Int) (n : Int) : Int := mxN f n.toNat
theorem mx_s (f : Int → Int) {k : Int} (h : 0 ≤ k) : mx f (k + 1) = if mx f k ≤ f k then f k else mx f k := by
  obtain ⟨m, rfl⟩ := Int.eq_ofNat_of_zero_le h
  rfl
theorem mx_congr {f g : Int → Int} {n : Int} (h : ∀ j, 0 ≤ j → j < n → f j = g j) : mx f n = mx g n := by
  by_cases hn : 0 ≤ n
  · obtain ⟨m, rfl⟩ := Int.eq_ofNat_of_zero_le hn
    induction m with
    | zero => rfl
    | succ m ih =>
      have e : ((m + 1 : Nat) : Int) = (m : Int) + 1 := by omega
      rw [e] at h ⊢
      rw [mx_s f (by omega), mx_s g (by omega), ih (fun j a b => h j a (by omega)) (by omega), h m (by omega) (by omega)]
  · have e : n.toNat = 0 := by omega
    unfold mx; rw [e]; rfl
theorem mx_rng {f : Int → Int} {c n : Int} (hc : 0 ≤ c) (hn : 0 ≤ n) (h : ∀ j, 0 ≤ j → j < n → f j ≤ c) : 0 ≤ mx f n ∧ mx f n ≤ c := by
  obtain ⟨m, rfl⟩ := Int.eq_ofNat_of_zero_le hn
  induction m with
  | zero => exact ⟨Int.le_refl _, hc⟩
  | succ m ih =>
    have e : ((m + 1 : Nat) : Int) = (m : Int) + 1 := by omega
    have h1 := ih (by omega) (fun j a b => h j a (by omega))
    rw [e, mx_s f (by omega)]
    have h2 := h m (by omega) (by omega)
    split <;> omega
/-- the code of a sign: 0 the divider, 1 to 8 a letter, 9 worn -/
def sc (c : Int) : Int := if c = 0 then 46 else if c = 9 then 63 else 96 + c
theorem sc_rng {c : Int} (h : 0 ≤ c ∧ c ≤ 9) : 46 ≤ sc c ∧ sc c ≤ 104 := by unfold sc; split <;> (try split) <;> omega
theorem sc_0 {c : Int} (h : 0 ≤ c ∧ c ≤ 9) : sc c = 46 ↔ c = 0 := by unfold sc; split <;> (try split) <;> omega
theorem sc_9 {c : Int} (h : 0 ≤ c ∧ c ≤ 9) : sc c = 63 ↔ c = 9 := by unfold sc; split <;> (try split) <;> omega
theorem sc_inj {a b : Int} (ha : 0 ≤ a ∧ a ≤ 9) (hb : 0 ≤ b ∧ b ≤ 9) : sc a = sc b ↔ a = b := by unfold sc; split <;> split <;> (try split) <;> (try split) <;> omega
/-- the rank of a sign -/
def rk (c : Int) : Int := if c = 0 then 0 else if c = 9 then 1 else c + 1
theorem rk_rng {c : Int} (h : 0 ≤ c ∧ c ≤ 9) : 0 ≤ rk c ∧ rk c ≤ 9 := by unfold rk; split <;> (try split) <;> omega
theorem rk_eq {a b : Int} (ha : 0 ≤ a ∧ a ≤ 9) (hb : 0 ≤ b ∧ b ≤ 9) : rk a = rk b ↔ a = b := by unfold rk; split <;> split <;> (try split) <;> (try split) <;> omega
theorem sc_lt {a b : Int} (ha : 0 ≤ a ∧ a ≤ 9) (hb : 0 ≤ b ∧ b ≤ 9) : sc a < sc b ↔ rk a < rk b := by unfold sc rk; split <;> split <;> (try split) <;> (try split) <;> omega
/-- the place k behind p in a ring of n places -/
def off (n p d k : Int) : Int := if d = 0 then (p + k) % n else (p - k) % n
theorem off_rng {n : Int} (h : 0 < n) (p d k : Int) : 0 ≤ off n p d k ∧ off n p d k < n := by
  unfold off
  split
  · exact ⟨Int.emod_nonneg _ (by omega), Int.emod_lt_of_pos _ h⟩
  · exact ⟨Int.emod_nonneg _ (by omega), Int.emod_lt_of_pos _ h⟩
theorem tmod_pos {a n : Int} (ha : 0 ≤ a) : a.tmod n = a % n := Int.tmod_eq_emod_of_nonneg ha
theorem off_a {n p d k : Int} (hd : d = 0) (hp : 0 ≤ p) (hk : 0 ≤ k) : (p + k).tmod n = off n p d k := by
  rw [tmod_pos (by omega)]; unfold off; rw [if_pos hd]
theorem off_b {n p d k : Int} (hn : 0 < n) (hd : ¬ d = 0) (h : (p - k).tmod n < 0) : (p - k).tmod n + n = off n p d k := by
  unfold off; rw [if_neg hd]
  have h1 := Int.tmod_eq_emod (a := p - k) (b := n)
  by_cases h2 : 0 ≤ p - k ∨ n ∣ p - k
  · rw [if_pos h2] at h1
    have := Int.emod_nonneg (p - k) (show n ≠ 0 by omega)
    omega
  · rw [if_neg h2] at h1
    have e : (n.natAbs : Int) = n := Int.natAbs_of_nonneg (by omega)
    omega
theorem off_c {n p d k : Int} (hn : 0 < n) (hd : ¬ d = 0) (h : 0 ≤ (p - k).tmod n) : (p - k).tmod n = off n p d k := by
  unfold off; rw [if_neg hd]
  have h1 := Int.tmod_eq_emod (a := p - k) (b := n)
  by_cases h2 : 0 ≤ p - k ∨ n ∣ p - k
  · rw [if_pos h2] at h1; omega
  · rw [if_neg h2] at h1
    have e : (n.natAbs : Int) = n := Int.natAbs_of_nonneg (by omega)
    have := Int.emod_lt_of_pos (p - k) hn
    omega
theorem tmod_rng {a n : Int} (hn : 0 < n) : -n < a.tmod n ∧ a.tmod n < n := ⟨Int.lt_tmod_of_pos a hn, Int.tmod_lt_of_pos a hn⟩
/-- a ring: n places, their codes g, their signs q -/
def RG (n : Int) (g q : Int → Int) : Prop := 0 ≤ n ∧ n ≤ 24 ∧ ∀ j, 0 ≤ j → j < n → g j = sc (q j) ∧ 0 ≤ q j ∧ q j ≤ 9
theorem RG.at {n : Int} {g q : Int → Int} (h : RG n g q) {j : Int} (h0 : 0 ≤ j) (h1 : j < n) : g j = sc (q j) ∧ (0 ≤ q j ∧ q j ≤ 9) ∧ (46 ≤ g j ∧ g j ≤ 104) := by
  obtain ⟨a, b, c⟩ := h.2.2 j h0 h1
  exact ⟨a, ⟨b, c⟩, by rw [a]; exact sc_rng ⟨b, c⟩⟩
/-- the places of the segment behind the divider p, were it one -/
noncomputable def seg1 (n : Int) (q : Int → Int) (p d : Int) : Int := fst (fun k => q (off n p d (k + 1)) = 0) (n - 1)
noncomputable def seg (n : Int) (q : Int → Int) (p d : Int) : Int := if pB (q p = 0) = true then seg1 n q p d else 0
theorem seg_no {n : Int} {q : Int → Int} {p d : Int} (h : ¬ q p = 0) : seg n q p d = 0 := by unfold seg; rw [pB_f h]; rfl
theorem seg_yes {n : Int} {q : Int → Int} {p d : Int} (h : q p = 0) : seg n q p d = seg1 n q p d := by unfold seg; rw [pB_t h]; rfl
theorem seg1_rng {n : Int} (h : 0 < n) (q : Int → Int) (p d : Int) : 0 ≤ seg1 n q p d ∧ seg1 n q p d ≤ n - 1 := fst_rng _ (by omega)
theorem seg_rng {n : Int} (h : 0 < n) (q : Int → Int) (p d : Int) : 0 ≤ seg n q p d ∧ seg n q p d ≤ n - 1 := by
  unfold seg
  split
  · exact seg1_rng h q p d
  · omega
/-- the j-th place of the order in a direction -/
def plc (n d j : Int) : Int := if d = 0 then j else n - 1 - j
theorem plc_rng {n d j : Int} (h0 : 0 ≤ j) (h1 : j < n) : 0 ≤ plc n d j ∧ plc n d j < n := by unfold plc; split <;> omega
/-- the index of the s-th with P below n; n if there is none -/
noncomputable def kth (P : Int → Prop) (s n : Int) : Int := fst (fun j => P j ∧ cnt P j = s) n
/-- the divider ahead of the s-th segment, or -1 -/
noncomputable def dva (n : Int) (q : Int → Int) (d s : Int) : Int := if kth (fun j => 0 < seg n q (plc n d j) d) s n < n then plc n d (kth (fun j => 0 < seg n q (plc n d j) d) s n) else -1
theorem dva_hit {n : Int} {q : Int → Int} {d s k : Int} (h0 : 0 ≤ k) (hk : k < n) (hp : 0 < seg n q (plc n d k) d) (hc : cnt (fun j => 0 < seg n q (plc n d j) d) k = s) (hno : ∀ j, 0 ≤ j → j < k → ¬ (0 < seg n q (plc n d j) d ∧ cnt (fun j => 0 < seg n q (plc n d j) d) j = s)) : plc n d k = dva n q d s := by
  have e : kth (fun j => 0 < seg n q (plc n d j) d) s n = k := fst_eq h0 (by omega) hno (fun _ => ⟨hp, hc⟩)
  unfold dva; rw [e, if_pos hk]
theorem dva_miss {n : Int} {q : Int → Int} {d s : Int} (h0 : 0 ≤ n) (hno : ∀ j, 0 ≤ j → j < n → ¬ (0 < seg n q (plc n d j) d ∧ cnt (fun j => 0 < seg n q (plc n d j) d) j = s)) : -1 = dva n q d s := by
  have e : kth (fun j => 0 < seg n q (plc n d j) d) s n = n := fst_eq h0 (Int.le_refl _) hno (fun h => absurd h (Int.lt_irrefl _))
  unfold dva; rw [e, if_neg (Int.lt_irrefl _)]
/-- how the ring read from a is to the ring read from b: below 0, 0, above 0 -/
noncomputable def lss (n : Int) (q : Int → Int) (a b : Int) : Int := if fst (fun j => ¬ q (off n a 0 j) = q (off n b 0 j)) n < n then rk (q (off n a 0 (fst (fun j => ¬ q (off n a 0 j) = q (off n b 0 j)) n))) - rk (q (off n b 0 (fst (fun j => ¬ q (off n a 0 j) = q (off n b 0 j)) n))) else 0
theorem lss_hit {n : Int} {q : Int → Int} {a b k : Int} (h0 : 0 ≤ k) (hk : k < n) (hp : ¬ q (off n a 0 k) = q (off n b 0 k)) (hno : ∀ j, 0 ≤ j → j < k → q (off n a 0 j) = q (off n b 0 j)) : lss n q a b = rk (q (off n a 0 k)) - rk (q (off n b 0 k)) := by
  have e : fst (fun j => ¬ q (off n a 0 j) = q (off n b 0 j)) n = k := fst_eq h0 (by omega) (fun j x y h => h (hno j x y)) (fun _ => hp)
  unfold lss; rw [e, if_pos hk]
theorem lss_miss {n : Int} {q : Int → Int} {a b : Int} (h0 : 0 ≤ n) (hno : ∀ j, 0 ≤ j → j < n → q (off n a 0 j) = q (off n b 0 j)) : lss n q a b = 0 := by
  have e : fst (fun j => ¬ q (off n a 0 j) = q (off n b 0 j)) n = n := fst_eq h0 (Int.le_refl _) (fun j x y h => h (hno j x y)) (fun h => absurd h (Int.lt_irrefl _))
  unfold lss; rw [e, if_neg (Int.lt_irrefl _)]
noncomputable def bgnN (n : Int) (q : Int → Int) : Nat → Int
  | 0 => 0
  | m + 1 => if lss n q m (bgnN n q m) < 0 then m else bgnN n q m
/-- the best place of those below k -/
noncomputable def bgn (n : Int) (q : Int → Int) (k : Int) : Int := bgnN n q k.toNat
theorem bgn_s (n : Int) (q : Int → Int) {k : Int} (h : 0 ≤ k) : bgn n q (k + 1) = if lss n q k (bgn n q k) < 0 then k else bgn n q k := by
  obtain ⟨m, rfl⟩ := Int.eq_ofNat_of_zero_le h
  rfl
theorem lss_self (n : Int) (q : Int → Int) (h0 : 0 ≤ n) (a : Int) : lss n q a a = 0 := lss_miss h0 (fun _ _ _ => rfl)
theorem bgn_1 (n : Int) (q : Int → Int) (h0 : 0 ≤ n) : bgn n q 1 = 0 := by
  have h := bgn_s n q (k := 0) (by omega)
  have e : bgn n q 0 = 0 := rfl
  rw [e, lss_self n q h0] at h
  exact h
theorem bgn_rng (n : Int) (q : Int → Int) {k : Int} (h : 0 < k) : 0 ≤ bgn n q k ∧ bgn n q k < k := by
  obtain ⟨m, rfl⟩ := Int.eq_ofNat_of_zero_le (show 0 ≤ k by omega)
  induction m with
  | zero => omega
  | succ m ih =>
    have e : ((m + 1 : Nat) : Int) = (m : Int) + 1 := by omega
    rw [e, bgn_s n q (by omega)]
    by_cases hm : m = 0
    · subst hm
      have e0 : bgn n q ((0 : Nat) : Int) = 0 := rfl
      rw [e0]; split <;> omega
    · have := ih (by omega)
      split <;> omega
/-- read from i on in a direction the ring is as from place 0 in direction 0 -/
def asr (n : Int) (q : Int → Int) (i d : Int) : Prop := ∀ j, 0 ≤ j → j < n → q j = q (off n i d j)
noncomputable def perd (n : Int) (q : Int → Int) : Int := if n ≤ 0 then 0 else 1 + fst (fun k => asr n q (k + 1) 0) (n - 1)
theorem perd_hit {n : Int} {q : Int → Int} {k : Int} (h1 : 1 ≤ k) (hk : k < n) (hp : asr n q k 0) (hno : ∀ j, 1 ≤ j → j < k → ¬ asr n q j 0) : k = perd n q := by
  have e : fst (fun k => asr n q (k + 1) 0) (n - 1) = k - 1 := fst_eq (by omega) (by omega) (fun j x y => hno (j + 1) (by omega) (by omega)) (fun _ => by rw [show k - 1 + 1 = k by omega]; exact hp)
  unfold perd; rw [e, if_neg (by omega)]; omega
theorem perd_miss {n : Int} {q : Int → Int} (h0 : 0 ≤ n) (hno : ∀ j, 1 ≤ j → j < n → ¬ asr n q j 0) : n = perd n q := by
  by_cases h : n ≤ 0
  · unfold perd; rw [if_pos h]; omega
  · have e : fst (fun k => asr n q (k + 1) 0) (n - 1) = n - 1 := fst_eq (by omega) (by omega) (fun j x y => hno (j + 1) (by omega) (by omega)) (fun h => absurd h (Int.lt_irrefl _))
    unfold perd; rw [e, if_neg h]; omega
def mirr (n : Int) (q : Int → Int) : Prop := n = 0 ∨ ∃ i, 0 ≤ i ∧ i < n ∧ asr n q i 1
/-- how far behind its segment's divider a place stands; -1 without one -/
noncomputable def dfd (n : Int) (q : Int → Int) (p d : Int) : Int := if fst (fun k => q (off n p (1 - d) k) = 0) n < n then fst (fun k => q (off n p (1 - d) k) = 0) n else -1
theorem dfd_hit {n : Int} {q : Int → Int} {p d k : Int} (h0 : 0 ≤ k) (hk : k < n) (hp : q (off n p (1 - d) k) = 0) (hno : ∀ j, 0 ≤ j → j < k → ¬ q (off n p (1 - d) j) = 0) : k = dfd n q p d := by
  have e : fst (fun k => q (off n p (1 - d) k) = 0) n = k := fst_eq h0 (by omega) hno (fun _ => hp)
  unfold dfd; rw [e, if_pos hk]
theorem dfd_miss {n : Int} {q : Int → Int} {p d : Int} (h0 : 0 ≤ n) (hno : ∀ j, 0 ≤ j → j < n → ¬ q (off n p (1 - d) j) = 0) : -1 = dfd n q p d := by
  have e : fst (fun k => q (off n p (1 - d) k) = 0) n = n := fst_eq h0 (Int.le_refl _) hno (fun h => absurd h (Int.lt_irrefl _))
  unfold dfd; rw [e, if_neg (Int.lt_irrefl _)]
