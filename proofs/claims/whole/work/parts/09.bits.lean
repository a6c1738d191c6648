-- sets of places as numbers
def bor (a b : Int) : Int := ((a.toNat ||| b.toNat : Nat) : Int)
def p2 (k : Int) : Int := ((2 ^ k.toNat : Nat) : Int)
def shr (a k : Int) : Int := ((a.toNat >>> k.toNat : Nat) : Int)
def bit (a k : Int) : Prop := a.toNat.testBit k.toNat = true
theorem nI_or (a b : Nat) : nI a ||| nI b = nI (a ||| b) := by
  apply Int32.toBitVec_inj.1
  show BitVec.ofNat 32 a ||| BitVec.ofNat 32 b = BitVec.ofNat 32 (a ||| b)
  exact BitVec.ofNat_or.symm
theorem iI_or {a b : Int} (ha : 0 ≤ a) (hb : 0 ≤ b) : iI a ||| iI b = iI (bor a b) := by
  obtain ⟨x, rfl⟩ := Int.eq_ofNat_of_zero_le ha
  obtain ⟨y, rfl⟩ := Int.eq_ofNat_of_zero_le hb
  rw [← iI_nat, ← iI_nat, nI_or, iI_nat]; rfl
theorem iI_shl1 {k : Int} (h0 : 0 ≤ k) (h1 : k < 31) : iI 1 <<< (iI k &&& 31) = iI (p2 k) := by
  obtain ⟨x, rfl⟩ := Int.eq_ofNat_of_zero_le h0
  have key : ∀ x : Nat, x < 31 → iI 1 <<< (iI (x : Int) &&& 31) = iI (p2 (x : Int)) := by decide +kernel
  exact key x (by omega)
theorem p2_rng {k : Int} (h0 : 0 ≤ k) (h1 : k < 24) : 1 ≤ p2 k ∧ p2 k < 16777216 := by
  obtain ⟨x, rfl⟩ := Int.eq_ofNat_of_zero_le h0
  have h2 : (2 : Nat) ^ x < 2 ^ 24 := Nat.pow_lt_pow_right (by decide) (by omega)
  have h3 : 0 < (2 : Nat) ^ x := Nat.two_pow_pos x
  show 1 ≤ ((2 ^ (x : Int).toNat : Nat) : Int) ∧ ((2 ^ (x : Int).toNat : Nat) : Int) < 16777216
  rw [Int.toNat_natCast]; omega
theorem bor_rng {a b : Int} (ha : 0 ≤ a ∧ a < 16777216) (hb : 0 ≤ b ∧ b < 16777216) : 0 ≤ bor a b ∧ bor a b < 16777216 := by
  have h := Nat.or_lt_two_pow (x := a.toNat) (y := b.toNat) (n := 24) (by omega) (by omega)
  show 0 ≤ ((a.toNat ||| b.toNat : Nat) : Int) ∧ ((a.toNat ||| b.toNat : Nat) : Int) < 16777216
  omega
theorem iI_shr {a k : Int} (ha : 0 ≤ a ∧ a < 2147483648) (h0 : 0 ≤ k) (h1 : k < 31) : iI a >>> (iI k &&& 31) = iI (shr a k) := by
  obtain ⟨x, rfl⟩ := Int.eq_ofNat_of_zero_le ha.1
  obtain ⟨y, rfl⟩ := Int.eq_ofNat_of_zero_le h0
  have key : ∀ y : Nat, y < 31 → ((iI (y : Int) &&& 31).toBitVec.smod 32).toNat = y := by decide +kernel
  have e := pk_shrN (n := x) (by omega) (iI (y : Int) &&& 31) y (key y (by omega))
  rw [iI_nat] at e
  rw [e, iI_nat]
  show iI ((x / 2 ^ y : Nat) : Int) = iI (((x : Int).toNat >>> (y : Int).toNat : Nat) : Int)
  rw [Int.toNat_natCast, Int.toNat_natCast, Nat.shiftRight_eq_div_pow]
theorem shr_rng {a k : Int} (ha : 0 ≤ a ∧ a < 2147483648) : 0 ≤ shr a k ∧ shr a k < 2147483648 := by
  have h : a.toNat >>> k.toNat ≤ a.toNat := by rw [Nat.shiftRight_eq_div_pow]; exact Nat.div_le_self _ _
  unfold shr
  generalize a.toNat >>> k.toNat = z at h ⊢
  omega
theorem iI_and1 {a k : Int} (ha : 0 ≤ a ∧ a < 2147483648) : iI (shr a k) &&& iI 1 = iI (b2i (pB (bit a k))) := by
  have h : ((iI 1 : Int32)).toBitVec.toNat = 2 ^ 1 - 1 := by decide
  have hs := shr_rng (k := k) ha
  have e := pk_andN (n := a.toNat >>> k.toNat) (by unfold shr at hs; omega) (m := iI 1) 1 h
  rw [iI_nat, iI_nat] at e
  have e2 : iI (shr a k) &&& iI 1 = iI (((a.toNat >>> k.toNat) % 2 ^ 1 : Nat) : Int) := e
  rw [e2]
  have hb : a.toNat.testBit k.toNat = decide ((a.toNat >>> k.toNat) % 2 = 1) := by
    rw [Nat.testBit, Nat.and_comm, Nat.and_one_is_mod]
    rcases Nat.mod_two_eq_zero_or_one (a.toNat >>> k.toNat) with h | h <;> simp [h]
  rcases Nat.mod_two_eq_zero_or_one (a.toNat >>> k.toNat) with h | h
  · rw [pB_f (by unfold bit; rw [hb, h]; decide)]
    rw [show 2 ^ 1 = 2 from rfl, h]; rfl
  · rw [pB_t (by unfold bit; rw [hb, h]; decide)]
    rw [show 2 ^ 1 = 2 from rfl, h]; rfl
section B09
variable {p : Program} {l : Launch} {e : Env} {R : Room} {s : State} {m : MethodId} {args : Array Value} {below : List Frame} {meth : Method} {c : Code} {H : Heap} {locs : List Loc} {cells slots : Nat} {Q : State → Prop}
variable {cc : ByteArray} {pc : Nat} {ls : Array Slot} {rest : List Value} {nL : Nat} {own : String}
theorem rr_ior (F : FX p m c cc nL s args own) {a b z : Int} (hdg : decode cc pc = .ok (.ior, 1)) (h : 0 ≤ a ∧ 0 ≤ b ∧ bor a b = z) (k : W p l e R s m args below meth c H locs cells slots Q (F0 m (pc + 1) ls (vI z :: rest))) : W p l e R s m args below meth c H locs cells slots Q (F0 m pc ls (vI b :: vI a :: rest)) := lv_ior F.1 F.2.1 hdg (by rw [iI_or h.1 h.2.1, h.2.2]; exact k)
theorem rr_ishl (F : FX p m c cc nL s args own) {a b z : Int} (hdg : decode cc pc = .ok (.ishl, 1)) (h : a = 1 ∧ 0 ≤ b ∧ b < 31 ∧ p2 b = z) (k : W p l e R s m args below meth c H locs cells slots Q (F0 m (pc + 1) ls (vI z :: rest))) : W p l e R s m args below meth c H locs cells slots Q (F0 m pc ls (vI b :: vI a :: rest)) := lv_ishl F.1 F.2.1 hdg (by rw [h.1, iI_shl1 h.2.1 h.2.2.1, h.2.2.2]; exact k)
theorem rr_ishr (F : FX p m c cc nL s args own) {a b z : Int} (hdg : decode cc pc = .ok (.ishr, 1)) (h : (0 ≤ a ∧ a < 2147483648) ∧ 0 ≤ b ∧ b < 31 ∧ shr a b = z) (k : W p l e R s m args below meth c H locs cells slots Q (F0 m (pc + 1) ls (vI z :: rest))) : W p l e R s m args below meth c H locs cells slots Q (F0 m pc ls (vI b :: vI a :: rest)) := lv_ishr F.1 F.2.1 hdg (by rw [iI_shr h.1 h.2.1 h.2.2.1, h.2.2.2]; exact k)
/-- a bit of a set: (a >> b) & 1 -/
theorem rr_ibit (F : FX p m c cc nL s args own) {a b : Int} (hdg : decode cc pc = .ok (.iand, 1)) (h : 0 ≤ a ∧ a < 2147483648) (k : W p l e R s m args below meth c H locs cells slots Q (F0 m (pc + 1) ls (vI (b2i (pB (bit a b))) :: rest))) : W p l e R s m args below meth c H locs cells slots Q (F0 m pc ls (vI 1 :: vI (shr a b) :: rest)) := lv_iand F.1 F.2.1 hdg (by rw [iI_and1 h]; exact k)
end B09
/-- the letters at a place of the words with C, as a set -/
noncomputable def ltsN (C : Int → Prop) (f : Int → Int) : Nat → Int
  | 0 => 0
  | m + 1 => if pB (C m) = true then bor (ltsN C f m) (p2 (f m)) else ltsN C f m
noncomputable def lts (C : Int → Prop) (f : Int → Int) (n : Int) : Int := ltsN C f n.toNat
theorem lts_y {C : Int → Prop} {f : Int → Int} {k : Int} (h : 0 ≤ k) (hc : C k) : bor (lts C f k) (p2 (f k)) = lts C f (k + 1) := by
  obtain ⟨m, rfl⟩ := Int.eq_ofNat_of_zero_le h
  show _ = if pB (C m) = true then bor (ltsN C f m) (p2 (f m)) else ltsN C f m
  rw [if_pos (pB_t hc)]; rfl
theorem lts_n {C : Int → Prop} {f : Int → Int} {k : Int} (h : 0 ≤ k) (hc : ¬ C k) : lts C f k = lts C f (k + 1) := by
  obtain ⟨m, rfl⟩ := Int.eq_ofNat_of_zero_le h
  show _ = if pB (C m) = true then bor (ltsN C f m) (p2 (f m)) else ltsN C f m
  rw [if_neg (by rw [pB_f hc]; decide)]; rfl
theorem lts_rng {C : Int → Prop} {f : Int → Int} {n : Int} (hn : 0 ≤ n) (h : ∀ j, 0 ≤ j → j < n → C j → 0 ≤ f j ∧ f j < 24) : 0 ≤ lts C f n ∧ lts C f n < 16777216 := by
  obtain ⟨m, rfl⟩ := Int.eq_ofNat_of_zero_le hn
  induction m with
  | zero => exact ⟨Int.le_refl _, show (0 : Int) < 16777216 by decide⟩
  | succ m ih =>
    have e : ((m + 1 : Nat) : Int) = (m : Int) + 1 := by omega
    have h1 := ih (by omega) (fun j a b => h j a (by omega))
    rw [e]
    by_cases hc : C m
    · rw [← lts_y (by omega) hc]
      have h2 := h m (by omega) (by omega) hc
      have h3 := p2_rng h2.1 h2.2
      exact bor_rng h1 ⟨by omega, h3.2⟩
    · rw [← lts_n (by omega) hc]; exact h1
theorem lts_congr {C C' : Int → Prop} {f f' : Int → Int} {n : Int} (hn : 0 ≤ n) (h : ∀ j, 0 ≤ j → j < n → (C j ↔ C' j)) (hf : ∀ j, 0 ≤ j → j < n → C j → f j = f' j) : lts C f n = lts C' f' n := by
  obtain ⟨m, rfl⟩ := Int.eq_ofNat_of_zero_le hn
  induction m with
  | zero => rfl
  | succ m ih =>
    have e : ((m + 1 : Nat) : Int) = (m : Int) + 1 := by omega
    have h1 := ih (by omega) (fun j a b => h j a (by omega)) (fun j a b => hf j a (by omega))
    rw [e]
    by_cases hc : C m
    · rw [← lts_y (by omega) hc, ← lts_y (by omega) ((h m (by omega) (by omega)).mp hc), h1, hf m (by omega) (by omega) hc]
    · rw [← lts_n (by omega) hc, ← lts_n (by omega) (fun q => hc ((h m (by omega) (by omega)).mpr q)), h1]
-- the book
def BK (nw : Int) (lt ln : Int → Int) (bl : Int → Int) (bc : Int → Int → Int) : Prop := 0 ≤ nw ∧ nw ≤ 10 ∧ ∀ w, 0 ≤ w → w < nw → ln w = bl w ∧ 1 ≤ bl w ∧ bl w ≤ 6 ∧ ∀ i, 0 ≤ i → i < bl w → lt (w * 6 + i) = 96 + bc w i ∧ 1 ≤ bc w i ∧ bc w i ≤ 8
theorem BK.at {nw : Int} {lt ln : Int → Int} {bl : Int → Int} {bc : Int → Int → Int} (h : BK nw lt ln bl bc) {w : Int} (h0 : 0 ≤ w) (h1 : w < nw) : ln w = bl w ∧ (1 ≤ bl w ∧ bl w ≤ 6) ∧ ∀ i, 0 ≤ i → i < bl w → lt (w * 6 + i) = 96 + bc w i ∧ 1 ≤ bc w i ∧ bc w i ≤ 8 := by
  obtain ⟨a, b, c, d⟩ := h.2.2 w h0 h1
  exact ⟨a, ⟨b, c⟩, d⟩
/-- a word of L letters c stands from p on in direction d -/
def stn (n : Int) (q : Int → Int) (L : Int) (c : Int → Int) (p d : Int) : Prop := ∀ j, 0 ≤ j → j < L → q (off n p d j) = 9 ∨ q (off n p d j) = c j
def ft (n : Int) (q : Int → Int) (L : Int) (c : Int → Int) (dv d : Int) : Prop := L = seg n q dv d ∧ stn n q L c (off n dv d 1) d
/-- the lowest below n with P, or -1 -/
noncomputable def low (P : Int → Prop) (n : Int) : Int := if fst P n < n then fst P n else -1
theorem low_hit {P : Int → Prop} {n k : Int} (h0 : 0 ≤ k) (hk : k < n) (hp : P k) (hno : ∀ j, 0 ≤ j → j < k → ¬ P j) : k = low P n := by
  have e : fst P n = k := fst_eq h0 (by omega) hno (fun _ => hp)
  unfold low; rw [e, if_pos hk]
theorem low_miss {P : Int → Prop} {n : Int} (h0 : 0 ≤ n) (hno : ∀ j, 0 ≤ j → j < n → ¬ P j) : -1 = low P n := by
  have e : fst P n = n := fst_eq h0 (Int.le_refl _) hno (fun h => absurd h (Int.lt_irrefl _))
  unfold low; rw [e, if_neg (Int.lt_irrefl _)]
theorem low_rng (P : Int → Prop) {n : Int} (hn : 0 ≤ n) : -1 ≤ low P n ∧ low P n < n ∨ n = 0 ∧ low P n = -1 := by
  have h := fst_rng P hn
  unfold low; split <;> omega
/-- the place of the k-th with P, or -1 -/
noncomputable def kpl (P : Int → Prop) (s n : Int) : Int := if kth P s n < n then kth P s n else -1
theorem kpl_hit {P : Int → Prop} {s n k : Int} (h0 : 0 ≤ k) (hk : k < n) (hp : P k) (hc : cnt P k = s) (hno : ∀ j, 0 ≤ j → j < k → ¬ (P j ∧ cnt P j = s)) : k = kpl P s n := by
  have e : kth P s n = k := fst_eq h0 (by omega) hno (fun _ => ⟨hp, hc⟩)
  unfold kpl; rw [e, if_pos hk]
theorem kpl_miss {P : Int → Prop} {s n : Int} (h0 : 0 ≤ n) (hno : ∀ j, 0 ≤ j → j < n → ¬ (P j ∧ cnt P j = s)) : -1 = kpl P s n := by
  have e : kth P s n = n := fst_eq h0 (Int.le_refl _) hno (fun h => absurd h (Int.lt_irrefl _))
  unfold kpl; rw [e, if_neg (Int.lt_irrefl _)]
