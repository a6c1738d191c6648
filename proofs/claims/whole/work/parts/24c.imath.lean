theorem MR_carve {a : Int → Int} (hM : MR a) {i c : Int} (h0 : 0 ≤ i) (h1 : i < a 0) (hc : 0 ≤ c ∧ c ≤ 9) : MR (updZ a (1 + i) c) := by
  have hn := hM.n
  have e : ∀ j, (j < 1 ∨ 25 ≤ j) → updZ a (1 + i) c j = a j := fun j hj => updZ_n (by omega)
  unfold MR
  rw [e 0 (by omega), e 25 (by omega), e 96 (by omega)]
  refine ⟨hM.1, fun j a1 a2 => ?_, hM.nw, fun w a1 a2 => ?_, hM.wc, fun w a1 a2 => ?_⟩
  · by_cases hj : 1 + j = 1 + i
    · rw [hj, updZ_s]; exact hc
    · rw [updZ_n hj]; exact hM.q a1 a2
  · have hw := hM.b a1 a2
    rw [e (26 + 7 * w) (by omega)]
    refine ⟨hw.1, fun x b1 b2 => ?_⟩
    rw [e (26 + 7 * w + 1 + x) (by omega)]
    exact hw.2 x b1 b2
  · rw [e (97 + 5 * w + 0) (by omega), e (97 + 5 * w + 1) (by omega), e (97 + 5 * w + 2) (by omega), e (97 + 5 * w + 3) (by omega), e (97 + 5 * w + 4) (by omega)]
    exact hM.w a1 a2
theorem updZ_back (a : Int → Int) (i c : Int) : updZ (updZ a i c) i (a i) = a := by
  funext j
  by_cases h : j = i
  · rw [h, updZ_s]
  · rw [updZ_n h, updZ_n h]
/-- the best divider's place and sense -/
noncomputable def bdN (D : Int → Prop) (f : Int → Int) : Nat → Int × Int
  | 0 => (-1, -1)
  | m + 1 => if pB (D m) = true then bdN D f m else if (bdN D f m).2 < f m then ((m : Int), f m) else bdN D f m
noncomputable def bd (D : Int → Prop) (f : Int → Int) (n : Int) : Int × Int := bdN D f n.toNat
theorem bd_d {D : Int → Prop} {f : Int → Int} {k : Int} (h : 0 ≤ k) (hd : D k) : bd D f (k + 1) = bd D f k := by
  obtain ⟨m, rfl⟩ := Int.eq_ofNat_of_zero_le h
  show (if pB (D m) = true then _ else _) = _
  rw [if_pos (pB_t hd)]; rfl
theorem bd_y {D : Int → Prop} {f : Int → Int} {k : Int} (h : 0 ≤ k) (hd : ¬ D k) (hf : (bd D f k).2 < f k) : bd D f (k + 1) = (k, f k) := by
  obtain ⟨m, rfl⟩ := Int.eq_ofNat_of_zero_le h
  show (if pB (D m) = true then _ else _) = _
  rw [pB_f hd, if_neg (by decide)]; exact if_pos hf
theorem bd_n {D : Int → Prop} {f : Int → Int} {k : Int} (h : 0 ≤ k) (hd : ¬ D k) (hf : ¬ (bd D f k).2 < f k) : bd D f (k + 1) = bd D f k := by
  obtain ⟨m, rfl⟩ := Int.eq_ofNat_of_zero_le h
  show (if pB (D m) = true then _ else _) = _
  rw [pB_f hd, if_neg (by decide)]; exact if_neg hf
theorem bd_rng {D : Int → Prop} {f : Int → Int} {c k : Int} (h : 0 ≤ k) (hf : ∀ j, 0 ≤ j → j < k → 0 ≤ f j ∧ f j ≤ c) (hc : 0 ≤ c) : (-1 ≤ (bd D f k).1 ∧ (bd D f k).1 ≤ k) ∧ -1 ≤ (bd D f k).2 ∧ (bd D f k).2 ≤ c := by
  obtain ⟨m, rfl⟩ := Int.eq_ofNat_of_zero_le h
  induction m with
  | zero => exact ⟨⟨by show (-1 : Int) ≤ -1; omega, by show (-1 : Int) ≤ 0; omega⟩, by show (-1 : Int) ≤ -1; omega, by show (-1 : Int) ≤ c; omega⟩
  | succ m ih =>
    have ih := ih (by omega) (fun j a b => hf j a (by omega))
    have hm := hf m (by omega) (by omega)
    rw [show ((m + 1 : Nat) : Int) = (m : Int) + 1 by omega]
    by_cases hd : D m
    · rw [bd_d (by omega) hd]; omega
    · by_cases h2 : (bd D f m).2 < f m
      · rw [bd_y (by omega) hd h2]; exact ⟨⟨by show (-1 : Int) ≤ (m : Int); omega, by show (m : Int) ≤ m + 1; omega⟩, by show (-1 : Int) ≤ f m; omega, hm.2⟩
      · rw [bd_n (by omega) hd h2]; omega
/-- one walker k steps on -/
def stW (a : Int → Int) (w k : Int) : Int → Int := updZ (updZ a (97 + 5 * w + 0) (ps (a 0) (a (97 + 5 * w + 0)) (a (97 + 5 * w + 1)) (a (97 + 5 * w + 2)) k)) (97 + 5 * w + 4) (se (a 0) (a (97 + 5 * w + 0)) (a (97 + 5 * w + 1)) (a (97 + 5 * w + 2)) (a (97 + 5 * w + 3)) (a (97 + 5 * w + 4)) k)
theorem stW_0 (a : Int → Int) (w : Int) : stW a w 0 = a := by
  unfold stW
  rw [ps_0 _ _ _ _ rfl, se_0 _ _ _ _ _ _ rfl]
  funext j
  by_cases h : j = 97 + 5 * w + 4
  · rw [h, updZ_s]
  · rw [updZ_n h]
    by_cases h2 : j = 97 + 5 * w + 0
    · rw [h2, updZ_s]
    · rw [updZ_n h2]
theorem stW_p (a : Int → Int) (w k : Int) : stW a w k (97 + 5 * w + 0) = ps (a 0) (a (97 + 5 * w + 0)) (a (97 + 5 * w + 1)) (a (97 + 5 * w + 2)) k := by
  unfold stW; rw [updZ_n (by omega), updZ_s]
theorem stW_e (a : Int → Int) (w k : Int) : stW a w k (97 + 5 * w + 4) = se (a 0) (a (97 + 5 * w + 0)) (a (97 + 5 * w + 1)) (a (97 + 5 * w + 2)) (a (97 + 5 * w + 3)) (a (97 + 5 * w + 4)) k := by
  unfold stW; rw [updZ_s]
theorem stW_n {a : Int → Int} {w k j : Int} (h : ¬ j = 97 + 5 * w + 0) (h2 : ¬ j = 97 + 5 * w + 4) : stW a w k j = a j := by
  unfold stW; rw [updZ_n h2, updZ_n h]
theorem stW_MR {a : Int → Int} (hM : MR a) {w k : Int} (h0 : 0 ≤ w) (h1 : w < a 96) : MR (stW a w k) := by
  unfold MR
  rw [stW_n (j := 0) (by omega) (by omega), stW_n (j := 25) (by omega) (by omega), stW_n (j := 96) (by omega) (by omega)]
  have hn := hM.n; have hnw := hM.nw
  refine ⟨hM.1, fun j a1 a2 => ?_, hM.nw, fun v a1 a2 => ?_, hM.wc, fun v a1 a2 => ?_⟩
  · rw [stW_n (by omega) (by omega)]; exact hM.q a1 a2
  · have hb := hM.b a1 a2
    rw [stW_n (j := 26 + 7 * v) (by omega) (by omega)]
    refine ⟨hb.1, fun i b1 b2 => ?_⟩
    rw [stW_n (by omega) (by omega)]; exact hb.2 i b1 b2
  · rw [stW_n (j := 97 + 5 * v + 1) (by omega) (by omega), stW_n (j := 97 + 5 * v + 2) (by omega) (by omega), stW_n (j := 97 + 5 * v + 3) (by omega) (by omega)]
    by_cases hv : v = w
    · subst hv; rw [stW_p, stW_e]; exact ps_WK (hM.w a1 a2)
    · rw [stW_n (j := 97 + 5 * v + 0) (by omega) (by omega), stW_n (j := 97 + 5 * v + 4) (by omega) (by omega)]; exact hM.w a1 a2
def r25 (x : Int) : Int := if x = -1 then 25 else x
theorem r25_a {x k : Int} (h : k = x) (h0 : 0 ≤ k) : r25 x = k := by unfold r25; rw [if_neg (by omega), h]
theorem r25_b {x : Int} (h : -1 = x) : r25 x = 25 := by unfold r25; rw [if_pos h.symm]
theorem ferr_rng {tl : Int} {tc : Int → Int} {fb : Int} (h : 0 ≤ tl) : -1 ≤ ferr tl tc fb ∧ ferr tl tc fb ≤ tl := by
  have hr := fst_rng (fun j => ¬ ferok tc fb j) (n := tl) h
  unfold ferr; split
  · omega
  · split <;> omega
