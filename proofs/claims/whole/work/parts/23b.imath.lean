-- switches, rows of booleans, and what the reference's own readers need
section B23b
variable {p : Program} {l : Launch} {e : Env} {R : Room} {s : State} {m : MethodId} {args : Array Value} {below : List Frame} {meth : Method} {c : Code} {H H0 : Heap} {locs : List Loc} {cells slots : Nat} {Q : State → Prop}
variable {cc : ByteArray} {pc : Nat} {ls : Array Slot} {rest : List Value} {nL : Nat} {own : String} {D : va_G} {cy : Nat → ClassId} {ws : va_W} {A : Nat → Prop}
theorem rr_tabOut (F : FX p m c cc nL s args own) {dflt lo hi : Int} {offs : Array Int} {len tgt : Nat} {z : Int} (hdg : decode cc pc = .ok (.tableswitch dflt lo hi offs, len)) (hr : inR z) (h : z < lo ∨ hi < z) (ht : (pc : Int) + dflt = (tgt : Int))
    (k : W p l e R s m args below meth c H locs cells slots Q (F0 m tgt ls rest)) : W p l e R s m args below meth c H locs cells slots Q (F0 m pc ls (vI z :: rest)) :=
  lv_tableOut F.1 F.2.1 hdg (by rw [iI_toInt hr]; exact h) ht k
theorem rr_tabIn (F : FX p m c cc nL s args own) {dflt lo hi : Int} {offs : Array Int} {len tgt : Nat} {z : Int} {off : Int} (i : Nat) (hdg : decode cc pc = .ok (.tableswitch dflt lo hi offs, len)) (hr : inR z) (hz : z = lo + i) (h2 : ¬ hi < z) (ho : offs[i]? = some off) (ht : (pc : Int) + off = (tgt : Int))
    (k : W p l e R s m args below meth c H locs cells slots Q (F0 m tgt ls rest)) : W p l e R s m args below meth c H locs cells slots Q (F0 m pc ls (vI z :: rest)) :=
  lv_tableIn F.1 F.2.1 hdg (by rw [iI_toInt hr]; omega) (by rw [iI_toInt hr]; exact h2) (by rw [iI_toInt hr, show (z - lo).toNat = i by omega]; exact ho) ht k
theorem rr_zald (F : FX p m c cc nL s args own) (hK : KK D cy s) (hP : va_P D vwCl ws H) (q0 : Nat) {a n : Nat} {g : Int → Int} (ha : ws[q0]? = some (a, .inl (cy 2, n, .inl (iA g)))) {z : Int} (h0 : 0 ≤ z) (hj : z < n) (hn : n < 2147483648) (hdg : decode cc pc = .ok (.baload, 1)) (k : W p l e R s m args below meth c H locs cells slots Q (F0 m (pc + 1) ls (vI (g z) :: rest))) : W p l e R s m args below meth c H locs cells slots Q (F0 m pc ls (vI z :: .ref a :: rest)) := by
  obtain ⟨j, rfl⟩ := Int.eq_ofNat_of_zero_le h0
  exact va_zald F.1 F.2.1 hK.1 hP q0 2 ha rfl (iI_in rfl (by omega) hn) hdg (by rw [iI_cl rfl (by omega)]; exact k)
theorem rr_zast1 (F : FX p m c cc nL s args own) (hK : KK D cy s) (hP : va_P D vwCl ws H) (hD : va_D A ws) (hS : va_S A H0 H locs) (q0 : Nat) {a n : Nat} {g : Int → Int} (ha : ws[q0]? = some (a, .inl (cy 2, n, .inl (iA g)))) {z : Int} (h0 : 0 ≤ z) (hj : z < n) (hn : n < 2147483648) (hdg : decode cc pc = .ok (.bastore, 1))
    (k : ∀ (H1 : Heap) (locs1 : List Loc), va_P D vwCl (ws.set q0 (a, .inl (cy 2, n, .inl (iA (updZ g z 1))))) H1 → va_D A (ws.set q0 (a, .inl (cy 2, n, .inl (iA (updZ g z 1))))) → va_S A H0 H1 locs1 → W p l e R s m args below meth c H1 locs1 cells slots Q (F0 m (pc + 1) ls rest)) : W p l e R s m args below meth c H locs cells slots Q (F0 m pc ls (vI 1 :: vI z :: .ref a :: rest)) := by
  obtain ⟨j, rfl⟩ := Int.eq_ofNat_of_zero_le h0
  refine va_zast F.1 F.2.1 hK.1 hP hD hS q0 2 ha rfl (iI_in rfl (by omega) hn) hdg ?_
  rw [iI_cl rfl (by omega), show vp_nar .boolean (iI 1) = iI 1 from rfl, iA_upd]
  exact k
end B23b
theorem off_00 {n j : Int} (h0 : 0 ≤ j) (h1 : j < n) : off n 0 0 j = j := by
  unfold off; rw [if_pos rfl, Int.zero_add, Int.emod_eq_of_lt h0 h1]
theorem lss_asr {n : Int} {q : Int → Int} {p : Int} (hn : 0 < n) (hq : ∀ j, 0 ≤ j → j < n → 0 ≤ q j ∧ q j ≤ 9) : lss n q 0 p = 0 ↔ asr n q p 0 := by
  constructor
  · intro h
    refine Classical.byContradiction fun hc => ?_
    have hf := fst_rng (fun j => ¬ q (off n 0 0 j) = q (off n p 0 j)) (n := n) (by omega)
    by_cases h2 : fst (fun j => ¬ q (off n 0 0 j) = q (off n p 0 j)) n < n
    · have hy := fst_yes (fun j => ¬ q (off n 0 0 j) = q (off n p 0 j)) h2
      have oa := off_rng hn 0 0 (fst (fun j => ¬ q (off n 0 0 j) = q (off n p 0 j)) n)
      have ob := off_rng hn p 0 (fst (fun j => ¬ q (off n 0 0 j) = q (off n p 0 j)) n)
      have e := rk_eq (hq _ oa.1 oa.2) (hq _ ob.1 ob.2)
      unfold lss at h; rw [if_pos h2] at h
      exact hy (e.mp (by omega))
    · refine hc fun j a b => ?_
      have := fst_no (fun j => ¬ q (off n 0 0 j) = q (off n p 0 j)) a (by omega : j < fst (fun j => ¬ q (off n 0 0 j) = q (off n p 0 j)) n)
      have h3 : q (off n 0 0 j) = q (off n p 0 j) := Classical.byContradiction this
      rw [off_00 a b] at h3; exact h3
  · intro h
    refine lss_miss (by omega) fun j a b => ?_
    rw [off_00 a b]; exact h j a b
noncomputable def bg1 (n : Int) (q : Int → Int) (k : Int) : Int := if n = 0 then -1 else bgn n q k
theorem bg1_0 {n : Int} {q : Int → Int} {k : Int} (h : n = 0) : bg1 n q k = -1 := by unfold bg1; rw [if_pos h]
theorem bg1_n {n : Int} {q : Int → Int} {k : Int} (h : ¬ n = 0) : bg1 n q k = bgn n q k := by unfold bg1; rw [if_neg h]
theorem bg1_rng {n : Int} {q : Int → Int} {k : Int} (h : ¬ n = 0) (hk : 0 < k) : 0 ≤ bg1 n q k ∧ bg1 n q k < k := by rw [bg1_n h]; exact bgn_rng n q hk
/-- about the state: what a row of numbers answers -/
noncomputable def abt (n : Int) (q : Int → Int) (nw wc sp x : Int) : Int := if x = 0 then n else if x = 1 then cnt (fun j => q j = 0) n else if x = 2 then cnt (fun j => q j = 9) n else if x = 3 then nw else if x = 4 then wc else if x = 5 then sp else if x = 6 then bg1 n q n else if x = 7 then perd n q else b2i (pB (mirr n q))
theorem lss_rng {n : Int} {q : Int → Int} (hn : 0 < n) (hq : ∀ j, 0 ≤ j → j < n → 0 ≤ q j ∧ q j ≤ 9) (x y : Int) : -10 ≤ lss n q x y ∧ lss n q x y ≤ 10 := by
  unfold lss
  split
  · have oa := off_rng hn x 0 (fst (fun j => ¬ q (off n x 0 j) = q (off n y 0 j)) n)
    have ob := off_rng hn y 0 (fst (fun j => ¬ q (off n x 0 j) = q (off n y 0 j)) n)
    have ra := rk_rng (hq _ oa.1 oa.2); have rb := rk_rng (hq _ ob.1 ob.2)
    omega
  · omega
theorem bg1_all {n : Int} {q : Int → Int} (h : 0 ≤ n) : -1 ≤ bg1 n q n ∧ bg1 n q n ≤ n := by
  by_cases hz : n = 0
  · rw [bg1_0 hz]; omega
  · have := bg1_rng (q := q) (k := n) hz (by omega); omega
theorem perd_rng {n : Int} (q : Int → Int) (h : 0 ≤ n) : 0 ≤ perd n q ∧ perd n q ≤ n := by
  unfold perd
  split
  · omega
  · have := fst_rng (fun k => asr n q (k + 1) 0) (n := n - 1) (by omega); omega
theorem off_un {n p d k j : Int} (hd : 0 ≤ d ∧ d ≤ 1) : off n (off n p (1 - d) k) d j = off n p (1 - d) (k - j) := by
  rcases (show d = 0 ∨ d = 1 by omega) with rfl | rfl
  · show ((p - k) % n + j) % n = (p - (k - j)) % n
    rw [Int.emod_add_emod, show p - k + j = p - (k - j) by omega]
  · show ((p + k) % n - j) % n = (p + (k - j)) % n
    rw [Int.emod_sub_emod, show p + k - j = p + (k - j) by omega]
theorem off_at0 {n p d : Int} (hp : 0 ≤ p ∧ p < n) : off n p d 0 = p := by
  unfold off; split
  · rw [Int.add_zero, Int.emod_eq_of_lt hp.1 hp.2]
  · rw [Int.sub_zero, Int.emod_eq_of_lt hp.1 hp.2]
/-- a place k behind its divider stands in a segment of k places at least -/
theorem seg_cov {n : Int} {q : Int → Int} {p d k : Int} (hd : 0 ≤ d ∧ d ≤ 1) (h0 : 0 < k) (h1 : k < n) (hz : q (off n p (1 - d) k) = 0) (hno : ∀ j, 0 ≤ j → j < k → ¬ q (off n p (1 - d) j) = 0) : k ≤ seg n q (off n p (1 - d) k) d := by
  rw [seg_yes hz]
  refine Classical.byContradiction fun hc => ?_
  have hr := seg1_rng (show 0 < n by omega) q (off n p (1 - d) k) d
  have hy := fst_yes (fun i => q (off n (off n p (1 - d) k) d (i + 1)) = 0) (n := n - 1) (show seg1 n q (off n p (1 - d) k) d < n - 1 by omega)
  have h3 : q (off n (off n p (1 - d) k) d (seg1 n q (off n p (1 - d) k) d + 1)) = 0 := hy
  rw [off_un hd] at h3
  exact hno _ (by omega) (by omega) h3
/-- the letters that a place can be -/
noncomputable def cbe (n : Int) (q : Int → Int) (nw : Int) (bl : Int → Int) (bc : Int → Int → Int) (p d : Int) : Int :=
  if dfd n q p d ≤ 0 then 0 else lts (fun w => dfd n q p d - 1 < bl w ∧ ft n q (bl w) (bc w) (off n p (1 - d) (dfd n q p d)) d) (fun w => bc w (dfd n q p d - 1) - 1) nw
/-- the sign that a character of the text stands for -/
def sgc (x : Int) : Int := if x = 46 then 0 else if x = 63 then 9 else x - 96
noncomputable def rdv (n : Int) (q : Int → Int) (nw : Int) (bl : Int → Int) (bc : Int → Int → Int) (d x : Int) : Int :=
  if x = 0 then cnt (fun p => 0 < seg n q p d) n else if x = 1 then sns n q nw bl bc d else if x = 2 then rdg n q nw bl bc d else mx (fun j => seg n q j d) n
noncomputable def sgv (n : Int) (q : Int → Int) (nw : Int) (bl : Int → Int) (bc : Int → Int → Int) (dv d x : Int) : Int :=
  if x = 0 then dv else if x = 1 then seg n q dv d else if x = 2 then fc n q nw bl bc dv d else if x = 3 then low (fun w => ft n q (bl w) (bc w) dv d) nw else cnt (fun j => q (off n dv d (j + 1)) = 9) (seg n q dv d)
noncomputable def wkv (n : Int) (q : Int → Int) (nw : Int) (bl : Int → Int) (bc : Int → Int → Int) (wp wd wq wi we x : Int) : Int :=
  if x = 0 then wp else if x = 1 then wd else if x = 2 then wq else if x = 3 then wi else if x = 4 then cnt (bit we) 24 else if x = 6 then knb n q nw bl bc wd we 1 else knb n q nw bl bc wd we 0
theorem cbe_0 {n : Int} {q : Int → Int} {nw : Int} {bl : Int → Int} {bc : Int → Int → Int} {p d : Int} (h : dfd n q p d ≤ 0) : 0 = cbe n q nw bl bc p d := by unfold cbe; rw [if_pos h]
theorem cbe_y {n : Int} {q : Int → Int} {nw : Int} {bl : Int → Int} {bc : Int → Int → Int} {p d k : Int} (h : k = dfd n q p d) (h0 : ¬ k ≤ 0) : lts (fun w => k - 1 < bl w ∧ ft n q (bl w) (bc w) (off n p (1 - d) k) d) (fun w => bc w (k - 1) - 1) nw = cbe n q nw bl bc p d := by
  subst h; unfold cbe; rw [if_neg h0]
