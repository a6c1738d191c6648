-- writing pieces of rows
def cpZ (f g : Int → Int) (sp dp n : Int) : Int → Int := fun k => if dp ≤ k ∧ k < dp + n then f (sp + (k - dp)) else g k
theorem cpZ_in {f g : Int → Int} {sp dp n k : Int} (h : dp ≤ k) (h2 : k < dp + n) : cpZ f g sp dp n k = f (sp + (k - dp)) := if_pos ⟨h, h2⟩
theorem cpZ_out {f g : Int → Int} {sp dp n k : Int} (h : k < dp ∨ dp + n ≤ k) : cpZ f g sp dp n k = g k := if_neg (by omega)
theorem cpZ_nat (f g : Int → Int) (sp dp n : Nat) : va_cpy (iA f) (iA g) sp dp n = iA (cpZ f g sp dp n) := by
  funext k
  by_cases h : dp ≤ k ∧ k < dp + n
  · have h2 : ((dp : Int) ≤ (k : Int) ∧ (k : Int) < (dp : Int) + (n : Int)) := by omega
    have e : ((sp + (k - dp) : Nat) : Int) = (sp : Int) + ((k : Int) - (dp : Int)) := by omega
    unfold va_cpy iA cpZ
    rw [if_pos h, if_pos h2, ← e]
  · have h2 : ¬ ((dp : Int) ≤ (k : Int) ∧ (k : Int) < (dp : Int) + (n : Int)) := by omega
    unfold va_cpy iA cpZ
    rw [if_neg h, if_neg h2]
/-- the places of a row of characters hold characters -/
def CH (n : Int) (g : Int → Int) : Prop := ∀ j, 0 ≤ j → j < n → 0 ≤ g j ∧ g j < 65536
def insZ (g : Int → Int) (n k : Int) : Int → Int := fun x => if k < x ∧ x ≤ n then g (x - 1) else g x
theorem insZ_0 (g : Int → Int) (n : Int) : g = insZ g n n := by
  funext x; unfold insZ; rw [if_neg (by omega)]
theorem insZ_at {g : Int → Int} {n k : Int} : insZ g n k (k - 1) = g (k - 1) := by unfold insZ; rw [if_neg (by omega)]
theorem insZ_s {g : Int → Int} {n k : Int} (h : k ≤ n) : updZ (insZ g n k) k (insZ g n k (k - 1)) = insZ g n (k - 1) := by
  funext x
  rw [insZ_at]
  unfold updZ insZ
  by_cases hx : x = k
  · rw [if_pos hx, if_pos (by omega), hx]
  · rw [if_neg hx]
    by_cases h2 : k < x ∧ x ≤ n
    · rw [if_pos h2, if_pos (by omega)]
    · rw [if_neg h2, if_neg (by omega)]
def delZ (g : Int → Int) (i m : Int) : Int → Int := fun x => if i ≤ x ∧ x < m then g (x + 1) else g x
theorem delZ_0 (g : Int → Int) (i : Int) : g = delZ g i i := by
  funext x; unfold delZ; rw [if_neg (by omega)]
theorem delZ_at {g : Int → Int} {i k : Int} : delZ g i (k - 1) k = g k := by unfold delZ; rw [if_neg (by omega)]
theorem delZ_s {g : Int → Int} {i k : Int} (h : i ≤ k - 1) : updZ (delZ g i (k - 1)) (k - 1) (delZ g i (k - 1) k) = delZ g i (k + 1 - 1) := by
  funext x
  rw [delZ_at]
  unfold updZ delZ
  by_cases hx : x = k - 1
  · rw [if_pos hx, if_pos (by omega), hx, show k - 1 + 1 = k by omega]
  · rw [if_neg hx]
    by_cases h2 : i ≤ x ∧ x < k - 1
    · rw [if_pos h2, if_pos (by omega)]
    · rw [if_neg h2, if_neg (by omega)]
theorem jd_cpy : Cond.native arraycopyName ∈ lw_G ∧ Cond.static arraycopyName ∈ lw_G ∧ Cond.initialized "java/lang/System" ∈ lw_G := ⟨tw548, tw547, tw17⟩
section B20
variable {p : Program} {l : Launch} {e : Env} {R : Room} {s : State} {m : MethodId} {args : Array Value} {below : List Frame} {meth : Method} {c : Code} {H : Heap} {locs : List Loc} {cells slots : Nat} {Q : State → Prop}
variable {cc : ByteArray} {pc : Nat} {ls : Array Slot} {rest : List Value} {nL : Nat} {own : String} {D : va_G} {cy : Nat → ClassId} {ws : va_W} {A : Nat → Prop} {H0 : Heap}
theorem rr_acpyC (F : FX p m c cc nL s args own) {lv : List (Nat × Value)} (hls : lv_has ls nL lv) (hK : KK D cy s) (hP : va_P D vwCl ws H) (hD : va_D A ws) (hS : va_S A H0 H locs) (q0 q1 : Nat) {a0 a n0 n1 : Nat} {f g : Int → Int} (ha0 : ws[q0]? = some (a0, .inl (cy 0, n0, .inl (iA f)))) (ha1 : ws[q1]? = some (a, .inl (cy 0, n1, .inl (iA g)))) {sp dp n : Int} (h1 : 0 ≤ sp) (h2 : 0 ≤ dp) (h3 : 0 ≤ n) (h4 : sp + n ≤ n0) (h5 : dp + n ≤ n1) (hn0 : n0 < 100000) (hn1 : n1 < 100000) (hfit : ∀ i, sp ≤ i → i < sp + n → 0 ≤ f i ∧ f i < 65536) {index : Nat} (hl : Cond.methodLink own index arraycopyName ∈ lw_G) (hf : 1 ≤ R.frames) (hlo : (rest.map fun v => v.category).sum + 18 ≤ R.locals) (hdg : decode cc pc = .ok (.invokestatic index, 3))
    (k : ∀ (H1 : Heap) (locs1 : List Loc), va_P D vwCl (ws.set q1 (a, .inl (cy 0, n1, .inl (iA (cpZ f g sp dp n))))) H1 → va_D A (ws.set q1 (a, .inl (cy 0, n1, .inl (iA (cpZ f g sp dp n))))) → va_S A H0 H1 locs1 → W p l e R s m args below meth c H1 locs1 cells slots Q (F0 m (pc + 3) ls rest)) : W p l e R s m args below meth c H locs cells slots Q (F0 m pc ls (vI n :: vI dp :: .ref a :: vI sp :: .ref a0 :: rest)) := by
  have ht := F.2.2.2.2
  obtain ⟨sp, rfl⟩ := Int.eq_ofNat_of_zero_le h1
  obtain ⟨dp, rfl⟩ := Int.eq_ofNat_of_zero_le h2
  obtain ⟨n, rfl⟩ := Int.eq_ofNat_of_zero_le h3
  have e1 : (iI (sp : Int)).toNatClampNeg = sp := iI_cl rfl (by omega)
  have e2 : (iI (dp : Int)).toNatClampNeg = dp := iI_cl rfl (by omega)
  have e3 : (iI (n : Int)).toNatClampNeg = n := iI_cl rfl (by omega)
  have nn : ∀ x : Nat, x < 100000 → ¬ iI (x : Int) < 0 := fun x hx h => by rw [← iI_0, iI_lt ⟨by omega, by omega⟩ inR_0] at h; omega
  refine va_copyi F.1 F.2.1 (F.2.2.1.trans hls.1.symm) F.2.2.2.1 (ht _ hl) (ht _ jd_cpy.1) (ht _ jd_cpy.2.1) (ht _ jd_cpy.2.2) hK.1 hP hD hS q0 q1 0 0 ha0 ha1 rfl rfl rfl (nn sp (by omega)) (nn dp (by omega)) (nn n (by omega)) (by rw [e1, e3]; omega) (by rw [e2, e3]; omega) ?_ hf (by show _ + ((5 + 2) + 11) ≤ _; omega) hdg ?_
  · intro i hi
    rw [e3] at hi
    rw [e1]
    have h := hfit ((sp + i : Nat) : Int) (by omega) (by omega)
    obtain ⟨v, hv⟩ := Int.eq_ofNat_of_zero_le h.1
    show fits .char (.int (iI (f ((sp + i : Nat) : Int)))) = true
    rw [hv] at h ⊢
    rw [← iI_nat]
    exact (pk_charN (by omega)).2
  · rw [e1, e2, e3, cpZ_nat]; exact k
theorem rr_acpyI (F : FX p m c cc nL s args own) {lv : List (Nat × Value)} (hls : lv_has ls nL lv) (hK : KK D cy s) (hP : va_P D vwCl ws H) (hD : va_D A ws) (hS : va_S A H0 H locs) (q0 q1 : Nat) {a0 a n0 n1 : Nat} {f g : Int → Int} (ha0 : ws[q0]? = some (a0, .inl (cy 1, n0, .inl (iA f)))) (ha1 : ws[q1]? = some (a, .inl (cy 1, n1, .inl (iA g)))) {sp dp n : Int} (h1 : 0 ≤ sp) (h2 : 0 ≤ dp) (h3 : 0 ≤ n) (h4 : sp + n ≤ n0) (h5 : dp + n ≤ n1) (hn0 : n0 < 100000) (hn1 : n1 < 100000) {index : Nat} (hl : Cond.methodLink own index arraycopyName ∈ lw_G) (hf : 1 ≤ R.frames) (hlo : (rest.map fun v => v.category).sum + 18 ≤ R.locals) (hdg : decode cc pc = .ok (.invokestatic index, 3))
    (k : ∀ (H1 : Heap) (locs1 : List Loc), va_P D vwCl (ws.set q1 (a, .inl (cy 1, n1, .inl (iA (cpZ f g sp dp n))))) H1 → va_D A (ws.set q1 (a, .inl (cy 1, n1, .inl (iA (cpZ f g sp dp n))))) → va_S A H0 H1 locs1 → W p l e R s m args below meth c H1 locs1 cells slots Q (F0 m (pc + 3) ls rest)) : W p l e R s m args below meth c H locs cells slots Q (F0 m pc ls (vI n :: vI dp :: .ref a :: vI sp :: .ref a0 :: rest)) := by
  have ht := F.2.2.2.2
  obtain ⟨sp, rfl⟩ := Int.eq_ofNat_of_zero_le h1
  obtain ⟨dp, rfl⟩ := Int.eq_ofNat_of_zero_le h2
  obtain ⟨n, rfl⟩ := Int.eq_ofNat_of_zero_le h3
  have e1 : (iI (sp : Int)).toNatClampNeg = sp := iI_cl rfl (by omega)
  have e2 : (iI (dp : Int)).toNatClampNeg = dp := iI_cl rfl (by omega)
  have e3 : (iI (n : Int)).toNatClampNeg = n := iI_cl rfl (by omega)
  have nn : ∀ x : Nat, x < 100000 → ¬ iI (x : Int) < 0 := fun x hx h => by rw [← iI_0, iI_lt ⟨by omega, by omega⟩ inR_0] at h; omega
  refine va_copyi F.1 F.2.1 (F.2.2.1.trans hls.1.symm) F.2.2.2.1 (ht _ hl) (ht _ jd_cpy.1) (ht _ jd_cpy.2.1) (ht _ jd_cpy.2.2) hK.1 hP hD hS q0 q1 1 1 ha0 ha1 rfl rfl rfl (nn sp (by omega)) (nn dp (by omega)) (nn n (by omega)) (by rw [e1, e3]; omega) (by rw [e2, e3]; omega) (fun i _ => rfl) hf (by show _ + ((5 + 2) + 11) ≤ _; omega) hdg ?_
  rw [e1, e2, e3, cpZ_nat]; exact k
end B20
/-- the text's sign at j is allowed there -/
abbrev ferok (tc : Int → Int) (fb j : Int) : Prop := j < (if fb = 0 then 24 else 6) ∧ ((97 ≤ tc j ∧ tc j ≤ 104) ∨ (fb = 0 ∧ (tc j = 46 ∨ tc j = 63)))
/-- the error position -/
noncomputable def ferr (tl : Int) (tc : Int → Int) (fb : Int) : Int := if tl = 0 then 0 else if fst (fun j => ¬ ferok tc fb j) tl < tl then fst (fun j => ¬ ferok tc fb j) tl else -1
theorem ferr_0 {tl : Int} {tc : Int → Int} {fb : Int} (h : tl = 0) : 0 = ferr tl tc fb := by unfold ferr; rw [if_pos h]
theorem ferr_hit {tl : Int} {tc : Int → Int} {fb k : Int} (h0 : 0 ≤ k) (hk : k < tl) (hp : ¬ ferok tc fb k) (hno : ∀ j, 0 ≤ j → j < k → ferok tc fb j) : k = ferr tl tc fb := by
  have e : fst (fun j => ¬ ferok tc fb j) tl = k := fst_eq h0 (by omega) (fun j a b h => h (hno j a b)) (fun _ => hp)
  unfold ferr; rw [if_neg (by omega), e, if_pos hk]
theorem ferr_miss {tl : Int} {tc : Int → Int} {fb : Int} (h0 : 0 < tl) (hno : ∀ j, 0 ≤ j → j < tl → ferok tc fb j) : -1 = ferr tl tc fb := by
  have e : fst (fun j => ¬ ferok tc fb j) tl = tl := fst_eq (by omega) (Int.le_refl _) (fun j a b h => h (hno j a b)) (fun h => absurd h (Int.lt_irrefl _))
  unfold ferr; rw [if_neg (by omega), e, if_neg (Int.lt_irrefl _)]
theorem ferr_ok {tl : Int} {tc : Int → Int} {fb : Int} (h0 : 0 ≤ tl) (h : ferr tl tc fb = -1) : 1 ≤ tl ∧ ∀ j, 0 ≤ j → j < tl → ferok tc fb j := by
  by_cases hz : tl = 0
  · rw [← ferr_0 hz] at h; omega
  · refine ⟨by omega, fun j a b => Classical.byContradiction fun hc => ?_⟩
    have hr := fst_rng (fun j => ¬ ferok tc fb j) (n := tl) h0
    by_cases h2 : fst (fun j => ¬ ferok tc fb j) tl < tl
    · unfold ferr at h; rw [if_neg hz, if_pos h2] at h; omega
    · exact fst_no (fun j => ¬ ferok tc fb j) a (by omega : j < fst (fun j => ¬ ferok tc fb j) tl) hc
/-- a row's content counts below its length alone -/
theorem va_at_row {D : va_G} {cl : List vw_C} {a : Nat} {cA : ClassId} {n : Nat} {f g : Int → Int} {H : Heap} (h : ∀ j : Int, 0 ≤ j → j < n → f j = g j) (hP : va_at D cl (a, .inl (cA, n, .inl (iA f))) H) : va_at D cl (a, .inl (cA, n, .inl (iA g))) H := by
  have e : vp_cell cA (n, .inl (iA f)) = vp_cell cA (n, .inl (iA g)) := by
    rw [vp_cell_i, vp_cell_i]
    unfold arrV
    congr 1
    apply Array.ext
    · simp
    · intro i h1 h2
      simp only [Array.getElem_ofFn]
      have hi : i < n := by simpa using h1
      show Value.int (iI (f (i : Int))) = Value.int (iI (g (i : Int)))
      rw [h (i : Int) (by omega) (by omega)]
  show H[a]? = some (vp_cell cA (n, .inl (iA g)))
  rw [← e]
  exact hP
theorem va_P_row {D : va_G} {cl : List vw_C} {ws : va_W} {q1 a : Nat} {cA : ClassId} {n : Nat} {f g : Int → Int} {H : Heap} (h : ∀ j : Int, 0 ≤ j → j < n → f j = g j) (hP : va_P D cl (ws.set q1 (a, .inl (cA, n, .inl (iA f)))) H) : va_P D cl (ws.set q1 (a, .inl (cA, n, .inl (iA g)))) H := by
  intro k q hk
  have h1 := hP k
  rw [List.getElem?_set] at hk h1
  by_cases hq : q1 = k
  · rw [if_pos hq] at hk h1
    by_cases hl : k < ws.length
    · rw [if_pos (by omega)] at hk h1
      cases hk
      exact va_at_row h (h1 _ rfl)
    · rw [if_neg (by omega)] at hk
      cases hk
  · rw [if_neg hq] at hk h1
    exact h1 q hk
theorem va_D_row {A : Nat → Prop} {ws : va_W} {q1 a : Nat} {x y : va_E} (hD : va_D A (ws.set q1 (a, x))) : va_D A (ws.set q1 (a, y)) := by
  refine hD.like ?_
  rw [List.map_set, List.map_set]
theorem cpZ_full {f g : Int → Int} {n : Int} (j : Int) (h0 : 0 ≤ j) (h : j < n) : cpZ f g 0 0 n j = f j := by
  rw [cpZ_in h0 (by omega), show 0 + (j - 0) = j by omega]
theorem updZ_same {g : Int → Int} {i v : Int} (h : g i = v) : g = updZ g i v := by
  funext x; unfold updZ; by_cases hx : x = i
  · rw [if_pos hx, hx, h]
  · rw [if_neg hx]
theorem wear_b {g q : Int → Int} {i : Int} (hg : g i = sc (q i)) (hq : 0 ≤ q i ∧ q i ≤ 9) (h : ¬ (97 ≤ sc (q i) ∧ sc (q i) ≤ 104)) : g = updZ g i (sc (if q i = 0 then 0 else 9)) := by
  refine updZ_same ?_
  rw [hg]
  by_cases h0 : q i = 0
  · rw [if_pos h0, h0]
  · rw [if_neg h0]
    by_cases h9 : q i = 9
    · rw [h9]
    · exact absurd (by unfold sc; rw [if_neg h0, if_neg h9]; omega) h
theorem wear_a {g q : Int → Int} {i : Int} (hq : 0 ≤ q i ∧ q i ≤ 9) (h : 97 ≤ sc (q i) ∧ sc (q i) ≤ 104) : updZ g i 63 = updZ g i (sc (if q i = 0 then 0 else 9)) := by
  have h0 : ¬ q i = 0 := fun h0 => by rw [h0] at h; exact absurd h (by decide)
  rw [if_neg h0]; rfl
def psN (n p d q : Int) : Nat → Int
  | 0 => p
  | m + 1 => off n (psN n p d q m) d (1 * q)
/-- the place behind t steps -/
def ps (n p d q t : Int) : Int := psN n p d q t.toNat
theorem ps_s (n p d q : Int) {t : Int} (h : 0 ≤ t) : off n (ps n p d q t) d (1 * q) = ps n p d q (t + 1) := by
  obtain ⟨m, rfl⟩ := Int.eq_ofNat_of_zero_le h
  rfl
theorem ps_rng {n p d q t : Int} (hp : 0 ≤ p ∧ p < n) : 0 ≤ ps n p d q t ∧ ps n p d q t < n := by
  unfold ps
  cases t.toNat with
  | zero => exact hp
  | succ m => exact off_rng (by omega) _ _ _
def seN (n p d q i e : Int) : Nat → Int
  | 0 => e
  | m + 1 => bor (seN n p d q i e m) (vw n (psN n p d q (m + 1)) d i)
/-- what has been seen behind t steps -/
def se (n p d q i e t : Int) : Int := seN n p d q i e t.toNat
theorem se_s (n p d q i e : Int) {t : Int} (h : 0 ≤ t) : bor (se n p d q i e t) (vw n (off n (ps n p d q t) d (1 * q)) d i) = se n p d q i e (t + 1) := by
  obtain ⟨m, rfl⟩ := Int.eq_ofNat_of_zero_le h
  rfl
theorem se_lt {n p d q i e t : Int} (hn : 0 < n) (hi : 0 ≤ i) (he : 0 ≤ e ∧ e < p2 n) : 0 ≤ se n p d q i e t ∧ se n p d q i e t < p2 n := by
  unfold se
  induction t.toNat with
  | zero => exact he
  | succ m ih => exact bor_lt ih (vw_lt hn hi)
theorem ps_WK {n p d q i e t : Int} (h : WK n p d q i e) : WK n (ps n p d q t) d q i (se n p d q i e t) := by
  obtain ⟨v1, v2, v3, v4, v5⟩ := h
  exact ⟨ps_rng v1, v2, v3, v4, se_lt (by omega) (by omega) v5⟩
/-- how many steps walker i of wc has gone, when k are gone by all and one more by those below j -/
def stp (wc j k i : Int) : Int := if i < wc then (if i < j then k + 1 else k) else 0
theorem stp_rng {wc j k i : Int} (hk : 0 ≤ k) : 0 ≤ stp wc j k i := by unfold stp; split <;> (try split) <;> omega
theorem stp_y {wc j j2 k : Int} (h : j < wc) (hj : j2 = j + 1) : stp wc j k j + 1 = stp wc j2 k j := by unfold stp; rw [if_pos h, if_pos h, if_neg (by omega), if_pos (by omega)]
theorem stp_n {wc j j2 k i : Int} (h : j < wc) (hj : j2 = j + 1) (hi : ¬ i = j) : stp wc j k i = stp wc j2 k i := by
  unfold stp; split
  · split <;> split <;> omega
  · rfl
theorem stp_end {wc j k i : Int} (h : wc ≤ j) (hi : 0 ≤ i) : stp wc j k i = stp wc 0 (k + 1) i := by
  unfold stp; split
  · split <;> split <;> omega
  · rfl
theorem stp_0 (wc i : Int) (h : 0 ≤ i) : stp wc 0 0 i = 0 := by unfold stp; split <;> (try split) <;> omega
theorem ps_0 (n p d q : Int) {t : Int} (h : t = 0) : ps n p d q t = p := by rw [h]; rfl
theorem se_0 (n p d q i e : Int) {t : Int} (h : t = 0) : se n p d q i e t = e := by rw [h]; rfl
theorem ps_y {n p d q wc j j2 k : Int} (h : j < wc) (hj : j2 = j + 1) (hk : 0 ≤ k) : off n (ps n p d q (stp wc j k j)) d (1 * q) = ps n p d q (stp wc j2 k j) := by rw [ps_s n p d q (stp_rng hk), stp_y h hj]
theorem se_y {n p d q i e wc j j2 k : Int} (h : j < wc) (hj : j2 = j + 1) (hk : 0 ≤ k) : bor (se n p d q i e (stp wc j k j)) (vw n (off n (ps n p d q (stp wc j k j)) d (1 * q)) d i) = se n p d q i e (stp wc j2 k j) := by rw [se_s n p d q i e (stp_rng hk), stp_y h hj]
theorem cpZ_0 (f g : Int → Int) (sp dp : Int) : cpZ f g sp dp 0 = g := by funext x; exact cpZ_out (by omega)
theorem cpZ_s {f g : Int → Int} {sp dp k : Int} (h : 0 ≤ k) : updZ (cpZ f g sp dp k) (dp + k) (f (sp + k)) = cpZ f g sp dp (k + 1) := by
  funext x; unfold updZ cpZ
  by_cases hx : x = dp + k
  · rw [if_pos hx, if_pos (by omega), hx, show sp + (dp + k - dp) = sp + k by omega]
  · rw [if_neg hx]
    by_cases h2 : dp ≤ x ∧ x < dp + k
    · rw [if_pos h2, if_pos (by omega)]
    · rw [if_neg h2, if_neg (by omega)]
theorem updZ_ext {a b : Int → Int} {k v : Int} (h : ∀ j, ¬ j = k → b j = a j) (hv : b k = v) : b = updZ a k v := by
  funext x; unfold updZ
  by_cases hx : x = k
  · rw [if_pos hx, hx, hv]
  · rw [if_neg hx, h x hx]
theorem bor_0 {e : Int} (h : 0 ≤ e) : bor e 0 = e := by
  unfold bor
  rw [show (0 : Int).toNat = 0 from rfl, Nat.or_zero]; omega
def zrZ (a : Int → Int) (lo hi : Int) : Int → Int := fun x => if lo ≤ x ∧ x < hi then 0 else a x
theorem zrZ_0 (a : Int → Int) (lo : Int) : zrZ a lo lo = a := by funext x; unfold zrZ; rw [if_neg (by omega)]
theorem zrZ_s {a : Int → Int} {lo k : Int} (h : lo ≤ k) : updZ (zrZ a lo k) k 0 = zrZ a lo (k + 1) := by
  funext x; unfold updZ zrZ
  by_cases hx : x = k
  · rw [if_pos hx, if_pos (by omega)]
  · rw [if_neg hx]
    by_cases h2 : lo ≤ x ∧ x < k
    · rw [if_pos h2, if_pos (by omega)]
    · rw [if_neg h2, if_neg (by omega)]
section B20c
variable {p : Program} {l : Launch} {e : Env} {R : Room} {s : State} {m : MethodId} {args : Array Value} {below : List Frame} {meth : Method} {c : Code} {H : Heap} {locs : List Loc} {cells slots : Nat} {Q : State → Prop}
variable {cc : ByteArray} {pc : Nat} {ls : Array Slot} {rest : List Value} {nL : Nat} {own : String}
theorem rr_i2c (F : FX p m c cc nL s args own) {z : Int} (hdg : decode cc pc = .ok (.i2c, 1)) (h : 0 ≤ z ∧ z < 65536) (k : W p l e R s m args below meth c H locs cells slots Q (F0 m (pc + 1) ls (vI z :: rest))) : W p l e R s m args below meth c H locs cells slots Q (F0 m pc ls (vI z :: rest)) := by
  refine lv_i2c (v := iI z) F.1 F.2.1 hdg ?_ k
  obtain ⟨q, rfl⟩ := Int.eq_ofNat_of_zero_le h.1
  rw [← iI_nat, pk_char, pk_tn (by omega), Nat.mod_eq_of_lt (by omega)]
end B20c
