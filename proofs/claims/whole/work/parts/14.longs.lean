-- longs as integers
def lI (z : Int) : Int64 := Int64.ofInt z
def inL (z : Int) : Prop := -9223372036854775808 ≤ z ∧ z < 9223372036854775808
theorem lI_toInt {z : Int} (h : inL z) : (lI z).toInt = z := Int64.toInt_ofInt_of_le h.1 h.2
theorem lI_of (x : Int64) : lI x.toInt = x := Int64.ofInt_toInt x
theorem inL_of (x : Int64) : inL x.toInt := ⟨Int64.le_toInt x, Int64.toInt_lt x⟩
theorem lI_add (a b : Int) : lI a + lI b = lI (a + b) := (Int64.ofInt_add a b).symm
theorem lI_mul (a b : Int) : lI a * lI b = lI (a * b) := (Int64.ofInt_mul a b).symm
theorem lI_sub (a b : Int) : lI a - lI b = lI (a - b) := (Int64.ofInt_sub a b).symm
theorem lI_i {z : Int} (h : inR z) : (iI z).toInt64 = lI z := by
  have h1 : ((iI z).toInt64).toInt = z := by rw [Int32.toInt_toInt64, iI_toInt h]
  rw [← lI_of ((iI z).toInt64), h1]
theorem lI_i32 (z : Int) : (lI z).toInt32 = iI z := by
  unfold lI iI
  apply Int32.toBitVec_inj.1
  simp
theorem lI_eq {a b : Int} (ha : inL a) (hb : inL b) : lI a = lI b ↔ a = b := ⟨fun h => by rw [← lI_toInt ha, h, lI_toInt hb], fun h => by rw [h]⟩
theorem lI_lt {a b : Int} (ha : inL a) (hb : inL b) : lI a < lI b ↔ a < b := by rw [Int64.lt_iff_toInt_lt, lI_toInt ha, lI_toInt hb]
theorem lI_tdiv {a b : Int} (ha : inL a) (hb : 0 < b) (hb2 : b < 9223372036854775808) : lI a / lI b = lI (a.tdiv b) :=
  (Int64.ofInt_tdiv ha.1 (by have := ha.2; show a ≤ 9223372036854775807; omega) (by show -9223372036854775808 ≤ b; omega) (by show b ≤ 9223372036854775807; omega)).symm
theorem lI_tmod {a b : Int} (ha : inL a) (hb : 0 < b) (hb2 : b < 9223372036854775808) : lI a - lI a / lI b * lI b = lI (a.tmod b) := by
  rw [lI_tdiv ha hb hb2, lI_mul, lI_sub]
  congr 1
  have := Int.tmod_add_mul_tdiv a b
  have h2 := Int.mul_comm b (a.tdiv b)
  omega
def lcm (a b : Int) : Int := if a < b then -1 else if a = b then 0 else 1
theorem lcm_spec (a b : Int) : (lcm a b < 0 ↔ a < b) ∧ (lcm a b = 0 ↔ a = b) ∧ -1 ≤ lcm a b ∧ lcm a b ≤ 1 := by
  unfold lcm; split <;> (try split) <;> omega
theorem lI_cmp {a b : Int} (ha : inL a) (hb : inL b) : lg_cmp (lI a) (lI b) = iI (lcm a b) := by
  unfold lg_cmp lcm
  by_cases h : a < b
  · have h3 : ¬ lI b < lI a := fun q => by have := (lI_lt hb ha).mp q; omega
    have h4 : ¬ lI a = lI b := fun q => by have := (lI_eq ha hb).mp q; omega
    rw [if_neg h3, if_neg h4, if_pos h]; rfl
  · by_cases h2 : a = b
    · simp [h2]; rfl
    · have h3 : ¬ lI a < lI b := fun q => h ((lI_lt ha hb).mp q)
      have h4 : ¬ lI a = lI b := fun q => h2 ((lI_eq ha hb).mp q)
      have h5 : lI b < lI a := (lI_lt hb ha).mpr (by omega)
      simp [h, h2, h3, h4, h5]; rfl
section B14
variable {p : Program} {l : Launch} {e : Env} {R : Room} {s : State} {m : MethodId} {args : Array Value} {below : List Frame} {meth : Method} {c : Code} {H : Heap} {locs : List Loc} {cells slots : Nat} {Q : State → Prop}
variable {cc : ByteArray} {pc : Nat} {ls : Array Slot} {rest : List Value} {nL : Nat} {own : String}
theorem rr_lconst (F : FX p m c cc nL s args own) {n : Fin 2} (z : Int) (hz : Int64.ofNat (n : Nat) = lI z) (hdg : decode cc pc = .ok (.lconst n, 1)) (k : W p l e R s m args below meth c H locs cells slots Q (F0 m (pc + 1) ls (.long (lI z) :: rest))) : W p l e R s m args below meth c H locs cells slots Q (F0 m pc ls rest) := lv_lconst F.1 F.2.1 hdg hz k
theorem rr_i2l (F : FX p m c cc nL s args own) {z : Int} (hdg : decode cc pc = .ok (.i2l, 1)) (h : inR z) (k : W p l e R s m args below meth c H locs cells slots Q (F0 m (pc + 1) ls (.long (lI z) :: rest))) : W p l e R s m args below meth c H locs cells slots Q (F0 m pc ls (vI z :: rest)) := lv_i2l F.1 F.2.1 hdg (lI_i h) k
theorem rr_l2i (F : FX p m c cc nL s args own) {z : Int} (hdg : decode cc pc = .ok (.l2i, 1)) (k : W p l e R s m args below meth c H locs cells slots Q (F0 m (pc + 1) ls (vI z :: rest))) : W p l e R s m args below meth c H locs cells slots Q (F0 m pc ls (.long (lI z) :: rest)) := lv_l2i F.1 F.2.1 hdg (lI_i32 z) k
theorem rr_lmul (F : FX p m c cc nL s args own) {a b z : Int} (hdg : decode cc pc = .ok (.lmul, 1)) (hz : a * b = z) (k : W p l e R s m args below meth c H locs cells slots Q (F0 m (pc + 1) ls (.long (lI z) :: rest))) : W p l e R s m args below meth c H locs cells slots Q (F0 m pc ls (.long (lI b) :: .long (lI a) :: rest)) := lv_lmul F.1 F.2.1 hdg (by rw [lI_mul, hz]; exact k)
theorem rr_ladd (F : FX p m c cc nL s args own) {a b z : Int} (hdg : decode cc pc = .ok (.ladd, 1)) (hz : a + b = z) (k : W p l e R s m args below meth c H locs cells slots Q (F0 m (pc + 1) ls (.long (lI z) :: rest))) : W p l e R s m args below meth c H locs cells slots Q (F0 m pc ls (.long (lI b) :: .long (lI a) :: rest)) := lv_ladd F.1 F.2.1 hdg (by rw [lI_add, hz]; exact k)
theorem rr_ldiv (F : FX p m c cc nL s args own) {a b z : Int} (hdg : decode cc pc = .ok (.ldiv, 1)) (ha : inL a) (hb : 0 < b ∧ b < 9223372036854775808) (hz : a.tdiv b = z) (k : W p l e R s m args below meth c H locs cells slots Q (F0 m (pc + 1) ls (.long (lI z) :: rest))) : W p l e R s m args below meth c H locs cells slots Q (F0 m pc ls (.long (lI b) :: .long (lI a) :: rest)) := lv_ldiv F.1 F.2.1 hdg (by rw [show (0 : Int64) = lI 0 from rfl, lI_eq ⟨by omega, by omega⟩ ⟨by decide, by decide⟩]; omega) (by rw [lI_tdiv ha hb.1 hb.2, hz]; exact k)
theorem rr_lrem (F : FX p m c cc nL s args own) {a b z : Int} (hdg : decode cc pc = .ok (.lrem, 1)) (ha : inL a) (hb : 0 < b ∧ b < 9223372036854775808) (hz : a.tmod b = z) (k : W p l e R s m args below meth c H locs cells slots Q (F0 m (pc + 1) ls (.long (lI z) :: rest))) : W p l e R s m args below meth c H locs cells slots Q (F0 m pc ls (.long (lI b) :: .long (lI a) :: rest)) := lv_lrem F.1 F.2.1 hdg (by rw [show (0 : Int64) = lI 0 from rfl, lI_eq ⟨by omega, by omega⟩ ⟨by decide, by decide⟩]; omega) (by rw [lI_tmod ha hb.1 hb.2, hz]; exact k)
theorem rr_ldc2 (F : FX p m c cc nL s args own) {index : Nat} {v : Int64} (z : Int) (hz : v = lI z) (hl : Cond.constantLong own index v ∈ lw_G) (hdg : decode cc pc = .ok (.ldc2_w index, 3)) (k : W p l e R s m args below meth c H locs cells slots Q (F0 m (pc + 3) ls (.long (lI z) :: rest))) : W p l e R s m args below meth c H locs cells slots Q (F0 m pc ls rest) := lv_ldc2 F.1 F.2.1 F.2.2.2.1 (F.2.2.2.2 _ hl) hdg (by rw [hz]; exact k)
theorem rr_lcmp (F : FX p m c cc nL s args own) {a b : Int} (hdg : decode cc pc = .ok (.lcmp, 1)) (ha : inL a) (hb : inL b) (k : W p l e R s m args below meth c H locs cells slots Q (F0 m (pc + 1) ls (vI (lcm a b) :: rest))) : W p l e R s m args below meth c H locs cells slots Q (F0 m pc ls (.long (lI b) :: .long (lI a) :: rest)) := W.lcmp F.1 F.2.1 hdg (by rw [lI_cmp ha hb]; exact k)
theorem jd_minL : Cond.static Lib.MathLoose.min_long.x ∈ lw_G ∧ Cond.initialized "java/lang/Math" ∈ lw_G ∧ Cond.code Lib.MathLoose.min_long.x Lib.MathLoose.min_long.code 4 (some .long) ∈ lw_G := ⟨tw261, tw15, tw262⟩
theorem jd_maxL : Cond.static Lib.MathLoose.max_long.x ∈ lw_G ∧ Cond.initialized "java/lang/Math" ∈ lw_G ∧ Cond.code Lib.MathLoose.max_long.x Lib.MathLoose.max_long.code 4 (some .long) ∈ lw_G := ⟨tw830, tw15, tw831⟩
theorem rr_lmin (F : FX p m c cc nL s args own) {index : Nat} {lv : List (Nat × Value)} (hls : lv_has ls nL lv) (hl : Cond.methodLink own index Lib.MathLoose.min_long.x ∈ lw_G) (hf : 1 ≤ R.frames) (hlo : (rest.map fun v => v.category).sum + 15 ≤ R.locals) (hc : cells ≤ R.cells ∧ slots ≤ R.slots) {a b z : Int} (ha : inL a) (hb : inL b) (hdg : decode cc pc = .ok (.invokestatic index, 3)) (hz : (if b < a then b else a) = z) (k : W p l e R s m args below meth c H locs cells slots Q (F0 m (pc + 3) ls (.long (lI z) :: rest))) : W p l e R s m args below meth c H locs cells slots Q (F0 m pc ls (.long (lI b) :: .long (lI a) :: rest)) := by
  have ht := F.2.2.2.2
  refine va_mmin_long F.1 F.2.1 (F.2.2.1.trans hls.1.symm) F.2.2.2.1 (ht _ hl) (ht _ jd_minL.1) (ht _ jd_minL.2.1) (ht _ jd_minL.2.2) hf hlo hc.1 hc.2 hdg ?_
  have e : (if lI b < lI a then lI b else lI a) = lI z := by
    rw [← hz]
    by_cases h : b < a
    · rw [if_pos h, if_pos ((lI_lt hb ha).mpr h)]
    · rw [if_neg h, if_neg (fun q => h ((lI_lt hb ha).mp q))]
  rw [e]; exact k
theorem rr_lmax (F : FX p m c cc nL s args own) {index : Nat} {lv : List (Nat × Value)} (hls : lv_has ls nL lv) (hl : Cond.methodLink own index Lib.MathLoose.max_long.x ∈ lw_G) (hf : 1 ≤ R.frames) (hlo : (rest.map fun v => v.category).sum + 15 ≤ R.locals) (hc : cells ≤ R.cells ∧ slots ≤ R.slots) {a b z : Int} (ha : inL a) (hb : inL b) (hdg : decode cc pc = .ok (.invokestatic index, 3)) (hz : (if b < a then a else b) = z) (k : W p l e R s m args below meth c H locs cells slots Q (F0 m (pc + 3) ls (.long (lI z) :: rest))) : W p l e R s m args below meth c H locs cells slots Q (F0 m pc ls (.long (lI b) :: .long (lI a) :: rest)) := by
  have ht := F.2.2.2.2
  refine va_mmax_long F.1 F.2.1 (F.2.2.1.trans hls.1.symm) F.2.2.2.1 (ht _ hl) (ht _ jd_maxL.1) (ht _ jd_maxL.2.1) (ht _ jd_maxL.2.2) hf hlo hc.1 hc.2 hdg ?_
  have e : (if lI b < lI a then lI a else lI b) = lI z := by
    rw [← hz]
    by_cases h : b < a
    · rw [if_pos h, if_pos ((lI_lt hb ha).mpr h)]
    · rw [if_neg h, if_neg (fun q => h ((lI_lt hb ha).mp q))]
  rw [e]; exact k
end B14
