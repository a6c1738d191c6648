-- acts on the reference's row
section B24g
variable {p : Program} {l : Launch} {e : Env} {R : Room} {s : State} {m : MethodId} {args : Array Value} {below : List Frame} {meth : Method} {c : Code} {H : Heap} {locs : List Loc} {cells slots : Nat} {Q : State → Prop}
variable {cc : ByteArray} {pc : Nat} {ls : Array Slot} {rest : List Value} {nL : Nat} {own : String}
/-- the upper 31 bits of a long -/
def u33 (z : Int) : Int := (((lI z).toUInt64 >>> 33).toNat : Int)
theorem u33_rng (z : Int) : 0 ≤ u33 z ∧ u33 z < 2147483648 := by
  unfold u33
  have h : ((lI z).toUInt64 >>> 33).toNat = (lI z).toUInt64.toNat >>> 33 := by rw [UInt64.toNat_shiftRight]; rfl
  have h2 := (lI z).toUInt64.toNat_lt
  rw [h, Nat.shiftRight_eq_div_pow]
  omega
theorem rr_lushr33 (F : FX p m c cc nL s args own) {z : Int} (hdg : decode cc pc = .ok (.lushr, 1)) (k : W p l e R s m args below meth c H locs cells slots Q (F0 m (pc + 1) ls (.long (lI (u33 z)) :: rest))) : W p l e R s m args below meth c H locs cells slots Q (F0 m pc ls (vI 33 :: .long (lI z) :: rest)) :=
  lv_lushr F.1 F.2.1 hdg (by
    rw [show ((iI 33).toInt64.toUInt64 &&& Int64.toUInt64 63) = (33 : UInt64) by decide]
    unfold u33 lI
    apply Int64.toBitVec_inj.mp
    show ((Int64.ofInt z).toUInt64 >>> 33).toBitVec = BitVec.ofInt 64 _
    rw [BitVec.ofInt_natCast]
    exact (BitVec.ofNat_toNat 64 _).symm ▸ (by simp)) k
end B24g
theorem MR_cut {a b : Int → Int} (hM : MR a) (h0 : 0 ≤ b 0 ∧ b 0 ≤ 24) (hs : ∀ j, 0 ≤ j → j < b 0 → 0 ≤ b (1 + j) ∧ b (1 + j) ≤ 9) (h1 : ∀ j, 25 ≤ j → j < 96 → b j = a j) (h2 : b 96 = 0) : MR b := by
  have hn := hM.nw
  unfold MR
  rw [h1 25 (by omega) (by omega), h2]
  refine ⟨h0, hs, hM.nw, fun w x y => ?_, by omega, fun w x y => by omega⟩
  have hb := hM.b x y
  rw [h1 (26 + 7 * w) (by omega) (by omega)]
  refine ⟨hb.1, fun i u v => ?_⟩
  rw [h1 (26 + 7 * w + 1 + i) (by omega) (by omega)]; exact hb.2 i u v
theorem MR_ins {a : Int → Int} (hM : MR a) {i c : Int} (hn : a 0 < 24) (hi : 0 ≤ i ∧ i ≤ a 0) (hc : 0 ≤ c ∧ c ≤ 9) : MR (zrZ (updZ (updZ (insZ a (1 + a 0) (1 + i)) (1 + i) c) 0 (a 0 + 1)) 96 117) := by
  have hn0 := hM.n
  have e0 : (zrZ (updZ (updZ (insZ a (1 + a 0) (1 + i)) (1 + i) c) 0 (a 0 + 1)) 96 117) 0 = a 0 + 1 := by unfold zrZ; rw [if_neg (by omega), updZ_s]
  refine MR_cut hM (by rw [e0]; omega) (fun j x y => ?_) (fun j x y => ?_) (by unfold zrZ; rw [if_pos (by omega)])
  · rw [e0] at y
    unfold zrZ; rw [if_neg (by omega), updZ_n (by omega)]
    by_cases hj : 1 + j = 1 + i
    · rw [hj, updZ_s]; exact hc
    · rw [updZ_n hj]; unfold insZ
      by_cases h2 : 1 + i < 1 + j ∧ 1 + j ≤ 1 + a 0
      · rw [if_pos h2, show 1 + j - 1 = 1 + (j - 1) by omega]; exact hM.q (by omega) (by omega)
      · rw [if_neg h2]; exact hM.q x (by omega)
  · unfold zrZ; rw [if_neg (by omega), updZ_n (by omega), updZ_n (by omega)]; unfold insZ; rw [if_neg (by omega)]
theorem MR_del {a : Int → Int} (hM : MR a) {i : Int} (hi : 0 ≤ i ∧ i < a 0) : MR (zrZ (updZ (delZ (updZ a 0 (a 0 - 1)) (1 + i) (1 + (a 0 - 1))) (1 + (a 0 - 1)) 0) 96 117) := by
  have hn0 := hM.n
  have e0 : (zrZ (updZ (delZ (updZ a 0 (a 0 - 1)) (1 + i) (1 + (a 0 - 1))) (1 + (a 0 - 1)) 0) 96 117) 0 = a 0 - 1 := by unfold zrZ; rw [if_neg (by omega), updZ_n (by omega)]; unfold delZ; rw [if_neg (by omega), updZ_s]
  refine MR_cut hM (by rw [e0]; omega) (fun j x y => ?_) (fun j x y => ?_) (by unfold zrZ; rw [if_pos (by omega)])
  · rw [e0] at y
    unfold zrZ; rw [if_neg (by omega), updZ_n (by omega)]; unfold delZ
    by_cases h2 : 1 + i ≤ 1 + j ∧ 1 + j < 1 + (a 0 - 1)
    · rw [if_pos h2, updZ_n (by omega), show 1 + j + 1 = 1 + (j + 1) by omega]; exact hM.q (by omega) (by omega)
    · rw [if_neg h2, updZ_n (by omega)]; exact hM.q x (by omega)
  · unfold zrZ; rw [if_neg (by omega), updZ_n (by omega)]; unfold delZ; rw [if_neg (by omega), updZ_n (by omega)]
/-- the acts of a script, as rows -/
def okA (a : Int → Int) (kd i c : Int) : Prop := (kd = 1 ∧ (0 ≤ i ∧ i < a 0) ∧ 0 ≤ c ∧ c ≤ 8) ∨ (kd = 2 ∧ (0 ≤ i ∧ i < a 0) ∧ c = 0) ∨ (kd = 3 ∧ (0 ≤ i ∧ i ≤ a 0) ∧ (0 ≤ c ∧ c ≤ 8) ∧ a 0 < 24) ∨ (kd = 4 ∧ (0 ≤ i ∧ i < a 0) ∧ c = 0)
def actR (a : Int → Int) (kd i c : Int) : Int → Int := if kd = 1 then updZ a (1 + i) c else if kd = 2 then updZ a (1 + i) (if a (1 + i) = 0 then 0 else 9) else if kd = 3 then zrZ (updZ (updZ (insZ a (1 + a 0) (1 + i)) (1 + i) c) 0 (a 0 + 1)) 96 117 else zrZ (updZ (delZ (updZ a 0 (a 0 - 1)) (1 + i) (1 + (a 0 - 1))) (1 + (a 0 - 1)) 0) 96 117
noncomputable def tryR (a : Int → Int) (kd i c : Int) : Int → Int := if pB (okA a kd i c) = true then actR a kd i c else a
theorem tryR_y {a : Int → Int} {kd i c : Int} (h : okA a kd i c) : tryR a kd i c = actR a kd i c := by unfold tryR; rw [if_pos (pB_t h)]
theorem tryR_n {a : Int → Int} {kd i c : Int} (h : ¬ okA a kd i c) : tryR a kd i c = a := by unfold tryR; rw [pB_f h]; rfl
theorem tryR_MR {a : Int → Int} (hM : MR a) {kd i c : Int} : MR (tryR a kd i c) := by
  by_cases h : okA a kd i c
  · rw [tryR_y h]; unfold okA at h; unfold actR
    split
    · exact MR_carve hM (by omega) (by omega) (by omega)
    · split
      · exact MR_wear hM (by omega) (by omega)
      · split
        · exact MR_ins hM (by omega) (by omega) (by omega)
        · exact MR_del hM (by omega)
  · rw [tryR_n h]; exact hM
