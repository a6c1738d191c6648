-- Integer.bitCount over numbers below 2^24
theorem pc_and {b m y M : Nat} (hb : b < 256) (hm : m < 256) : (b + 256 * y) &&& (m + 256 * M) = (b &&& m) + 256 * (y &&& M) := by
  have h1 : ((b + 256 * y) &&& (m + 256 * M)) % 2 ^ 8 = (b &&& m) % 2 ^ 8 := by
    rw [Nat.and_mod_two_pow, Nat.and_mod_two_pow, show (b + 256 * y) % 2 ^ 8 = b % 2 ^ 8 by omega, show (m + 256 * M) % 2 ^ 8 = m % 2 ^ 8 by omega]
  have h2 : ((b + 256 * y) &&& (m + 256 * M)) / 2 ^ 8 = y &&& M := by
    rw [Nat.and_div_two_pow, show (b + 256 * y) / 2 ^ 8 = y by omega, show (m + 256 * M) / 2 ^ 8 = M by omega]
  have h3 : b &&& m ≤ b := Nat.and_le_left
  omega
theorem pc_and3 {a b c m : Nat} (ha : a < 256) (hb : b < 256) (hm : m < 256) : (a + 256 * b + 65536 * c) &&& (m + 256 * m + 65536 * (m + 256 * m)) = (a &&& m) + 256 * (b &&& m) + 65536 * (c &&& (m + 256 * m)) := by
  rw [show a + 256 * b + 65536 * c = a + 256 * (b + 256 * c) by omega, show m + 256 * m + 65536 * (m + 256 * m) = m + 256 * (m + 256 * (m + 256 * m)) by omega, pc_and ha hm, pc_and hb hm]
  omega
theorem pc_lo {c m : Nat} (hc : c < 256) (hm : m < 256) : c &&& (m + 256 * m) = c &&& m := by
  have h := pc_and (b := c) (m := m) (y := 0) (M := m) hc hm
  rw [Nat.zero_and] at h
  simpa using h
theorem pc_1 : ∀ b, b < 256 → ∀ c, c < 2 → (b / 2 + 128 * c) &&& 0x55 = (b / 2) &&& 0x55 ∧ (b / 2) &&& 0x55 ≤ b := by decide +kernel
theorem pc_2 : ∀ b, b < 256 → ∀ c, c < 4 → (b / 4 + 64 * c) &&& 0x33 = (b / 4) &&& 0x33 := by decide +kernel
def pc_g (b : Nat) : Nat := b - ((b / 2) &&& 0x55)
def pc_h (b : Nat) : Nat := (pc_g b &&& 0x33) + ((pc_g b / 4) &&& 0x33)
def pc_p (b : Nat) : Nat := b % 2 + b / 2 % 2 + b / 4 % 2 + b / 8 % 2 + b / 16 % 2 + b / 32 % 2 + b / 64 % 2 + b / 128 % 2
theorem pc_3 : ∀ b, b < 256 → pc_g b < 256 ∧ pc_h b ≤ 0x44 ∧ pc_h b % 16 ≤ 4 ∧ pc_p b ≤ 8 := by decide +kernel
theorem pc_4 : ∀ b, b < 256 → ∀ c, c < 5 → (pc_h b + pc_h b / 16 + 16 * c) &&& 0x0f = pc_p b := by decide +kernel
theorem pc_all {a b c : Nat} (ha : a < 256) (hb : b < 256) (hc : c < 256) {x i1 i2 i3 : Nat} (hx : x = a + 256 * b + 65536 * c) (h1 : i1 = x - ((x / 2) &&& 1431655765)) (h2 : i2 = (i1 &&& 858993459) + ((i1 / 4) &&& 858993459)) (h3 : i3 = (i2 + i2 / 16) &&& 252645135) :
    ((x / 2) &&& 1431655765) ≤ x ∧ i1 < 16777216 ∧ i2 < 16777216 ∧ i3 = pc_p a + 256 * pc_p b + 65536 * pc_p c := by
  have e1 : (x / 2) &&& 1431655765 = ((a / 2) &&& 0x55) + 256 * ((b / 2) &&& 0x55) + 65536 * ((c / 2) &&& 0x55) := by
    have := pc_and3 (a := a / 2 + 128 * (b % 2)) (b := b / 2 + 128 * (c % 2)) (c := c / 2) (m := 0x55) (by omega) (by omega) (by decide)
    rw [show x / 2 = (a / 2 + 128 * (b % 2)) + 256 * (b / 2 + 128 * (c % 2)) + 65536 * (c / 2) by omega]
    rw [show (1431655765 : Nat) = 0x55 + 256 * 0x55 + 65536 * (0x55 + 256 * 0x55) by decide, this, (pc_1 a ha _ (by omega)).1, (pc_1 b hb _ (by omega)).1, pc_lo (by omega) (by decide)]
  have l1 := (pc_1 a ha 0 (by omega)).2
  have l2 := (pc_1 b hb 0 (by omega)).2
  have l3 := (pc_1 c hc 0 (by omega)).2
  have f1 : i1 = pc_g a + 256 * pc_g b + 65536 * pc_g c := by rw [h1, e1, hx]; unfold pc_g; omega
  have ga := pc_3 a ha
  have gb := pc_3 b hb
  have gc := pc_3 c hc
  have e2 : i1 &&& 858993459 = (pc_g a &&& 0x33) + 256 * (pc_g b &&& 0x33) + 65536 * (pc_g c &&& 0x33) := by
    rw [f1, show (858993459 : Nat) = 0x33 + 256 * 0x33 + 65536 * (0x33 + 256 * 0x33) by decide, pc_and3 ga.1 gb.1 (by decide), pc_lo gc.1 (by decide)]
  have e3 : (i1 / 4) &&& 858993459 = ((pc_g a / 4) &&& 0x33) + 256 * ((pc_g b / 4) &&& 0x33) + 65536 * ((pc_g c / 4) &&& 0x33) := by
    have := pc_and3 (a := pc_g a / 4 + 64 * (pc_g b % 4)) (b := pc_g b / 4 + 64 * (pc_g c % 4)) (c := pc_g c / 4) (m := 0x33) (by omega) (by omega) (by decide)
    rw [show i1 / 4 = (pc_g a / 4 + 64 * (pc_g b % 4)) + 256 * (pc_g b / 4 + 64 * (pc_g c % 4)) + 65536 * (pc_g c / 4) by omega]
    rw [show (858993459 : Nat) = 0x33 + 256 * 0x33 + 65536 * (0x33 + 256 * 0x33) by decide, this, pc_2 _ ga.1 _ (by omega), pc_2 _ gb.1 _ (by omega), pc_lo (by omega) (by decide)]
  have f2 : i2 = pc_h a + 256 * pc_h b + 65536 * pc_h c := by rw [h2, e2, e3]; unfold pc_h; omega
  have e4 : (i2 + i2 / 16) &&& 252645135 = pc_p a + 256 * pc_p b + 65536 * pc_p c := by
    have := pc_and3 (a := pc_h a + pc_h a / 16 + 16 * (pc_h b % 16)) (b := pc_h b + pc_h b / 16 + 16 * (pc_h c % 16)) (c := pc_h c + pc_h c / 16 + 16 * 0) (m := 0x0f) (by omega) (by omega) (by decide)
    rw [show i2 + i2 / 16 = (pc_h a + pc_h a / 16 + 16 * (pc_h b % 16)) + 256 * (pc_h b + pc_h b / 16 + 16 * (pc_h c % 16)) + 65536 * (pc_h c + pc_h c / 16 + 16 * 0) by omega]
    rw [show (252645135 : Nat) = 0x0f + 256 * 0x0f + 65536 * (0x0f + 256 * 0x0f) by decide, this, pc_4 a ha _ (by omega), pc_4 b hb _ (by omega), pc_lo (by omega) (by decide), pc_4 c hc _ (by omega)]
  exact ⟨by rw [e1, hx]; omega, by omega, by omega, by rw [h3, e4]⟩
theorem bit_mod {a : Int} (j : Nat) : b2i (pB (bit a j)) = ((a.toNat / 2 ^ j % 2 : Nat) : Int) := by
  have hb : a.toNat.testBit j = decide (a.toNat / 2 ^ j % 2 = 1) := Nat.testBit_eq_decide_div_mod_eq
  rcases Nat.mod_two_eq_zero_or_one (a.toNat / 2 ^ j) with h | h
  · rw [pB_f (by unfold bit; rw [Int.toNat_natCast, hb, h]; decide), h]; rfl
  · rw [pB_t (by unfold bit; rw [Int.toNat_natCast, hb, h]; decide), h]; rfl
theorem pc_dig (y : Nat) : y / 1 % 2 = y % 256 % 2 ∧ y / 2 % 2 = y % 256 / 2 % 2 ∧ y / 4 % 2 = y % 256 / 4 % 2 ∧ y / 8 % 2 = y % 256 / 8 % 2 ∧ y / 16 % 2 = y % 256 / 16 % 2 ∧ y / 32 % 2 = y % 256 / 32 % 2 ∧ y / 64 % 2 = y % 256 / 64 % 2 ∧ y / 128 % 2 = y % 256 / 128 % 2 ∧ y / 256 % 2 = y / 256 % 256 % 2 ∧ y / 512 % 2 = y / 256 % 256 / 2 % 2 ∧ y / 1024 % 2 = y / 256 % 256 / 4 % 2 ∧ y / 2048 % 2 = y / 256 % 256 / 8 % 2 ∧ y / 4096 % 2 = y / 256 % 256 / 16 % 2 ∧ y / 8192 % 2 = y / 256 % 256 / 32 % 2 ∧ y / 16384 % 2 = y / 256 % 256 / 64 % 2 ∧ y / 32768 % 2 = y / 256 % 256 / 128 % 2 ∧ y / 65536 % 2 = y / 65536 % 2 ∧ y / 131072 % 2 = y / 65536 / 2 % 2 ∧ y / 262144 % 2 = y / 65536 / 4 % 2 ∧ y / 524288 % 2 = y / 65536 / 8 % 2 ∧ y / 1048576 % 2 = y / 65536 / 16 % 2 ∧ y / 2097152 % 2 = y / 65536 / 32 % 2 ∧ y / 4194304 % 2 = y / 65536 / 64 % 2 ∧ y / 8388608 % 2 = y / 65536 / 128 % 2 := ⟨by omega, by omega, by omega, by omega, by omega, by omega, by omega, by omega, by omega, by omega, by omega, by omega, by omega, by omega, by omega, by omega, by omega, by omega, by omega, by omega, by omega, by omega, by omega, by omega⟩
theorem pc_cntN (y : Nat) (P : Int → Prop) (e : ∀ j : Nat, cntN P (j + 1) = cntN P j + ((y / 2 ^ j % 2 : Nat) : Int)) : cntN P 24 = ((pc_p (y % 256) + pc_p (y / 256 % 256) + pc_p (y / 65536) : Nat) : Int) := by
  obtain ⟨q0, q1, q2, q3, q4, q5, q6, q7, q8, q9, q10, q11, q12, q13, q14, q15, q16, q17, q18, q19, q20, q21, q22, q23⟩ := pc_dig y
  have e0 : cntN P 0 = 0 := rfl
  have e1 : cntN P 1 = cntN P 0 + ((y % 256 % 2 : Nat) : Int) := (e 0).trans (congrArg (fun z : Nat => cntN P 0 + (z : Int)) q0)
  have e2 : cntN P 2 = cntN P 1 + ((y % 256 / 2 % 2 : Nat) : Int) := (e 1).trans (congrArg (fun z : Nat => cntN P 1 + (z : Int)) q1)
  have e3 : cntN P 3 = cntN P 2 + ((y % 256 / 4 % 2 : Nat) : Int) := (e 2).trans (congrArg (fun z : Nat => cntN P 2 + (z : Int)) q2)
  have e4 : cntN P 4 = cntN P 3 + ((y % 256 / 8 % 2 : Nat) : Int) := (e 3).trans (congrArg (fun z : Nat => cntN P 3 + (z : Int)) q3)
  have e5 : cntN P 5 = cntN P 4 + ((y % 256 / 16 % 2 : Nat) : Int) := (e 4).trans (congrArg (fun z : Nat => cntN P 4 + (z : Int)) q4)
  have e6 : cntN P 6 = cntN P 5 + ((y % 256 / 32 % 2 : Nat) : Int) := (e 5).trans (congrArg (fun z : Nat => cntN P 5 + (z : Int)) q5)
  have e7 : cntN P 7 = cntN P 6 + ((y % 256 / 64 % 2 : Nat) : Int) := (e 6).trans (congrArg (fun z : Nat => cntN P 6 + (z : Int)) q6)
  have e8 : cntN P 8 = cntN P 7 + ((y % 256 / 128 % 2 : Nat) : Int) := (e 7).trans (congrArg (fun z : Nat => cntN P 7 + (z : Int)) q7)
  have e9 : cntN P 9 = cntN P 8 + ((y / 256 % 256 % 2 : Nat) : Int) := (e 8).trans (congrArg (fun z : Nat => cntN P 8 + (z : Int)) q8)
  have e10 : cntN P 10 = cntN P 9 + ((y / 256 % 256 / 2 % 2 : Nat) : Int) := (e 9).trans (congrArg (fun z : Nat => cntN P 9 + (z : Int)) q9)
  have e11 : cntN P 11 = cntN P 10 + ((y / 256 % 256 / 4 % 2 : Nat) : Int) := (e 10).trans (congrArg (fun z : Nat => cntN P 10 + (z : Int)) q10)
  have e12 : cntN P 12 = cntN P 11 + ((y / 256 % 256 / 8 % 2 : Nat) : Int) := (e 11).trans (congrArg (fun z : Nat => cntN P 11 + (z : Int)) q11)
  have e13 : cntN P 13 = cntN P 12 + ((y / 256 % 256 / 16 % 2 : Nat) : Int) := (e 12).trans (congrArg (fun z : Nat => cntN P 12 + (z : Int)) q12)
  have e14 : cntN P 14 = cntN P 13 + ((y / 256 % 256 / 32 % 2 : Nat) : Int) := (e 13).trans (congrArg (fun z : Nat => cntN P 13 + (z : Int)) q13)
  have e15 : cntN P 15 = cntN P 14 + ((y / 256 % 256 / 64 % 2 : Nat) : Int) := (e 14).trans (congrArg (fun z : Nat => cntN P 14 + (z : Int)) q14)
  have e16 : cntN P 16 = cntN P 15 + ((y / 256 % 256 / 128 % 2 : Nat) : Int) := (e 15).trans (congrArg (fun z : Nat => cntN P 15 + (z : Int)) q15)
  have e17 : cntN P 17 = cntN P 16 + ((y / 65536 % 2 : Nat) : Int) := (e 16).trans (congrArg (fun z : Nat => cntN P 16 + (z : Int)) q16)
  have e18 : cntN P 18 = cntN P 17 + ((y / 65536 / 2 % 2 : Nat) : Int) := (e 17).trans (congrArg (fun z : Nat => cntN P 17 + (z : Int)) q17)
  have e19 : cntN P 19 = cntN P 18 + ((y / 65536 / 4 % 2 : Nat) : Int) := (e 18).trans (congrArg (fun z : Nat => cntN P 18 + (z : Int)) q18)
  have e20 : cntN P 20 = cntN P 19 + ((y / 65536 / 8 % 2 : Nat) : Int) := (e 19).trans (congrArg (fun z : Nat => cntN P 19 + (z : Int)) q19)
  have e21 : cntN P 21 = cntN P 20 + ((y / 65536 / 16 % 2 : Nat) : Int) := (e 20).trans (congrArg (fun z : Nat => cntN P 20 + (z : Int)) q20)
  have e22 : cntN P 22 = cntN P 21 + ((y / 65536 / 32 % 2 : Nat) : Int) := (e 21).trans (congrArg (fun z : Nat => cntN P 21 + (z : Int)) q21)
  have e23 : cntN P 23 = cntN P 22 + ((y / 65536 / 64 % 2 : Nat) : Int) := (e 22).trans (congrArg (fun z : Nat => cntN P 22 + (z : Int)) q22)
  have e24 : cntN P 24 = cntN P 23 + ((y / 65536 / 128 % 2 : Nat) : Int) := (e 23).trans (congrArg (fun z : Nat => cntN P 23 + (z : Int)) q23)
  rw [e24, e23, e22, e21, e20, e19, e18, e17, e16, e15, e14, e13, e12, e11, e10, e9, e8, e7, e6, e5, e4, e3, e2, e1, e0]
  unfold pc_p
  simp only [Int.natCast_add, Int.add_assoc, Int.zero_add]
theorem pc_cnt {x : Int} : cnt (bit x) 24 = ((pc_p (x.toNat % 256) + pc_p (x.toNat / 256 % 256) + pc_p (x.toNat / 65536) : Nat) : Int) := pc_cntN x.toNat (bit x) (fun j => by rw [← bit_mod]; rfl)
theorem pc_ushr {n k : Nat} (hn : n < 2 ^ 32) (hk : k < 32) : ((nI n).toUInt32 >>> ((nI k).toUInt32 &&& Int32.toUInt32 31)).toInt32 = nI (n / 2 ^ k) := by
  have key : ∀ k : Nat, k < 32 → (((nI k).toUInt32 &&& Int32.toUInt32 31).toBitVec % 32).toNat = k := by decide +kernel
  exact pk_ushrN hn (nI k) k (key k hk)
theorem nI_and (a b : Nat) : nI a &&& nI b = nI (a &&& b) := by
  apply Int32.toBitVec_inj.1
  show BitVec.ofNat 32 a &&& BitVec.ofNat 32 b = BitVec.ofNat 32 (a &&& b)
  exact BitVec.ofNat_and.symm
theorem pc_sum {a b c i3 i4 i5 : Nat} (ha : a ≤ 8) (hb : b ≤ 8) (hc : c ≤ 8) (h3 : i3 = a + 256 * b + 65536 * c) (h4 : i4 = i3 + i3 / 256) (h5 : i5 = i4 + i4 / 65536) : i5 &&& 63 = a + b + c := by
  have := Nat.and_two_pow_sub_one_eq_mod i5 6
  have q1 : i3 / 256 = b + 256 * c := by omega
  have q2 : i4 / 65536 = c := by omega
  have q3 : i5 % 64 = a + b + c := by omega
  rw [show (63 : Nat) = 2 ^ 6 - 1 from rfl, this]
  exact q3
set_option maxRecDepth 100000 in
set_option maxHeartbeats 4000000 in
theorem c_J6_bitCount_0f7a4 (l : Launch) (D : va_G) (cy : Nat → ClassId) (x : Int) (hx : 0 ≤ x ∧ x < 16777216) : Rd l yJ6_bitCount_0f7a4 cJ6_bitCount_0f7a4 1 (some FieldType.int) 0 [vI x] D cy [] (cnt (bit x) 24) := by
  refine Rd.of RJ6 rfl [(0, vI x)] rfl (by decide +kernel) (Nat.le_of_ble_eq_true rfl) ?_
  intro p e s m args below meth c F hr hlocks hK hP ls hl
  obtain ⟨y, rfl⟩ := Int.eq_ofNat_of_zero_le hx.1
  have hy : y < 16777216 := by omega
  have hl : lv_has ls 1 [(0, .int (nI y))] := by rw [iI_nat]; exact hl
  have A := pc_all (a := y % 256) (b := y / 256 % 256) (c := y / 65536) (by omega) (by omega) (by omega) (x := y) (by omega) rfl rfl rfl
  have pa := (pc_3 (y % 256) (by omega)).2.2.2
  have pb := (pc_3 (y / 256 % 256) (by omega)).2.2.2
  have pp := (pc_3 (y / 65536) (by omega)).2.2.2
  have S := pc_sum pa pb pp rfl rfl rfl
  obtain ⟨a0, a1, a2, a3⟩ := A
  rw [pc_cnt]
  rw [← a3] at S
  have T := F.2.2.2.2
  refine lv_iload_n F.1 F.2.1 dJ6_bitCount_0f7a4_0 rfl (lv_at hl 0 rfl) ?_
  refine lv_iload_n F.1 F.2.1 dJ6_bitCount_0f7a4_1 rfl (lv_at hl 0 rfl) ?_
  refine lv_iconst (v := nI 1) F.1 F.2.1 dJ6_bitCount_0f7a4_2 rfl ?_
  refine lv_iushr F.1 F.2.1 dJ6_bitCount_0f7a4_3 (pc_ushr (by omega) (by decide)) ?_
  refine lv_ldcw F.1 F.2.1 F.2.2.2.1 (T _ tw512) dJ6_bitCount_0f7a4_4 ?_
  refine lv_iand F.1 F.2.1 dJ6_bitCount_0f7a4_7 ?_
  refine ek_v (P := fun z => W p l e _ s m args below meth c _ _ _ _ _ (F0 m 8 ls (z :: [.int (nI y)]))) (congrArg Value.int (nI_and (y / 2 ^ 1) 1431655765)) ?_
  refine lv_isub F.1 F.2.1 dJ6_bitCount_0f7a4_8 ?_
  refine ek_v (P := fun z => W p l e _ s m args below meth c _ _ _ _ _ (F0 m 9 ls (z :: []))) (congrArg Value.int (pk_sub a0)) ?_
  generalize hi1 : y - (y / 2 ^ 1 &&& 1431655765) = i1
  rw [show y - (y / 2 &&& 1431655765) = i1 from hi1] at a1 a2 S
  refine lv_istore_n (lv' := [(0, .int (nI i1))]) F.1 F.2.1 dJ6_bitCount_0f7a4_9 rfl hl (by decide) rfl (fun ls hl => ?_)
  refine lv_iload_n F.1 F.2.1 dJ6_bitCount_0f7a4_10 rfl (lv_at hl 0 rfl) ?_
  refine lv_ldcw F.1 F.2.1 F.2.2.2.1 (T _ tw513) dJ6_bitCount_0f7a4_11 ?_
  refine lv_iand F.1 F.2.1 dJ6_bitCount_0f7a4_14 ?_
  refine ek_v (P := fun z => W p l e _ s m args below meth c _ _ _ _ _ (F0 m 15 ls (z :: []))) (congrArg Value.int (nI_and i1 858993459)) ?_
  refine lv_iload_n F.1 F.2.1 dJ6_bitCount_0f7a4_15 rfl (lv_at hl 0 rfl) ?_
  refine lv_iconst (v := nI 2) F.1 F.2.1 dJ6_bitCount_0f7a4_16 rfl ?_
  refine lv_iushr F.1 F.2.1 dJ6_bitCount_0f7a4_17 (pc_ushr (by omega) (by decide)) ?_
  refine lv_ldcw F.1 F.2.1 F.2.2.2.1 (T _ tw513) dJ6_bitCount_0f7a4_18 ?_
  refine lv_iand F.1 F.2.1 dJ6_bitCount_0f7a4_21 ?_
  refine ek_v (P := fun z => W p l e _ s m args below meth c _ _ _ _ _ (F0 m 22 ls (z :: [.int (nI (i1 &&& 858993459))]))) (congrArg Value.int (nI_and (i1 / 2 ^ 2) 858993459)) ?_
  refine lv_iadd F.1 F.2.1 dJ6_bitCount_0f7a4_22 ?_
  refine ek_v (P := fun z => W p l e _ s m args below meth c _ _ _ _ _ (F0 m 23 ls (z :: []))) (congrArg Value.int (nI_add _ _)) ?_
  generalize hi2 : (i1 &&& 858993459) + (i1 / 2 ^ 2 &&& 858993459) = i2
  rw [show (i1 &&& 858993459) + (i1 / 4 &&& 858993459) = i2 from hi2] at a2 S
  refine lv_istore_n (lv' := [(0, .int (nI i2))]) F.1 F.2.1 dJ6_bitCount_0f7a4_23 rfl hl (by decide) rfl (fun ls hl => ?_)
  refine lv_iload_n F.1 F.2.1 dJ6_bitCount_0f7a4_24 rfl (lv_at hl 0 rfl) ?_
  refine lv_iload_n F.1 F.2.1 dJ6_bitCount_0f7a4_25 rfl (lv_at hl 0 rfl) ?_
  refine lv_iconst (v := nI 4) F.1 F.2.1 dJ6_bitCount_0f7a4_26 rfl ?_
  refine lv_iushr F.1 F.2.1 dJ6_bitCount_0f7a4_27 (pc_ushr (by omega) (by decide)) ?_
  refine lv_iadd F.1 F.2.1 dJ6_bitCount_0f7a4_28 ?_
  refine ek_v (P := fun z => W p l e _ s m args below meth c _ _ _ _ _ (F0 m 29 ls (z :: []))) (congrArg Value.int (nI_add _ _)) ?_
  refine lv_ldcw F.1 F.2.1 F.2.2.2.1 (T _ tw514) dJ6_bitCount_0f7a4_29 ?_
  refine lv_iand F.1 F.2.1 dJ6_bitCount_0f7a4_32 ?_
  refine ek_v (P := fun z => W p l e _ s m args below meth c _ _ _ _ _ (F0 m 33 ls (z :: []))) (congrArg Value.int (nI_and (i2 + i2 / 2 ^ 4) 252645135)) ?_
  generalize hi3 : (i2 + i2 / 2 ^ 4) &&& 252645135 = i3
  rw [show (i2 + i2 / 16) &&& 252645135 = i3 from hi3] at S
  have h3 : i3 ≤ 252645135 := by rw [← hi3]; exact Nat.and_le_right
  refine lv_istore_n (lv' := [(0, .int (nI i3))]) F.1 F.2.1 dJ6_bitCount_0f7a4_33 rfl hl (by decide) rfl (fun ls hl => ?_)
  refine lv_iload_n F.1 F.2.1 dJ6_bitCount_0f7a4_34 rfl (lv_at hl 0 rfl) ?_
  refine lv_iload_n F.1 F.2.1 dJ6_bitCount_0f7a4_35 rfl (lv_at hl 0 rfl) ?_
  refine lv_bipush (v := nI 8) F.1 F.2.1 dJ6_bitCount_0f7a4_36 (by decide) ?_
  refine lv_iushr F.1 F.2.1 dJ6_bitCount_0f7a4_38 (pc_ushr (by omega) (by decide)) ?_
  refine lv_iadd F.1 F.2.1 dJ6_bitCount_0f7a4_39 ?_
  refine ek_v (P := fun z => W p l e _ s m args below meth c _ _ _ _ _ (F0 m 40 ls (z :: []))) (congrArg Value.int (nI_add _ _)) ?_
  refine lv_istore_n (lv' := [(0, .int (nI (i3 + i3 / 2 ^ 8)))]) F.1 F.2.1 dJ6_bitCount_0f7a4_40 rfl hl (by decide) rfl (fun ls hl => ?_)
  refine lv_iload_n F.1 F.2.1 dJ6_bitCount_0f7a4_41 rfl (lv_at hl 0 rfl) ?_
  refine lv_iload_n F.1 F.2.1 dJ6_bitCount_0f7a4_42 rfl (lv_at hl 0 rfl) ?_
  refine lv_bipush (v := nI 16) F.1 F.2.1 dJ6_bitCount_0f7a4_43 (by decide) ?_
  refine lv_iushr F.1 F.2.1 dJ6_bitCount_0f7a4_45 (pc_ushr (by omega) (by decide)) ?_
  refine lv_iadd F.1 F.2.1 dJ6_bitCount_0f7a4_46 ?_
  refine ek_v (P := fun z => W p l e _ s m args below meth c _ _ _ _ _ (F0 m 47 ls (z :: []))) (congrArg Value.int (nI_add _ _)) ?_
  refine lv_istore_n (lv' := [(0, .int (nI (i3 + i3 / 2 ^ 8 + (i3 + i3 / 2 ^ 8) / 2 ^ 16)))]) F.1 F.2.1 dJ6_bitCount_0f7a4_47 rfl hl (by decide) rfl (fun ls hl => ?_)
  refine lv_iload_n F.1 F.2.1 dJ6_bitCount_0f7a4_48 rfl (lv_at hl 0 rfl) ?_
  refine lv_bipush (v := nI 63) F.1 F.2.1 dJ6_bitCount_0f7a4_49 (by decide) ?_
  refine lv_iand F.1 F.2.1 dJ6_bitCount_0f7a4_51 ?_
  refine ek_v (P := fun z => W p l e _ s m args below meth c _ _ _ _ _ (F0 m 52 ls (z :: []))) (show _ = vI ((pc_p (((y : Int)).toNat % 256) + pc_p (((y : Int)).toNat / 256 % 256) + pc_p (((y : Int)).toNat / 65536) : Nat) : Int) from congrArg Value.int (by rw [nI_and, iI_nat]; exact congrArg (fun z : Nat => iI (z : Int)) S)) ?_
  exact rr_iret F hr hlocks dJ6_bitCount_0f7a4_52 rfl
