set_option maxRecDepth 100000 in
set_option maxHeartbeats 4000000 in
theorem c_X6_isDirection (l : Launch) (D : va_G) (cy : Nat → ClassId) (d : Int) (hi : inR d) : Rd l yX6_isDirection cX6_isDirection 1 (some FieldType.boolean) 0 [vI d] D cy [] (b2i (pB (d = 0 ∨ d = 1))) := by
  refine Rd.of RX6 rfl [(0, vI d)] rfl (by decide +kernel) (Nat.le_of_ble_eq_true rfl) ?_
  intro p e s m args below meth c F hr hlocks hK hP ls hl
  refine lv_iload_n F.1 F.2.1 dX6_isDirection_0 rfl (lv_at hl 0 rfl) ?_
  refine rr_if_eq F (tgt := 9) dX6_isDirection_1 (by decide) hi (fun c_1 => ?_) (fun c_1 => ?_)
  · refine rr_iconst F dX6_isDirection_9 ?_
    refine lv_goto (tgt := 14) F.1 F.2.1 dX6_isDirection_10 (by decide) ?_
    exact rr_zret F hr hlocks (b := true) dX6_isDirection_14 rfl (b2i_t (by omega))
  · refine lv_iload_n F.1 F.2.1 dX6_isDirection_4 rfl (lv_at hl 0 rfl) ?_
    refine rr_iconst F dX6_isDirection_5 ?_
    refine rr_icmp_ne F (tgt := 13) dX6_isDirection_6 (by decide) hi ⟨by omega, by omega⟩ (fun c_6 => ?_) (fun c_6 => ?_)
    · refine rr_iconst F dX6_isDirection_13 ?_
      exact rr_zret F hr hlocks (b := false) dX6_isDirection_14 rfl (b2i_f (by omega))
    · refine rr_iconst F dX6_isDirection_9 ?_
      refine lv_goto (tgt := 14) F.1 F.2.1 dX6_isDirection_10 (by decide) ?_
      exact rr_zret F hr hlocks (b := true) dX6_isDirection_14 rfl (b2i_t (by omega))
set_option maxRecDepth 100000 in
set_option maxHeartbeats 4000000 in
theorem c_X6_isCarvable (l : Launch) (D : va_G) (cy : Nat → ClassId) (c0 : Int) (hi : inR c0) : Rd l yX6_isCarvable cX6_isCarvable 1 (some FieldType.boolean) 0 [vI c0] D cy [] (b2i (pB (0 ≤ c0 ∧ c0 ≤ 8))) := by
  refine Rd.of RX6 rfl [(0, vI c0)] rfl (by decide +kernel) (Nat.le_of_ble_eq_true rfl) ?_
  intro p e s m args below meth c F hr hlocks hK hP ls hl
  refine lv_iload_n F.1 F.2.1 dX6_isCarvable_0 rfl (lv_at hl 0 rfl) ?_
  refine rr_if_lt F (tgt := 14) dX6_isCarvable_1 (by decide) hi (fun c_1 => ?_) (fun c_1 => ?_)
  · refine rr_iconst F dX6_isCarvable_14 ?_
    exact rr_zret F hr hlocks (b := false) dX6_isCarvable_15 rfl (b2i_f (by omega))
  · refine lv_iload_n F.1 F.2.1 dX6_isCarvable_4 rfl (lv_at hl 0 rfl) ?_
    refine rr_bipush F dX6_isCarvable_5 (by decide) ?_
    refine rr_icmp_gt F (tgt := 14) dX6_isCarvable_7 (by decide) hi ⟨by omega, by omega⟩ (fun c_7 => ?_) (fun c_7 => ?_)
    · refine rr_iconst F dX6_isCarvable_14 ?_
      exact rr_zret F hr hlocks (b := false) dX6_isCarvable_15 rfl (b2i_f (by omega))
    · refine rr_iconst F dX6_isCarvable_10 ?_
      refine lv_goto (tgt := 15) F.1 F.2.1 dX6_isCarvable_11 (by decide) ?_
      exact rr_zret F hr hlocks (b := true) dX6_isCarvable_15 rfl (b2i_t (by omega))
set_option maxRecDepth 100000 in
set_option maxHeartbeats 4000000 in
theorem c_X6_carvedSign (l : Launch) (D : va_G) (cy : Nat → ClassId) (c0 : Int) (hi : 0 ≤ c0 ∧ c0 ≤ 8) : Rd l yX6_carvedSign cX6_carvedSign 1 (some FieldType.char) 0 [vI c0] D cy [] (sc c0) := by
  refine Rd.of RX6 rfl [(0, vI c0)] rfl (by decide +kernel) (Nat.le_of_ble_eq_true rfl) ?_
  intro p e s m args below meth c F hr hlocks hK hP ls hl
  refine lv_iload_n F.1 F.2.1 dX6_carvedSign_0 rfl (lv_at hl 0 rfl) ?_
  refine rr_if_ne F (tgt := 9) dX6_carvedSign_1 (by decide) ⟨by omega, by omega⟩ (fun c_1 => ?_) (fun c_1 => ?_)
  · refine rr_bipush F dX6_carvedSign_9 (by decide) ?_
    refine lv_iload_n F.1 F.2.1 dX6_carvedSign_11 rfl (lv_at hl 0 rfl) ?_
    refine rr_iadd F (z := 97 + c0) dX6_carvedSign_12 (by first | rfl | omega) ?_
    refine rr_iconst F dX6_carvedSign_13 ?_
    refine rr_isub F (z := 96 + c0) dX6_carvedSign_14 (by omega) ?_
    refine rr_i2c F dX6_carvedSign_15 ⟨by omega, by omega⟩ ?_
    exact rr_cret F hr hlocks dX6_carvedSign_16 ⟨by omega, by omega⟩ (by unfold sc; first | rw [if_pos (by assumption)] | (rw [if_neg (by assumption), if_neg (by omega)]))
  · refine rr_bipush F dX6_carvedSign_4 (by decide) ?_
    refine lv_goto (tgt := 16) F.1 F.2.1 dX6_carvedSign_6 (by decide) ?_
    exact rr_cret F hr hlocks dX6_carvedSign_16 ⟨by omega, by omega⟩ (by unfold sc; first | rw [if_pos (by assumption)] | (rw [if_neg (by assumption), if_neg (by omega)]))
set_option maxRecDepth 100000 in
set_option maxHeartbeats 4000000 in
theorem c_X6_isLetter (l : Launch) (D : va_G) (cy : Nat → ClassId) (x : Int) (hi : 0 ≤ x ∧ x < 65536) : Rd l yX6_isLetter cX6_isLetter 1 (some FieldType.boolean) 0 [vI x] D cy [] (b2i (pB (97 ≤ x ∧ x ≤ 104))) := by
  refine Rd.of RX6 rfl [(0, vI x)] rfl (by decide +kernel) (Nat.le_of_ble_eq_true rfl) ?_
  intro p e s m args below meth c F hr hlocks hK hP ls hl
  refine lv_iload_n F.1 F.2.1 dX6_isLetter_0 rfl (lv_at hl 0 rfl) ?_
  refine rr_bipush F dX6_isLetter_1 (by decide) ?_
  refine rr_icmp_lt F (tgt := 16) dX6_isLetter_3 (by decide) ⟨by omega, by omega⟩ ⟨by omega, by omega⟩ (fun c_3 => ?_) (fun c_3 => ?_)
  · refine rr_iconst F dX6_isLetter_16 ?_
    exact rr_zret F hr hlocks (b := false) dX6_isLetter_17 rfl (b2i_f (by omega))
  · refine lv_iload_n F.1 F.2.1 dX6_isLetter_6 rfl (lv_at hl 0 rfl) ?_
    refine rr_bipush F dX6_isLetter_7 (by decide) ?_
    refine rr_icmp_gt F (tgt := 16) dX6_isLetter_9 (by decide) ⟨by omega, by omega⟩ ⟨by omega, by omega⟩ (fun c_9 => ?_) (fun c_9 => ?_)
    · refine rr_iconst F dX6_isLetter_16 ?_
      exact rr_zret F hr hlocks (b := false) dX6_isLetter_17 rfl (b2i_f (by omega))
    · refine rr_iconst F dX6_isLetter_12 ?_
      refine lv_goto (tgt := 17) F.1 F.2.1 dX6_isLetter_13 (by decide) ?_
      exact rr_zret F hr hlocks (b := true) dX6_isLetter_17 rfl (b2i_t (by omega))
set_option maxRecDepth 100000 in
set_option maxHeartbeats 4000000 in
theorem c_X6_isPace (l : Launch) (D : va_G) (cy : Nat → ClassId) (x : Int) (hi : inR x) : Rd l yX6_isPace cX6_isPace 1 (some FieldType.boolean) 0 [vI x] D cy [] (b2i (pB (1 ≤ x ∧ x ≤ 3))) := by
  refine Rd.of RX6 rfl [(0, vI x)] rfl (by decide +kernel) (Nat.le_of_ble_eq_true rfl) ?_
  intro p e s m args below meth c F hr hlocks hK hP ls hl
  refine lv_iload_n F.1 F.2.1 dX6_isPace_0 rfl (lv_at hl 0 rfl) ?_
  refine rr_iconst F dX6_isPace_1 ?_
  refine rr_icmp_lt F (tgt := 14) dX6_isPace_2 (by decide) hi ⟨by omega, by omega⟩ (fun c_2 => ?_) (fun c_2 => ?_)
  · refine rr_iconst F dX6_isPace_14 ?_
    exact rr_zret F hr hlocks (b := false) dX6_isPace_15 rfl (b2i_f (by omega))
  · refine lv_iload_n F.1 F.2.1 dX6_isPace_5 rfl (lv_at hl 0 rfl) ?_
    refine rr_iconst F dX6_isPace_6 ?_
    refine rr_icmp_gt F (tgt := 14) dX6_isPace_7 (by decide) hi ⟨by omega, by omega⟩ (fun c_7 => ?_) (fun c_7 => ?_)
    · refine rr_iconst F dX6_isPace_14 ?_
      exact rr_zret F hr hlocks (b := false) dX6_isPace_15 rfl (b2i_f (by omega))
    · refine rr_iconst F dX6_isPace_10 ?_
      refine lv_goto (tgt := 15) F.1 F.2.1 dX6_isPace_11 (by decide) ?_
      exact rr_zret F hr hlocks (b := true) dX6_isPace_15 rfl (b2i_t (by omega))
set_option maxRecDepth 100000 in
set_option maxHeartbeats 4000000 in
theorem c_X6_isSight (l : Launch) (D : va_G) (cy : Nat → ClassId) (x : Int) (hi : inR x) : Rd l yX6_isSight cX6_isSight 1 (some FieldType.boolean) 0 [vI x] D cy [] (b2i (pB (1 ≤ x ∧ x ≤ 5))) := by
  refine Rd.of RX6 rfl [(0, vI x)] rfl (by decide +kernel) (Nat.le_of_ble_eq_true rfl) ?_
  intro p e s m args below meth c F hr hlocks hK hP ls hl
  refine lv_iload_n F.1 F.2.1 dX6_isSight_0 rfl (lv_at hl 0 rfl) ?_
  refine rr_iconst F dX6_isSight_1 ?_
  refine rr_icmp_lt F (tgt := 14) dX6_isSight_2 (by decide) hi ⟨by omega, by omega⟩ (fun c_2 => ?_) (fun c_2 => ?_)
  · refine rr_iconst F dX6_isSight_14 ?_
    exact rr_zret F hr hlocks (b := false) dX6_isSight_15 rfl (b2i_f (by omega))
  · refine lv_iload_n F.1 F.2.1 dX6_isSight_5 rfl (lv_at hl 0 rfl) ?_
    refine rr_iconst F dX6_isSight_6 ?_
    refine rr_icmp_gt F (tgt := 14) dX6_isSight_7 (by decide) hi ⟨by omega, by omega⟩ (fun c_7 => ?_) (fun c_7 => ?_)
    · refine rr_iconst F dX6_isSight_14 ?_
      exact rr_zret F hr hlocks (b := false) dX6_isSight_15 rfl (b2i_f (by omega))
    · refine rr_iconst F dX6_isSight_10 ?_
      refine lv_goto (tgt := 15) F.1 F.2.1 dX6_isSight_11 (by decide) ?_
      exact rr_zret F hr hlocks (b := true) dX6_isSight_15 rfl (b2i_t (by omega))
set_option maxRecDepth 100000 in
set_option maxHeartbeats 4000000 in
theorem c_X6_isStepCount (l : Launch) (D : va_G) (cy : Nat → ClassId) (x : Int) (hi : inR x) : Rd l yX6_isStepCount cX6_isStepCount 1 (some FieldType.boolean) 0 [vI x] D cy [] (b2i (pB (1 ≤ x ∧ x ≤ 50))) := by
  refine Rd.of RX6 rfl [(0, vI x)] rfl (by decide +kernel) (Nat.le_of_ble_eq_true rfl) ?_
  intro p e s m args below meth c F hr hlocks hK hP ls hl
  refine lv_iload_n F.1 F.2.1 dX6_isStepCount_0 rfl (lv_at hl 0 rfl) ?_
  refine rr_iconst F dX6_isStepCount_1 ?_
  refine rr_icmp_lt F (tgt := 15) dX6_isStepCount_2 (by decide) hi ⟨by omega, by omega⟩ (fun c_2 => ?_) (fun c_2 => ?_)
  · refine rr_iconst F dX6_isStepCount_15 ?_
    exact rr_zret F hr hlocks (b := false) dX6_isStepCount_16 rfl (b2i_f (by omega))
  · refine lv_iload_n F.1 F.2.1 dX6_isStepCount_5 rfl (lv_at hl 0 rfl) ?_
    refine rr_bipush F dX6_isStepCount_6 (by decide) ?_
    refine rr_icmp_gt F (tgt := 15) dX6_isStepCount_8 (by decide) hi ⟨by omega, by omega⟩ (fun c_8 => ?_) (fun c_8 => ?_)
    · refine rr_iconst F dX6_isStepCount_15 ?_
      exact rr_zret F hr hlocks (b := false) dX6_isStepCount_16 rfl (b2i_f (by omega))
    · refine rr_iconst F dX6_isStepCount_11 ?_
      refine lv_goto (tgt := 16) F.1 F.2.1 dX6_isStepCount_12 (by decide) ?_
      exact rr_zret F hr hlocks (b := true) dX6_isStepCount_16 rfl (b2i_t (by omega))
set_option maxRecDepth 100000 in
set_option maxHeartbeats 4000000 in
theorem c_X4_isAllowed (l : Launch) (D : va_G) (cy : Nat → ClassId) (x fb : Int) (hx : 0 ≤ x ∧ x < 65536) (hf : fb = 0 ∨ fb = 1) : Rd l yX4_isAllowed cX4_isAllowed 2 (some FieldType.boolean) 1 [vI x, vI fb] D cy [] (b2i (pB ((97 ≤ x ∧ x ≤ 104) ∨ (fb = 0 ∧ (x = 46 ∨ x = 63))))) := by
  refine Rd.of RX4 rfl [(0, vI x), (1, vI fb)] rfl (by decide +kernel) (Nat.le_of_ble_eq_true rfl) ?_
  intro p e s m args below meth c F hr hlocks hK hP ls hl
  refine lv_iload_n F.1 F.2.1 dX4_isAllowed_0 rfl (lv_at hl 0 rfl) ?_
  refine rr_rdSN (rest := []) F hK (c_X6_isLetter l D cy x (by first | assumption | omega | exact ⟨by omega, by omega⟩)) hP sf_X6_isLetter tn196 ⟨Nat.le_of_ble_eq_true rfl, Nat.le_of_ble_eq_true rfl⟩ hl rfl (Nat.le_of_ble_eq_true rfl) dX4_isAllowed_1 ⟨Nat.zero_le _, Nat.zero_le _⟩ ?_
  refine rr_ifP_ne F (tgt := 23) dX4_isAllowed_4 (by decide) (fun c_4 => ?_) (fun c_4 => ?_)
  · refine rr_iconst F dX4_isAllowed_23 ?_
    refine lv_goto (tgt := 28) F.1 F.2.1 dX4_isAllowed_24 (by decide) ?_
    exact rr_zret F hr hlocks (b := true) dX4_isAllowed_28 rfl (b2i_t (by omega))
  · refine lv_iload_n F.1 F.2.1 dX4_isAllowed_7 rfl (lv_at hl 1 rfl) ?_
    refine rr_if_ne F (tgt := 27) dX4_isAllowed_8 (by decide) ⟨by omega, by omega⟩ (fun c_8 => ?_) (fun c_8 => ?_)
    · refine rr_iconst F dX4_isAllowed_27 ?_
      exact rr_zret F hr hlocks (b := false) dX4_isAllowed_28 rfl (b2i_f (by omega))
    · refine lv_iload_n F.1 F.2.1 dX4_isAllowed_11 rfl (lv_at hl 0 rfl) ?_
      refine rr_bipush F dX4_isAllowed_12 (by decide) ?_
      refine rr_icmp_eq F (tgt := 23) dX4_isAllowed_14 (by decide) ⟨by omega, by omega⟩ ⟨by omega, by omega⟩ (fun c_14 => ?_) (fun c_14 => ?_)
      · refine rr_iconst F dX4_isAllowed_23 ?_
        refine lv_goto (tgt := 28) F.1 F.2.1 dX4_isAllowed_24 (by decide) ?_
        exact rr_zret F hr hlocks (b := true) dX4_isAllowed_28 rfl (b2i_t (by omega))
      · refine lv_iload_n F.1 F.2.1 dX4_isAllowed_17 rfl (lv_at hl 0 rfl) ?_
        refine rr_bipush F dX4_isAllowed_18 (by decide) ?_
        refine rr_icmp_ne F (tgt := 27) dX4_isAllowed_20 (by decide) ⟨by omega, by omega⟩ ⟨by omega, by omega⟩ (fun c_20 => ?_) (fun c_20 => ?_)
        · refine rr_iconst F dX4_isAllowed_27 ?_
          exact rr_zret F hr hlocks (b := false) dX4_isAllowed_28 rfl (b2i_f (by omega))
        · refine rr_iconst F dX4_isAllowed_23 ?_
          refine lv_goto (tgt := 28) F.1 F.2.1 dX4_isAllowed_24 (by decide) ?_
          exact rr_zret F hr hlocks (b := true) dX4_isAllowed_28 rfl (b2i_t (by omega))
set_option maxRecDepth 100000 in
set_option maxHeartbeats 4000000 in
theorem c_X4_isFull (l : Launch) (D : va_G) (cy : Nat → ClassId) (tx ta : Nat) (tl : Int) (tc : Int → Int) (hT : (0 ≤ tl ∧ tl ≤ 40) ∧ CH 40 tc) : Rd l yX4_isFull cX4_isFull 1 (some FieldType.boolean) 0 [.ref tx] D cy [(tx, .inr (4, [.ref ta, vI tl])), (ta, .inl (cy 0, 40, .inl (iA tc)))] (b2i (pB (40 ≤ tl))) := by
  refine Rd.of RX4 rfl [(0, .ref tx)] rfl (by decide +kernel) (Nat.le_of_ble_eq_true rfl) ?_
  intro p e s m args below meth c F hr hlocks hK hP ls hl
  obtain ⟨ht0, ht1⟩ := id hT
  refine lv_aload_n F.1 F.2.1 dX4_isFull_0 rfl (lv_at hl 0 rfl) ?_
  refine gf4_1 F hK hP 0 rfl tw35 dX4_isFull_1 ?_
  refine rr_bipush F dX4_isFull_4 (by decide) ?_
  refine rr_icmp_lt F (tgt := 13) dX4_isFull_6 (by decide) ⟨by omega, by omega⟩ ⟨by omega, by omega⟩ (fun c_6 => ?_) (fun c_6 => ?_)
  · refine rr_iconst F dX4_isFull_13 ?_
    exact rr_zret F hr hlocks (b := false) dX4_isFull_14 rfl (b2i_f (by omega))
  · refine rr_iconst F dX4_isFull_9 ?_
    refine lv_goto (tgt := 14) F.1 F.2.1 dX4_isFull_10 (by decide) ?_
    exact rr_zret F hr hlocks (b := true) dX4_isFull_14 rfl (b2i_t (by omega))
set_option maxRecDepth 100000 in
set_option maxHeartbeats 4000000 in
theorem c_X4_addCharacter (l : Launch) (D : va_G) (cy : Nat → ClassId) (tx ta : Nat) (tl : Int) (tc : Int → Int) (x : Int) (hT : (0 ≤ tl ∧ tl ≤ 40) ∧ CH 40 tc) (hl2 : tl < 40) (hx : 0 ≤ x ∧ x < 65536) : Wr l yX4_addCharacter cX4_addCharacter 2 (some FieldType.int) 0 [.ref tx, vI x] D cy [(tx, .inr (4, [.ref ta, vI tl])), (ta, .inl (cy 0, 40, .inl (iA tc)))] [(tx, .inr (4, [.ref ta, vI (tl + 1)])), (ta, .inl (cy 0, 40, .inl (iA (updZ tc tl x))))] (some (vI (tl + 1))) := by
  refine Wr.of RX4 rfl [(0, .ref tx), (1, vI x)] rfl (by decide +kernel) (Nat.le_of_ble_eq_true rfl) ?_
  intro p e s m args below meth c F hr hlocks hK hP hD hS hA ls hl
  obtain ⟨ht0, ht1⟩ := id hT
  refine lv_aload_n F.1 F.2.1 dX4_addCharacter_0 rfl (lv_at hl 0 rfl) ?_
  refine gf4_1 F hK hP 0 rfl tw35 dX4_addCharacter_1 ?_
  refine rr_bipush F dX4_addCharacter_4 (by decide) ?_
  refine rr_icmp_ge F (tgt := 29) dX4_addCharacter_6 (by decide) ⟨by omega, by omega⟩ ⟨by omega, by omega⟩ (fun c_6 => ?_) (fun c_6 => ?_)
  · exfalso; omega
  · refine lv_aload_n F.1 F.2.1 dX4_addCharacter_9 rfl (lv_at hl 0 rfl) ?_
    refine gf4_0 F hK hP 0 rfl tw32 dX4_addCharacter_10 ?_
    refine lv_aload_n F.1 F.2.1 dX4_addCharacter_13 rfl (lv_at hl 0 rfl) ?_
    refine gf4_1 F hK hP 0 rfl tw35 dX4_addCharacter_14 ?_
    refine lv_iload_n F.1 F.2.1 dX4_addCharacter_17 rfl (lv_at hl 1 rfl) ?_
    refine rr_cast F hK hP hD hS 1 rfl (by omega) (by omega) (by decide) ⟨by omega, by omega⟩ dX4_addCharacter_18 (fun H locs hP hD hS => ?_)
    have hP : va_P D vwCl [(tx, .inr (4, [.ref ta, vI tl])), (ta, .inl (cy 0, 40, .inl (iA (updZ tc tl x))))] H := hP
    have hD : va_D _ [(tx, .inr (4, [.ref ta, vI tl])), (ta, .inl (cy 0, 40, .inl (iA (updZ tc tl x))))] := hD
    refine lv_aload_n F.1 F.2.1 dX4_addCharacter_19 rfl (lv_at hl 0 rfl) ?_
    refine lv_dup F.1 F.2.1 dX4_addCharacter_20 rfl ?_
    refine gf4_1 F hK hP 0 rfl tw35 dX4_addCharacter_21 ?_
    refine rr_iconst F dX4_addCharacter_24 ?_
    refine rr_iadd F (z := tl + 1) dX4_addCharacter_25 (by first | rfl | omega) ?_
    refine pf4_1 F hK hP hD hS 0 rfl tw35 dX4_addCharacter_26 (fun H locs hP hD hS => ?_)
    have hP : va_P D vwCl [(tx, .inr (4, [.ref ta, vI (tl + 1)])), (ta, .inl (cy 0, 40, .inl (iA (updZ tc tl x))))] H := hP
    have hD : va_D _ [(tx, .inr (4, [.ref ta, vI (tl + 1)])), (ta, .inl (cy 0, 40, .inl (iA (updZ tc tl x))))] := hD
    refine lv_aload_n F.1 F.2.1 dX4_addCharacter_29 rfl (lv_at hl 0 rfl) ?_
    refine gf4_1 F hK hP 0 rfl tw35 dX4_addCharacter_30 ?_
    exact rr_wiret F hr hlocks dX4_addCharacter_33 hP hS (rfl) (by first | rfl | omega)
set_option maxRecDepth 100000 in
set_option maxHeartbeats 4000000 in
theorem c_X4_empty (l : Launch) (D : va_G) (cy : Nat → ClassId) (tx ta : Nat) (tl : Int) (tc : Int → Int) (hT : (0 ≤ tl ∧ tl ≤ 40) ∧ CH 40 tc) : Wr l yX4_empty cX4_empty 2 (some FieldType.int) 0 [.ref tx] D cy [(tx, .inr (4, [.ref ta, vI tl])), (ta, .inl (cy 0, 40, .inl (iA tc)))] [(tx, .inr (4, [.ref ta, vI 0])), (ta, .inl (cy 0, 40, .inl (iA tc)))] (some (vI tl)) := by
  refine Wr.of RX4 rfl [(0, .ref tx)] rfl (by decide +kernel) (Nat.le_of_ble_eq_true rfl) ?_
  intro p e s m args below meth c F hr hlocks hK hP hD hS hA ls hl
  obtain ⟨ht0, ht1⟩ := id hT
  refine lv_aload_n F.1 F.2.1 dX4_empty_0 rfl (lv_at hl 0 rfl) ?_
  refine gf4_1 F hK hP 0 rfl tw35 dX4_empty_1 ?_
  refine lv_istore_n (lv' := [(1, vI tl), (0, .ref tx)]) F.1 F.2.1 dX4_empty_4 rfl hl (by decide) rfl (fun ls hl => ?_)
  refine lv_aload_n F.1 F.2.1 dX4_empty_5 rfl (lv_at hl 1 rfl) ?_
  refine rr_iconst F dX4_empty_6 ?_
  refine pf4_1 F hK hP hD hS 0 rfl tw35 dX4_empty_7 (fun H locs hP hD hS => ?_)
  have hP : va_P D vwCl [(tx, .inr (4, [.ref ta, vI 0])), (ta, .inl (cy 0, 40, .inl (iA tc)))] H := hP
  have hD : va_D _ [(tx, .inr (4, [.ref ta, vI 0])), (ta, .inl (cy 0, 40, .inl (iA tc)))] := hD
  refine lv_iload_n F.1 F.2.1 dX4_empty_10 rfl (lv_at hl 0 rfl) ?_
  exact rr_wiret F hr hlocks dX4_empty_11 hP hS (rfl) (by first | rfl | omega)
set_option maxRecDepth 100000 in
set_option maxHeartbeats 4000000 in
theorem c_X4_firstError (l : Launch) (D : va_G) (cy : Nat → ClassId) (tx ta : Nat) (tl : Int) (tc : Int → Int) (fb : Int) (hT : (0 ≤ tl ∧ tl ≤ 40) ∧ CH 40 tc) (hf : fb = 0 ∨ fb = 1) : Rd l yX4_firstError cX4_firstError 4 (some FieldType.int) 2 [.ref tx, vI fb] D cy [(tx, .inr (4, [.ref ta, vI tl])), (ta, .inl (cy 0, 40, .inl (iA tc)))] (ferr tl tc fb) := by
  refine Rd.of RX4 rfl [(0, .ref tx), (1, vI fb)] rfl (by decide +kernel) (Nat.le_of_ble_eq_true rfl) ?_
  intro p e s m args below meth c F hr hlocks hK hP ls hl
  obtain ⟨ht0, ht1⟩ := id hT
  refine lv_iload_n F.1 F.2.1 dX4_firstError_0 rfl (lv_at hl 1 rfl) ?_
  refine rr_if_eq F (tgt := 9) dX4_firstError_1 (by decide) ⟨by omega, by omega⟩ (fun c_1 => ?_) (fun c_1 => ?_)
  · refine rr_bipush F dX4_firstError_9 (by decide) ?_
    refine lv_istore_n (lv' := [(2, vI 24), (0, .ref tx), (1, vI fb)]) F.1 F.2.1 dX4_firstError_11 rfl hl (by decide) rfl (fun ls hl => ?_)
    refine rr_iconst F dX4_firstError_12 ?_
    refine lv_istore_n (lv' := [(3, vI 0), (2, vI 24), (0, .ref tx), (1, vI fb)]) F.1 F.2.1 dX4_firstError_13 rfl hl (by decide) rfl (fun ls hl => ?_)
    refine rr_loop1 (fun k => (0 ≤ k) ∧ (k ≤ tl) ∧ (∀ j, 0 ≤ j → j < k → ferok tc fb j)) (fun k => (41 - k).toNat) (fun k => [(3, vI k), (2, vI (if fb = 0 then 24 else 6)), (0, .ref tx), (1, vI fb)]) ?_ 0 ⟨by omega, by omega, fun j x y => by omega⟩ (lv_cv (lv_sub hl [0, 1, 2, 3] rfl) (by rw [← show (24 : Int) = if fb = 0 then 24 else 6 from by split <;> omega]; rfl))
    intro k hI ih_14 ls hl
    obtain ⟨k0, k1, kq⟩ := hI
    have hl : lv_has ls 4 [(3, vI k), (2, vI (if fb = 0 then 24 else 6)), (0, .ref tx), (1, vI fb)] := hl
    refine lv_iload_n F.1 F.2.1 dX4_firstError_14 rfl (lv_at hl 0 rfl) ?_
    refine lv_aload_n F.1 F.2.1 dX4_firstError_15 rfl (lv_at hl 2 rfl) ?_
    refine gf4_1 F hK hP 0 rfl tw35 dX4_firstError_16 ?_
    refine rr_icmp_ge F (tgt := 48) dX4_firstError_19 (by decide) ⟨by omega, by omega⟩ ⟨by omega, by omega⟩ (fun c_19 => ?_) (fun c_19 => ?_)
    · refine lv_aload_n F.1 F.2.1 dX4_firstError_48 rfl (lv_at hl 2 rfl) ?_
      refine gf4_1 F hK hP 0 rfl tw35 dX4_firstError_49 ?_
      refine rr_if_ne F (tgt := 59) dX4_firstError_52 (by decide) ⟨by omega, by omega⟩ (fun c_52 => ?_) (fun c_52 => ?_)
      · refine rr_iconst F dX4_firstError_59 ?_
        exact rr_iret F hr hlocks dX4_firstError_60 (by first | exact ferr_0 (by omega) | exact ferr_miss (by omega) (fun j x y => kq j x (by omega)))
      · refine rr_iconst F dX4_firstError_55 ?_
        refine lv_goto (tgt := 60) F.1 F.2.1 dX4_firstError_56 (by decide) ?_
        exact rr_iret F hr hlocks dX4_firstError_60 (by first | exact ferr_0 (by omega) | exact ferr_miss (by omega) (fun j x y => kq j x (by omega)))
    · refine lv_iload_n F.1 F.2.1 dX4_firstError_22 rfl (lv_at hl 0 rfl) ?_
      refine lv_iload_n F.1 F.2.1 dX4_firstError_23 rfl (lv_at hl 1 rfl) ?_
      refine rr_icmp_ge F (tgt := 40) dX4_firstError_24 (by decide) ⟨by omega, by omega⟩ (by split <;> exact ⟨by omega, by omega⟩) (fun c_24 => ?_) (fun c_24 => ?_)
      · refine lv_iload_n F.1 F.2.1 dX4_firstError_40 rfl (lv_at hl 0 rfl) ?_
        exact rr_iret F hr hlocks dX4_firstError_41 (ferr_hit k0 (by omega) (fun h => by first | exact c_37 h.2 | (have := h.1; omega)) kq)
      · refine lv_aload_n F.1 F.2.1 dX4_firstError_27 rfl (lv_at hl 2 rfl) ?_
        refine gf4_0 F hK hP 0 rfl tw32 dX4_firstError_28 ?_
        refine lv_iload_n F.1 F.2.1 dX4_firstError_31 rfl (lv_at hl 0 rfl) ?_
        refine rr_cald F hK hP 1 rfl (by omega) (by omega) (by decide) dX4_firstError_32 ?_
        have hc := ht1 k k0 (by omega)
        refine lv_iload_n F.1 F.2.1 dX4_firstError_33 rfl (lv_at hl 3 rfl) ?_
        refine rr_rdS (rest := []) F hK (c_X4_isAllowed l D cy (tc k) fb (by first | assumption | omega | exact ⟨by omega, by omega⟩) (by first | assumption | omega | exact ⟨by omega, by omega⟩)) (hP.sub [] rfl) sf_X4_isAllowed tw193 ⟨Nat.le_of_ble_eq_true rfl, Nat.le_of_ble_eq_true rfl⟩ hl rfl (Nat.le_of_ble_eq_true rfl) dX4_firstError_34 ⟨Nat.zero_le _, Nat.zero_le _⟩ ?_
        refine rr_ifP_ne F (tgt := 42) dX4_firstError_37 (by decide) (fun c_37 => ?_) (fun c_37 => ?_)
        · refine lv_iinc (v := iI (k + 1)) (lv' := [(3, vI (k + 1)), (2, vI (if fb = 0 then 24 else 6)), (0, .ref tx), (1, vI fb)]) F.1 F.2.1 dX4_firstError_42 hl (k := 0) rfl (iinc_ok (by first | rfl | omega)) (by decide) rfl (fun ls hl => ?_)
          refine lv_goto (tgt := 14) F.1 F.2.1 dX4_firstError_45 (by decide) ?_
          exact ih_14 (k + 1) ⟨by omega, by omega, fun j x y => (if hj : j = k then by subst hj; exact ⟨c_24, c_37⟩ else kq j x (by omega))⟩ (show ((41 - (k + 1)).toNat) < ((41 - k).toNat) by omega) ls (lv_sub hl [0, 1, 2, 3] rfl)
        · refine lv_iload_n F.1 F.2.1 dX4_firstError_40 rfl (lv_at hl 0 rfl) ?_
          exact rr_iret F hr hlocks dX4_firstError_41 (ferr_hit k0 (by omega) (fun h => by first | exact c_37 h.2 | (have := h.1; omega)) kq)
  · refine rr_bipush F dX4_firstError_4 (by decide) ?_
    refine lv_goto (tgt := 11) F.1 F.2.1 dX4_firstError_6 (by decide) ?_
    refine lv_istore_n (lv' := [(2, vI 6), (0, .ref tx), (1, vI fb)]) F.1 F.2.1 dX4_firstError_11 rfl hl (by decide) rfl (fun ls hl => ?_)
    refine rr_iconst F dX4_firstError_12 ?_
    refine lv_istore_n (lv' := [(3, vI 0), (2, vI 6), (0, .ref tx), (1, vI fb)]) F.1 F.2.1 dX4_firstError_13 rfl hl (by decide) rfl (fun ls hl => ?_)
    refine rr_loop1 (fun k => (0 ≤ k) ∧ (k ≤ tl) ∧ (∀ j, 0 ≤ j → j < k → ferok tc fb j)) (fun k => (41 - k).toNat) (fun k => [(3, vI k), (2, vI (if fb = 0 then 24 else 6)), (0, .ref tx), (1, vI fb)]) ?_ 0 ⟨by omega, by omega, fun j x y => by omega⟩ (lv_cv (lv_sub hl [0, 1, 2, 3] rfl) (by rw [← show (6 : Int) = if fb = 0 then 24 else 6 from by split <;> omega]; rfl))
    intro k hI ih_14 ls hl
    obtain ⟨k0, k1, kq⟩ := hI
    have hl : lv_has ls 4 [(3, vI k), (2, vI (if fb = 0 then 24 else 6)), (0, .ref tx), (1, vI fb)] := hl
    refine lv_iload_n F.1 F.2.1 dX4_firstError_14 rfl (lv_at hl 0 rfl) ?_
    refine lv_aload_n F.1 F.2.1 dX4_firstError_15 rfl (lv_at hl 2 rfl) ?_
    refine gf4_1 F hK hP 0 rfl tw35 dX4_firstError_16 ?_
    refine rr_icmp_ge F (tgt := 48) dX4_firstError_19 (by decide) ⟨by omega, by omega⟩ ⟨by omega, by omega⟩ (fun c_19 => ?_) (fun c_19 => ?_)
    · refine lv_aload_n F.1 F.2.1 dX4_firstError_48 rfl (lv_at hl 2 rfl) ?_
      refine gf4_1 F hK hP 0 rfl tw35 dX4_firstError_49 ?_
      refine rr_if_ne F (tgt := 59) dX4_firstError_52 (by decide) ⟨by omega, by omega⟩ (fun c_52 => ?_) (fun c_52 => ?_)
      · refine rr_iconst F dX4_firstError_59 ?_
        exact rr_iret F hr hlocks dX4_firstError_60 (by first | exact ferr_0 (by omega) | exact ferr_miss (by omega) (fun j x y => kq j x (by omega)))
      · refine rr_iconst F dX4_firstError_55 ?_
        refine lv_goto (tgt := 60) F.1 F.2.1 dX4_firstError_56 (by decide) ?_
        exact rr_iret F hr hlocks dX4_firstError_60 (by first | exact ferr_0 (by omega) | exact ferr_miss (by omega) (fun j x y => kq j x (by omega)))
    · refine lv_iload_n F.1 F.2.1 dX4_firstError_22 rfl (lv_at hl 0 rfl) ?_
      refine lv_iload_n F.1 F.2.1 dX4_firstError_23 rfl (lv_at hl 1 rfl) ?_
      refine rr_icmp_ge F (tgt := 40) dX4_firstError_24 (by decide) ⟨by omega, by omega⟩ (by split <;> exact ⟨by omega, by omega⟩) (fun c_24 => ?_) (fun c_24 => ?_)
      · refine lv_iload_n F.1 F.2.1 dX4_firstError_40 rfl (lv_at hl 0 rfl) ?_
        exact rr_iret F hr hlocks dX4_firstError_41 (ferr_hit k0 (by omega) (fun h => by first | exact c_37 h.2 | (have := h.1; omega)) kq)
      · refine lv_aload_n F.1 F.2.1 dX4_firstError_27 rfl (lv_at hl 2 rfl) ?_
        refine gf4_0 F hK hP 0 rfl tw32 dX4_firstError_28 ?_
        refine lv_iload_n F.1 F.2.1 dX4_firstError_31 rfl (lv_at hl 0 rfl) ?_
        refine rr_cald F hK hP 1 rfl (by omega) (by omega) (by decide) dX4_firstError_32 ?_
        have hc := ht1 k k0 (by omega)
        refine lv_iload_n F.1 F.2.1 dX4_firstError_33 rfl (lv_at hl 3 rfl) ?_
        refine rr_rdS (rest := []) F hK (c_X4_isAllowed l D cy (tc k) fb (by first | assumption | omega | exact ⟨by omega, by omega⟩) (by first | assumption | omega | exact ⟨by omega, by omega⟩)) (hP.sub [] rfl) sf_X4_isAllowed tw193 ⟨Nat.le_of_ble_eq_true rfl, Nat.le_of_ble_eq_true rfl⟩ hl rfl (Nat.le_of_ble_eq_true rfl) dX4_firstError_34 ⟨Nat.zero_le _, Nat.zero_le _⟩ ?_
        refine rr_ifP_ne F (tgt := 42) dX4_firstError_37 (by decide) (fun c_37 => ?_) (fun c_37 => ?_)
        · refine lv_iinc (v := iI (k + 1)) (lv' := [(3, vI (k + 1)), (2, vI (if fb = 0 then 24 else 6)), (0, .ref tx), (1, vI fb)]) F.1 F.2.1 dX4_firstError_42 hl (k := 0) rfl (iinc_ok (by first | rfl | omega)) (by decide) rfl (fun ls hl => ?_)
          refine lv_goto (tgt := 14) F.1 F.2.1 dX4_firstError_45 (by decide) ?_
          exact ih_14 (k + 1) ⟨by omega, by omega, fun j x y => (if hj : j = k then by subst hj; exact ⟨c_24, c_37⟩ else kq j x (by omega))⟩ (show ((41 - (k + 1)).toNat) < ((41 - k).toNat) by omega) ls (lv_sub hl [0, 1, 2, 3] rfl)
        · refine lv_iload_n F.1 F.2.1 dX4_firstError_40 rfl (lv_at hl 0 rfl) ?_
          exact rr_iret F hr hlocks dX4_firstError_41 (ferr_hit k0 (by omega) (fun h => by first | exact c_37 h.2 | (have := h.1; omega)) kq)
set_option maxRecDepth 100000 in
set_option maxHeartbeats 4000000 in
theorem c_X2_setSign (l : Launch) (D : va_G) (cy : Nat → ClassId) (r sg : Nat) (n : Int) (g q : Int → Int) (i ch : Int) (hG : RG n g q) (hi : 0 ≤ i ∧ i < n) (hc : 0 ≤ ch ∧ ch < 65536) : Wr l yX2_setSign cX2_setSign 3 (none) 1 [.ref r, vI i, vI ch] D cy [(r, .inr (2, [.ref sg, vI n])), (sg, .inl (cy 0, 24, .inl (iA g)))] [(r, .inr (2, [.ref sg, vI n])), (sg, .inl (cy 0, 24, .inl (iA (updZ g i ch))))] none := by
  refine Wr.of RX2 rfl [(0, .ref r), (1, vI i), (2, vI ch)] rfl (by decide +kernel) (Nat.le_of_ble_eq_true rfl) ?_
  intro p e s m args below meth c F hr hlocks hK hP hD hS hA ls hl
  have hn0 := hG.1
  have hn1 := hG.2.1
  refine lv_aload_n F.1 F.2.1 dX2_setSign_0 rfl (lv_at hl 0 rfl) ?_
  refine lv_iload_n F.1 F.2.1 dX2_setSign_1 rfl (lv_at hl 1 rfl) ?_
  refine rr_rdV (rest := []) F hK (c_X2_hasPlace l D cy r sg n g q i (by first | assumption | omega | exact ⟨by omega, by omega⟩) (by first | assumption | omega | exact ⟨by omega, by omega⟩)) hP sf_X2_hasPlace tw624 2 rfl rfl ⟨Nat.le_of_ble_eq_true rfl, Nat.le_of_ble_eq_true rfl⟩ hl rfl (Nat.le_of_ble_eq_true rfl) dX2_setSign_2 ⟨Nat.zero_le _, Nat.zero_le _⟩ ?_
  refine rr_ifP_eq F (tgt := 15) dX2_setSign_5 (by decide) (fun c_5 => ?_) (fun c_5 => ?_)
  · exfalso; omega
  · refine lv_aload_n F.1 F.2.1 dX2_setSign_8 rfl (lv_at hl 0 rfl) ?_
    refine gf2_0 F hK hP 0 rfl tw56 dX2_setSign_9 ?_
    refine lv_iload_n F.1 F.2.1 dX2_setSign_12 rfl (lv_at hl 1 rfl) ?_
    refine lv_iload_n F.1 F.2.1 dX2_setSign_13 rfl (lv_at hl 2 rfl) ?_
    refine rr_cast F hK hP hD hS 1 rfl (by omega) (by omega) (by decide) ⟨by omega, by omega⟩ dX2_setSign_14 (fun H locs hP hD hS => ?_)
    have hP : va_P D vwCl [(r, .inr (2, [.ref sg, vI n])), (sg, .inl (cy 0, 24, .inl (iA (updZ g i ch))))] H := hP
    have hD : va_D _ [(r, .inr (2, [.ref sg, vI n])), (sg, .inl (cy 0, 24, .inl (iA (updZ g i ch))))] := hD
    exact rr_wvret F hr hlocks dX2_setSign_15 hP hS rfl
set_option maxRecDepth 100000 in
set_option maxHeartbeats 4000000 in
theorem c_X2_putIn (l : Launch) (D : va_G) (cy : Nat → ClassId) (r sg : Nat) (n : Int) (g q : Int → Int) (i ch : Int) (hG : RG n g q) (hi : 0 ≤ i ∧ i ≤ n) (hn : n < 24) (hc : 0 ≤ ch ∧ ch < 65536) : Wr l yX2_putIn cX2_putIn 4 (none) 1 [.ref r, vI i, vI ch] D cy [(r, .inr (2, [.ref sg, vI n])), (sg, .inl (cy 0, 24, .inl (iA g)))] [(r, .inr (2, [.ref sg, vI (n + 1)])), (sg, .inl (cy 0, 24, .inl (iA (updZ (insZ g n i) i ch))))] none := by
  refine Wr.of RX2 rfl [(0, .ref r), (1, vI i), (2, vI ch)] rfl (by decide +kernel) (Nat.le_of_ble_eq_true rfl) ?_
  intro p e s m args below meth c F hr hlocks hK hP hD hS hA ls hl
  have hn0 := hG.1
  have hn1 := hG.2.1
  refine lv_iload_n F.1 F.2.1 dX2_putIn_0 rfl (lv_at hl 1 rfl) ?_
  refine rr_if_lt F (tgt := 19) dX2_putIn_1 (by decide) ⟨by omega, by omega⟩ (fun c_1 => ?_) (fun c_1 => ?_)
  · exfalso; omega
  · refine lv_iload_n F.1 F.2.1 dX2_putIn_4 rfl (lv_at hl 1 rfl) ?_
    refine lv_aload_n F.1 F.2.1 dX2_putIn_5 rfl (lv_at hl 0 rfl) ?_
    refine gf2_1 F hK hP 0 rfl tw57 dX2_putIn_6 ?_
    refine rr_icmp_gt F (tgt := 19) dX2_putIn_9 (by decide) ⟨by omega, by omega⟩ ⟨by omega, by omega⟩ (fun c_9 => ?_) (fun c_9 => ?_)
    · exfalso; omega
    · refine lv_aload_n F.1 F.2.1 dX2_putIn_12 rfl (lv_at hl 0 rfl) ?_
      refine rr_rdV (rest := []) F hK (c_X2_isFull l D cy r sg n g q (by first | assumption | omega | exact ⟨by omega, by omega⟩)) hP sf_X2_isFull tw659 2 rfl rfl ⟨Nat.le_of_ble_eq_true rfl, Nat.le_of_ble_eq_true rfl⟩ hl rfl (Nat.le_of_ble_eq_true rfl) dX2_putIn_13 ⟨Nat.zero_le _, Nat.zero_le _⟩ ?_
      refine rr_ifP_eq F (tgt := 20) dX2_putIn_16 (by decide) (fun c_16 => ?_) (fun c_16 => ?_)
      · refine lv_aload_n F.1 F.2.1 dX2_putIn_20 rfl (lv_at hl 0 rfl) ?_
        refine gf2_1 F hK hP 0 rfl tw57 dX2_putIn_21 ?_
        refine lv_istore_n (lv' := [(3, vI n), (0, .ref r), (1, vI i), (2, vI ch)]) F.1 F.2.1 dX2_putIn_24 rfl hl (by decide) rfl (fun ls hl => ?_)
        refine rr_loopW1 (fun k => (i ≤ k) ∧ (k ≤ n)) (fun k => (k - i).toNat) (fun k => [(3, vI k), (0, .ref r), (1, vI i), (2, vI ch)]) (fun k => [(r, .inr (2, [.ref sg, vI n])), (sg, .inl (cy 0, 24, .inl (iA (insZ g n k))))]) ?_ n ⟨by omega, by omega⟩ (by rw [← insZ_0]; exact hP) (by rw [← insZ_0]; exact hD) hS (lv_sub hl [0, 1, 2, 3] rfl)
        intro k hI ih_25 H locs ls hP hD hS hl
        obtain ⟨k0, k1⟩ := hI
        have hl : lv_has ls 4 [(3, vI k), (0, .ref r), (1, vI i), (2, vI ch)] := hl
        have hP : va_P D vwCl [(r, .inr (2, [.ref sg, vI n])), (sg, .inl (cy 0, 24, .inl (iA (insZ g n k))))] H := hP
        have hD : va_D _ [(r, .inr (2, [.ref sg, vI n])), (sg, .inl (cy 0, 24, .inl (iA (insZ g n k))))] := hD
        refine lv_iload_n F.1 F.2.1 dX2_putIn_25 rfl (lv_at hl 0 rfl) ?_
        refine lv_iload_n F.1 F.2.1 dX2_putIn_26 rfl (lv_at hl 2 rfl) ?_
        refine rr_icmp_le F (tgt := 50) dX2_putIn_27 (by decide) ⟨by omega, by omega⟩ ⟨by omega, by omega⟩ (fun c_27 => ?_) (fun c_27 => ?_)
        · refine lv_aload_n F.1 F.2.1 dX2_putIn_50 rfl (lv_at hl 1 rfl) ?_
          refine gf2_0 F hK hP 0 rfl tw56 dX2_putIn_51 ?_
          refine lv_iload_n F.1 F.2.1 dX2_putIn_54 rfl (lv_at hl 2 rfl) ?_
          refine lv_iload_n F.1 F.2.1 dX2_putIn_55 rfl (lv_at hl 3 rfl) ?_
          refine rr_cast F hK hP hD hS 1 rfl (by omega) (by omega) (by decide) ⟨by omega, by omega⟩ dX2_putIn_56 (fun H locs hP hD hS => ?_)
          have hP : va_P D vwCl [(r, .inr (2, [.ref sg, vI n])), (sg, .inl (cy 0, 24, .inl (iA (updZ (insZ g n k) i ch))))] H := hP
          have hD : va_D _ [(r, .inr (2, [.ref sg, vI n])), (sg, .inl (cy 0, 24, .inl (iA (updZ (insZ g n k) i ch))))] := hD
          refine lv_aload_n F.1 F.2.1 dX2_putIn_57 rfl (lv_at hl 1 rfl) ?_
          refine lv_dup F.1 F.2.1 dX2_putIn_58 rfl ?_
          refine gf2_1 F hK hP 0 rfl tw57 dX2_putIn_59 ?_
          refine rr_iconst F dX2_putIn_62 ?_
          refine rr_iadd F (z := n + 1) dX2_putIn_63 (by first | rfl | omega) ?_
          refine pf2_1 F hK hP hD hS 0 rfl tw57 dX2_putIn_64 (fun H locs hP hD hS => ?_)
          have hP : va_P D vwCl [(r, .inr (2, [.ref sg, vI (n + 1)])), (sg, .inl (cy 0, 24, .inl (iA (updZ (insZ g n k) i ch))))] H := hP
          have hD : va_D _ [(r, .inr (2, [.ref sg, vI (n + 1)])), (sg, .inl (cy 0, 24, .inl (iA (updZ (insZ g n k) i ch))))] := hD
          exact rr_wvret F hr hlocks dX2_putIn_67 hP hS (by rw [show k = i by omega])
        · refine lv_aload_n F.1 F.2.1 dX2_putIn_30 rfl (lv_at hl 1 rfl) ?_
          refine gf2_0 F hK hP 0 rfl tw56 dX2_putIn_31 ?_
          refine lv_iload_n F.1 F.2.1 dX2_putIn_34 rfl (lv_at hl 0 rfl) ?_
          refine lv_aload_n F.1 F.2.1 dX2_putIn_35 rfl (lv_at hl 1 rfl) ?_
          refine gf2_0 F hK hP 0 rfl tw56 dX2_putIn_36 ?_
          refine lv_iload_n F.1 F.2.1 dX2_putIn_39 rfl (lv_at hl 0 rfl) ?_
          refine rr_iconst F dX2_putIn_40 ?_
          refine rr_isub F (z := k - 1) dX2_putIn_41 (by first | rfl | omega) ?_
          refine rr_cald F hK hP 1 rfl (by omega) (by omega) (by decide) dX2_putIn_42 ?_
          refine rr_cast F hK hP hD hS 1 rfl (by omega) (by omega) (by decide) (by rw [insZ_at]; have := (hG.at (j := k - 1) (by omega) (by omega)).2.2; exact ⟨by omega, by omega⟩) dX2_putIn_43 (fun H locs hP hD hS => ?_)
          rw [show updZ (insZ g n k) k ((insZ g n k) (k - 1)) = insZ g n (k - 1) from insZ_s k1] at hP hD
          have hP : va_P D vwCl [(r, .inr (2, [.ref sg, vI n])), (sg, .inl (cy 0, 24, .inl (iA (insZ g n (k - 1)))))] H := hP
          have hD : va_D _ [(r, .inr (2, [.ref sg, vI n])), (sg, .inl (cy 0, 24, .inl (iA (insZ g n (k - 1)))))] := hD
          refine lv_iinc (v := iI (k - 1)) (lv' := [(3, vI (k - 1)), (0, .ref r), (1, vI i), (2, vI ch)]) F.1 F.2.1 dX2_putIn_44 hl (k := 0) rfl (iinc_ok (by first | rfl | omega)) (by decide) rfl (fun ls hl => ?_)
          refine lv_goto (tgt := 25) F.1 F.2.1 dX2_putIn_47 (by decide) ?_
          exact ih_25 (k - 1) ⟨by omega, by omega⟩ (show (((k - 1) - i).toNat) < ((k - i).toNat) by omega) _ _ ls hP hD hS (lv_sub hl [0, 1, 2, 3] rfl)
      · exfalso; omega
set_option maxRecDepth 100000 in
set_option maxHeartbeats 4000000 in
theorem c_X2_takeOut (l : Launch) (D : va_G) (cy : Nat → ClassId) (r sg : Nat) (n : Int) (g q : Int → Int) (i : Int) (hG : RG n g q) (hi : 0 ≤ i ∧ i < n) : Wr l yX2_takeOut cX2_takeOut 3 (none) 1 [.ref r, vI i] D cy [(r, .inr (2, [.ref sg, vI n])), (sg, .inl (cy 0, 24, .inl (iA g)))] [(r, .inr (2, [.ref sg, vI (n - 1)])), (sg, .inl (cy 0, 24, .inl (iA (delZ g i (n - 1)))))] none := by
  refine Wr.of RX2 rfl [(0, .ref r), (1, vI i)] rfl (by decide +kernel) (Nat.le_of_ble_eq_true rfl) ?_
  intro p e s m args below meth c F hr hlocks hK hP hD hS hA ls hl
  have hn0 := hG.1
  have hn1 := hG.2.1
  refine lv_aload_n F.1 F.2.1 dX2_takeOut_0 rfl (lv_at hl 0 rfl) ?_
  refine lv_iload_n F.1 F.2.1 dX2_takeOut_1 rfl (lv_at hl 1 rfl) ?_
  refine rr_rdV (rest := []) F hK (c_X2_hasPlace l D cy r sg n g q i (by first | assumption | omega | exact ⟨by omega, by omega⟩) (by first | assumption | omega | exact ⟨by omega, by omega⟩)) hP sf_X2_hasPlace tw624 2 rfl rfl ⟨Nat.le_of_ble_eq_true rfl, Nat.le_of_ble_eq_true rfl⟩ hl rfl (Nat.le_of_ble_eq_true rfl) dX2_takeOut_2 ⟨Nat.zero_le _, Nat.zero_le _⟩ ?_
  refine rr_ifP_ne F (tgt := 9) dX2_takeOut_5 (by decide) (fun c_5 => ?_) (fun c_5 => ?_)
  · refine lv_iload_n F.1 F.2.1 dX2_takeOut_9 rfl (lv_at hl 1 rfl) ?_
    refine rr_iconst F dX2_takeOut_10 ?_
    refine rr_iadd F (z := i + 1) dX2_takeOut_11 (by first | rfl | omega) ?_
    refine lv_istore_n (lv' := [(2, vI (i + 1)), (0, .ref r), (1, vI i)]) F.1 F.2.1 dX2_takeOut_12 rfl hl (by decide) rfl (fun ls hl => ?_)
    refine rr_loopW1 (fun k => (i + 1 ≤ k) ∧ (k ≤ n)) (fun k => (n - k).toNat) (fun k => [(2, vI k), (0, .ref r), (1, vI i)]) (fun k => [(r, .inr (2, [.ref sg, vI n])), (sg, .inl (cy 0, 24, .inl (iA (delZ g i (k - 1)))))]) ?_ (i + 1) ⟨by omega, by omega⟩ (by rw [show i + 1 - 1 = i by omega, ← delZ_0]; exact hP) (by rw [show i + 1 - 1 = i by omega, ← delZ_0]; exact hD) hS (lv_sub hl [0, 1, 2] rfl)
    intro k hI ih_13 H locs ls hP hD hS hl
    obtain ⟨k0, k1⟩ := hI
    have hl : lv_has ls 3 [(2, vI k), (0, .ref r), (1, vI i)] := hl
    have hP : va_P D vwCl [(r, .inr (2, [.ref sg, vI n])), (sg, .inl (cy 0, 24, .inl (iA (delZ g i (k - 1)))))] H := hP
    have hD : va_D _ [(r, .inr (2, [.ref sg, vI n])), (sg, .inl (cy 0, 24, .inl (iA (delZ g i (k - 1)))))] := hD
    refine lv_iload_n F.1 F.2.1 dX2_takeOut_13 rfl (lv_at hl 0 rfl) ?_
    refine lv_aload_n F.1 F.2.1 dX2_takeOut_14 rfl (lv_at hl 1 rfl) ?_
    refine gf2_1 F hK hP 0 rfl tw57 dX2_takeOut_15 ?_
    refine rr_icmp_ge F (tgt := 41) dX2_takeOut_18 (by decide) ⟨by omega, by omega⟩ ⟨by omega, by omega⟩ (fun c_18 => ?_) (fun c_18 => ?_)
    · refine lv_aload_n F.1 F.2.1 dX2_takeOut_41 rfl (lv_at hl 1 rfl) ?_
      refine lv_dup F.1 F.2.1 dX2_takeOut_42 rfl ?_
      refine gf2_1 F hK hP 0 rfl tw57 dX2_takeOut_43 ?_
      refine rr_iconst F dX2_takeOut_46 ?_
      refine rr_isub F (z := n - 1) dX2_takeOut_47 (by first | rfl | omega) ?_
      refine pf2_1 F hK hP hD hS 0 rfl tw57 dX2_takeOut_48 (fun H locs hP hD hS => ?_)
      have hP : va_P D vwCl [(r, .inr (2, [.ref sg, vI (n - 1)])), (sg, .inl (cy 0, 24, .inl (iA (delZ g i (k - 1)))))] H := hP
      have hD : va_D _ [(r, .inr (2, [.ref sg, vI (n - 1)])), (sg, .inl (cy 0, 24, .inl (iA (delZ g i (k - 1)))))] := hD
      exact rr_wvret F hr hlocks dX2_takeOut_51 hP hS (by rw [show k = n by omega])
    · refine lv_aload_n F.1 F.2.1 dX2_takeOut_21 rfl (lv_at hl 1 rfl) ?_
      refine gf2_0 F hK hP 0 rfl tw56 dX2_takeOut_22 ?_
      refine lv_iload_n F.1 F.2.1 dX2_takeOut_25 rfl (lv_at hl 0 rfl) ?_
      refine rr_iconst F dX2_takeOut_26 ?_
      refine rr_isub F (z := k - 1) dX2_takeOut_27 (by first | rfl | omega) ?_
      refine lv_aload_n F.1 F.2.1 dX2_takeOut_28 rfl (lv_at hl 1 rfl) ?_
      refine gf2_0 F hK hP 0 rfl tw56 dX2_takeOut_29 ?_
      refine lv_iload_n F.1 F.2.1 dX2_takeOut_32 rfl (lv_at hl 0 rfl) ?_
      refine rr_cald F hK hP 1 rfl (by omega) (by omega) (by decide) dX2_takeOut_33 ?_
      refine rr_cast F hK hP hD hS 1 rfl (by omega) (by omega) (by decide) (by rw [delZ_at]; have := (hG.at (j := k) (by omega) (by omega)).2.2; exact ⟨by omega, by omega⟩) dX2_takeOut_34 (fun H locs hP hD hS => ?_)
      rw [show updZ (delZ g i (k - 1)) (k - 1) ((delZ g i (k - 1)) k) = delZ g i (k + 1 - 1) from delZ_s (by omega)] at hP hD
      have hP : va_P D vwCl [(r, .inr (2, [.ref sg, vI n])), (sg, .inl (cy 0, 24, .inl (iA (delZ g i (k + 1 - 1)))))] H := hP
      have hD : va_D _ [(r, .inr (2, [.ref sg, vI n])), (sg, .inl (cy 0, 24, .inl (iA (delZ g i (k + 1 - 1)))))] := hD
      refine lv_iinc (v := iI (k + 1)) (lv' := [(2, vI (k + 1)), (0, .ref r), (1, vI i)]) F.1 F.2.1 dX2_takeOut_35 hl (k := 0) rfl (iinc_ok (by first | rfl | omega)) (by decide) rfl (fun ls hl => ?_)
      refine lv_goto (tgt := 13) F.1 F.2.1 dX2_takeOut_38 (by decide) ?_
      exact ih_13 (k + 1) ⟨by omega, by omega⟩ (show ((n - (k + 1)).toNat) < ((n - k).toNat) by omega) _ _ ls hP hD hS (lv_sub hl [0, 1, 2] rfl)
  · exfalso; omega
set_option maxRecDepth 100000 in
set_option maxHeartbeats 4000000 in
theorem c_X2_copyFrom (l : Launch) (D : va_G) (cy : Nat → ClassId) (r sg r2 sg2 : Nat) (n n2 : Int) (g g2 : Int → Int) (hc : CH 24 g2) : Wr l yX2_copyFrom cX2_copyFrom 2 (none) 1 [.ref r, .ref r2] D cy [(r, .inr (2, [.ref sg, vI n])), (sg, .inl (cy 0, 24, .inl (iA g))), (r2, .inr (2, [.ref sg2, vI n2])), (sg2, .inl (cy 0, 24, .inl (iA g2)))] [(r, .inr (2, [.ref sg, vI n2])), (sg, .inl (cy 0, 24, .inl (iA g2))), (r2, .inr (2, [.ref sg2, vI n2])), (sg2, .inl (cy 0, 24, .inl (iA g2)))] none := by
  refine Wr.of RX2 rfl [(0, .ref r), (1, .ref r2)] rfl (by decide +kernel) (Nat.le_of_ble_eq_true rfl) ?_
  intro p e s m args below meth c F hr hlocks hK hP hD hS hA ls hl
  refine lv_aload_n F.1 F.2.1 dX2_copyFrom_0 rfl (lv_at hl 1 rfl) ?_
  refine gf2_0 F hK hP 2 rfl tw56 dX2_copyFrom_1 ?_
  refine rr_iconst F dX2_copyFrom_4 ?_
  refine lv_aload_n F.1 F.2.1 dX2_copyFrom_5 rfl (lv_at hl 0 rfl) ?_
  refine gf2_0 F hK hP 0 rfl tw56 dX2_copyFrom_6 ?_
  refine rr_iconst F dX2_copyFrom_9 ?_
  refine rr_bipush F dX2_copyFrom_10 (by decide) ?_
  refine rr_acpyC (rest := []) F hl hK hP hD hS 3 1 rfl rfl (by omega) (by omega) (by omega) (by omega) (by omega) (by decide) (by decide) (fun i x y => hc i x (by omega)) tw546 (Nat.le_of_ble_eq_true rfl) (Nat.le_of_ble_eq_true rfl) dX2_copyFrom_12 (fun H locs hP hD hS => ?_)
  have hP := va_P_row (fun j h0 h1 => cpZ_full j h0 (by omega)) hP
  have hD := va_D_row (y := .inl (cy 0, 24, .inl (iA g2))) hD
  have hP : va_P D vwCl [(r, .inr (2, [.ref sg, vI n])), (sg, .inl (cy 0, 24, .inl (iA g2))), (r2, .inr (2, [.ref sg2, vI n2])), (sg2, .inl (cy 0, 24, .inl (iA g2)))] H := hP
  have hD : va_D _ [(r, .inr (2, [.ref sg, vI n])), (sg, .inl (cy 0, 24, .inl (iA g2))), (r2, .inr (2, [.ref sg2, vI n2])), (sg2, .inl (cy 0, 24, .inl (iA g2)))] := hD
  refine lv_aload_n F.1 F.2.1 dX2_copyFrom_15 rfl (lv_at hl 0 rfl) ?_
  refine lv_aload_n F.1 F.2.1 dX2_copyFrom_16 rfl (lv_at hl 1 rfl) ?_
  refine gf2_1 F hK hP 2 rfl tw57 dX2_copyFrom_17 ?_
  refine pf2_1 F hK hP hD hS 0 rfl tw57 dX2_copyFrom_20 (fun H locs hP hD hS => ?_)
  have hP : va_P D vwCl [(r, .inr (2, [.ref sg, vI n2])), (sg, .inl (cy 0, 24, .inl (iA g2))), (r2, .inr (2, [.ref sg2, vI n2])), (sg2, .inl (cy 0, 24, .inl (iA g2)))] H := hP
  have hD : va_D _ [(r, .inr (2, [.ref sg, vI n2])), (sg, .inl (cy 0, 24, .inl (iA g2))), (r2, .inr (2, [.ref sg2, vI n2])), (sg2, .inl (cy 0, 24, .inl (iA g2)))] := hD
  exact rr_wvret F hr hlocks dX2_copyFrom_23 hP hS rfl
set_option maxRecDepth 100000 in
set_option maxHeartbeats 4000000 in
theorem c_X2_layText (l : Launch) (D : va_G) (cy : Nat → ClassId) (r sg : Nat) (n : Int) (g : Int → Int) (tx ta : Nat) (tl : Int) (tc : Int → Int) (hT : (0 ≤ tl ∧ tl ≤ 40) ∧ CH 40 tc) (hl2 : 1 ≤ tl ∧ tl ≤ 24) : Wr l yX2_layText cX2_layText 2 (none) 1 [.ref r, .ref tx] D cy [(r, .inr (2, [.ref sg, vI n])), (sg, .inl (cy 0, 24, .inl (iA g))), (tx, .inr (4, [.ref ta, vI tl])), (ta, .inl (cy 0, 40, .inl (iA tc)))] [(r, .inr (2, [.ref sg, vI tl])), (sg, .inl (cy 0, 24, .inl (iA (cpZ tc g 0 0 tl)))), (tx, .inr (4, [.ref ta, vI tl])), (ta, .inl (cy 0, 40, .inl (iA tc)))] none := by
  refine Wr.of RX2 rfl [(0, .ref r), (1, .ref tx)] rfl (by decide +kernel) (Nat.le_of_ble_eq_true rfl) ?_
  intro p e s m args below meth c F hr hlocks hK hP hD hS hA ls hl
  obtain ⟨ht0, ht1⟩ := id hT
  refine lv_aload_n F.1 F.2.1 dX2_layText_0 rfl (lv_at hl 0 rfl) ?_
  refine lv_aload_n F.1 F.2.1 dX2_layText_1 rfl (lv_at hl 1 rfl) ?_
  refine gf4_1N F hK hP 2 rfl tn36 dX2_layText_2 ?_
  refine rr_bipush F dX2_layText_5 (by decide) ?_
  refine rr_mmin (rest := [.ref r]) F hl tw566 (Nat.le_of_ble_eq_true rfl) (Nat.le_of_ble_eq_true rfl) ⟨Nat.zero_le _, Nat.zero_le _⟩ ⟨by omega, by omega⟩ ⟨by omega, by omega⟩ (z := tl) dX2_layText_7 (by split <;> omega) ?_
  refine pf2_1 F hK hP hD hS 0 rfl tw57 dX2_layText_10 (fun H locs hP hD hS => ?_)
  have hP : va_P D vwCl [(r, .inr (2, [.ref sg, vI tl])), (sg, .inl (cy 0, 24, .inl (iA g))), (tx, .inr (4, [.ref ta, vI tl])), (ta, .inl (cy 0, 40, .inl (iA tc)))] H := hP
  have hD : va_D _ [(r, .inr (2, [.ref sg, vI tl])), (sg, .inl (cy 0, 24, .inl (iA g))), (tx, .inr (4, [.ref ta, vI tl])), (ta, .inl (cy 0, 40, .inl (iA tc)))] := hD
  refine lv_aload_n F.1 F.2.1 dX2_layText_13 rfl (lv_at hl 1 rfl) ?_
  refine gf4_0N F hK hP 2 rfl tn33 dX2_layText_14 ?_
  refine rr_iconst F dX2_layText_17 ?_
  refine lv_aload_n F.1 F.2.1 dX2_layText_18 rfl (lv_at hl 0 rfl) ?_
  refine gf2_0 F hK hP 0 rfl tw56 dX2_layText_19 ?_
  refine rr_iconst F dX2_layText_22 ?_
  refine lv_aload_n F.1 F.2.1 dX2_layText_23 rfl (lv_at hl 0 rfl) ?_
  refine gf2_1 F hK hP 0 rfl tw57 dX2_layText_24 ?_
  refine rr_acpyC (rest := []) F hl hK hP hD hS 3 1 rfl rfl (by omega) (by omega) (by omega) (by omega) (by omega) (by decide) (by decide) (fun i x y => ht1 i x (by omega)) tw546 (Nat.le_of_ble_eq_true rfl) (Nat.le_of_ble_eq_true rfl) dX2_layText_27 (fun H locs hP hD hS => ?_)
  have hP : va_P D vwCl [(r, .inr (2, [.ref sg, vI tl])), (sg, .inl (cy 0, 24, .inl (iA (cpZ tc g 0 0 tl)))), (tx, .inr (4, [.ref ta, vI tl])), (ta, .inl (cy 0, 40, .inl (iA tc)))] H := hP
  have hD : va_D _ [(r, .inr (2, [.ref sg, vI tl])), (sg, .inl (cy 0, 24, .inl (iA (cpZ tc g 0 0 tl)))), (tx, .inr (4, [.ref ta, vI tl])), (ta, .inl (cy 0, 40, .inl (iA tc)))] := hD
  exact rr_wvret F hr hlocks dX2_layText_30 hP hS rfl
set_option maxRecDepth 100000 in
set_option maxHeartbeats 4000000 in
theorem c_X0_copyFrom (l : Launch) (D : va_G) (cy : Nat → ClassId) (bk la na bk2 la2 na2 : Nat) (nw nw2 : Int) (lt ln lt2 ln2 : Int → Int) (hc : CH 60 lt2) : Wr l yX0_copyFrom cX0_copyFrom 2 (none) 1 [.ref bk, .ref bk2] D cy [(bk, .inr (0, [.ref la, .ref na, vI nw])), (la, .inl (cy 0, 60, .inl (iA lt))), (na, .inl (cy 1, 10, .inl (iA ln))), (bk2, .inr (0, [.ref la2, .ref na2, vI nw2])), (la2, .inl (cy 0, 60, .inl (iA lt2))), (na2, .inl (cy 1, 10, .inl (iA ln2)))] [(bk, .inr (0, [.ref la, .ref na, vI nw2])), (la, .inl (cy 0, 60, .inl (iA lt2))), (na, .inl (cy 1, 10, .inl (iA ln2))), (bk2, .inr (0, [.ref la2, .ref na2, vI nw2])), (la2, .inl (cy 0, 60, .inl (iA lt2))), (na2, .inl (cy 1, 10, .inl (iA ln2)))] none := by
  refine Wr.of RX0 rfl [(0, .ref bk), (1, .ref bk2)] rfl (by decide +kernel) (Nat.le_of_ble_eq_true rfl) ?_
  intro p e s m args below meth c F hr hlocks hK hP hD hS hA ls hl
  refine lv_aload_n F.1 F.2.1 dX0_copyFrom_0 rfl (lv_at hl 1 rfl) ?_
  refine gf0_0 F hK hP 3 rfl tw73 dX0_copyFrom_1 ?_
  refine rr_iconst F dX0_copyFrom_4 ?_
  refine lv_aload_n F.1 F.2.1 dX0_copyFrom_5 rfl (lv_at hl 0 rfl) ?_
  refine gf0_0 F hK hP 0 rfl tw73 dX0_copyFrom_6 ?_
  refine rr_iconst F dX0_copyFrom_9 ?_
  refine rr_bipush F dX0_copyFrom_10 (by decide) ?_
  refine rr_acpyC (rest := []) F hl hK hP hD hS 4 1 rfl rfl (by omega) (by omega) (by omega) (by omega) (by omega) (by decide) (by decide) (fun i x y => hc i x (by omega)) tw553 (Nat.le_of_ble_eq_true rfl) (Nat.le_of_ble_eq_true rfl) dX0_copyFrom_12 (fun H locs hP hD hS => ?_)
  have hP := va_P_row (fun j h0 h1 => cpZ_full j h0 (by omega)) hP
  have hD := va_D_row (y := .inl (cy 0, 60, .inl (iA lt2))) hD
  have hP : va_P D vwCl [(bk, .inr (0, [.ref la, .ref na, vI nw])), (la, .inl (cy 0, 60, .inl (iA lt2))), (na, .inl (cy 1, 10, .inl (iA ln))), (bk2, .inr (0, [.ref la2, .ref na2, vI nw2])), (la2, .inl (cy 0, 60, .inl (iA lt2))), (na2, .inl (cy 1, 10, .inl (iA ln2)))] H := hP
  have hD : va_D _ [(bk, .inr (0, [.ref la, .ref na, vI nw])), (la, .inl (cy 0, 60, .inl (iA lt2))), (na, .inl (cy 1, 10, .inl (iA ln))), (bk2, .inr (0, [.ref la2, .ref na2, vI nw2])), (la2, .inl (cy 0, 60, .inl (iA lt2))), (na2, .inl (cy 1, 10, .inl (iA ln2)))] := hD
  refine lv_aload_n F.1 F.2.1 dX0_copyFrom_15 rfl (lv_at hl 1 rfl) ?_
  refine gf0_1 F hK hP 3 rfl tw74 dX0_copyFrom_16 ?_
  refine rr_iconst F dX0_copyFrom_19 ?_
  refine lv_aload_n F.1 F.2.1 dX0_copyFrom_20 rfl (lv_at hl 0 rfl) ?_
  refine gf0_1 F hK hP 0 rfl tw74 dX0_copyFrom_21 ?_
  refine rr_iconst F dX0_copyFrom_24 ?_
  refine rr_bipush F dX0_copyFrom_25 (by decide) ?_
  refine rr_acpyI (rest := []) F hl hK hP hD hS 5 2 rfl rfl (by omega) (by omega) (by omega) (by omega) (by omega) (by decide) (by decide) tw553 (Nat.le_of_ble_eq_true rfl) (Nat.le_of_ble_eq_true rfl) dX0_copyFrom_27 (fun H locs hP hD hS => ?_)
  have hP := va_P_row (fun j h0 h1 => cpZ_full j h0 (by omega)) hP
  have hD := va_D_row (y := .inl (cy 1, 10, .inl (iA ln2))) hD
  have hP : va_P D vwCl [(bk, .inr (0, [.ref la, .ref na, vI nw])), (la, .inl (cy 0, 60, .inl (iA lt2))), (na, .inl (cy 1, 10, .inl (iA ln2))), (bk2, .inr (0, [.ref la2, .ref na2, vI nw2])), (la2, .inl (cy 0, 60, .inl (iA lt2))), (na2, .inl (cy 1, 10, .inl (iA ln2)))] H := hP
  have hD : va_D _ [(bk, .inr (0, [.ref la, .ref na, vI nw])), (la, .inl (cy 0, 60, .inl (iA lt2))), (na, .inl (cy 1, 10, .inl (iA ln2))), (bk2, .inr (0, [.ref la2, .ref na2, vI nw2])), (la2, .inl (cy 0, 60, .inl (iA lt2))), (na2, .inl (cy 1, 10, .inl (iA ln2)))] := hD
  refine lv_aload_n F.1 F.2.1 dX0_copyFrom_30 rfl (lv_at hl 0 rfl) ?_
  refine lv_aload_n F.1 F.2.1 dX0_copyFrom_31 rfl (lv_at hl 1 rfl) ?_
  refine gf0_2 F hK hP 3 rfl tw75 dX0_copyFrom_32 ?_
  refine pf0_2 F hK hP hD hS 0 rfl tw75 dX0_copyFrom_35 (fun H locs hP hD hS => ?_)
  have hP : va_P D vwCl [(bk, .inr (0, [.ref la, .ref na, vI nw2])), (la, .inl (cy 0, 60, .inl (iA lt2))), (na, .inl (cy 1, 10, .inl (iA ln2))), (bk2, .inr (0, [.ref la2, .ref na2, vI nw2])), (la2, .inl (cy 0, 60, .inl (iA lt2))), (na2, .inl (cy 1, 10, .inl (iA ln2)))] H := hP
  have hD : va_D _ [(bk, .inr (0, [.ref la, .ref na, vI nw2])), (la, .inl (cy 0, 60, .inl (iA lt2))), (na, .inl (cy 1, 10, .inl (iA ln2))), (bk2, .inr (0, [.ref la2, .ref na2, vI nw2])), (la2, .inl (cy 0, 60, .inl (iA lt2))), (na2, .inl (cy 1, 10, .inl (iA ln2)))] := hD
  exact rr_wvret F hr hlocks dX0_copyFrom_38 hP hS rfl
set_option maxRecDepth 100000 in
set_option maxHeartbeats 4000000 in
theorem c_X0_writeDown (l : Launch) (D : va_G) (cy : Nat → ClassId) (bk la na : Nat) (nw : Int) (lt ln : Int → Int) (bl : Int → Int) (bc : Int → Int → Int) (tx ta : Nat) (tl : Int) (tc : Int → Int) (hB : BK nw lt ln bl bc) (hT : (0 ≤ tl ∧ tl ≤ 40) ∧ CH 40 tc) (hl2 : 1 ≤ tl ∧ tl ≤ 6) (hw : nw < 10) : Wr l yX0_writeDown cX0_writeDown 3 (some FieldType.int) 1 [.ref bk, .ref tx] D cy [(bk, .inr (0, [.ref la, .ref na, vI nw])), (la, .inl (cy 0, 60, .inl (iA lt))), (na, .inl (cy 1, 10, .inl (iA ln))), (tx, .inr (4, [.ref ta, vI tl])), (ta, .inl (cy 0, 40, .inl (iA tc)))] [(bk, .inr (0, [.ref la, .ref na, vI (nw + 1)])), (la, .inl (cy 0, 60, .inl (iA (cpZ tc lt 0 (nw * 6) tl)))), (na, .inl (cy 1, 10, .inl (iA (updZ ln nw tl)))), (tx, .inr (4, [.ref ta, vI tl])), (ta, .inl (cy 0, 40, .inl (iA tc)))] (some (vI nw)) := by
  refine Wr.of RX0 rfl [(0, .ref bk), (1, .ref tx)] rfl (by decide +kernel) (Nat.le_of_ble_eq_true rfl) ?_
  intro p e s m args below meth c F hr hlocks hK hP hD hS hA ls hl
  obtain ⟨ht0, ht1⟩ := id hT
  have hw0 := hB.1
  have hw1 := hB.2.1
  refine lv_aload_n F.1 F.2.1 dX0_writeDown_0 rfl (lv_at hl 0 rfl) ?_
  refine rr_rdV (rest := []) F hK (c_X0_isFull l D cy bk la na nw lt ln bl bc (by first | assumption | omega | exact ⟨by omega, by omega⟩)) (hP.sub [0, 1, 2] rfl) sf_X0_isFull tw586 0 rfl rfl ⟨Nat.le_of_ble_eq_true rfl, Nat.le_of_ble_eq_true rfl⟩ hl rfl (Nat.le_of_ble_eq_true rfl) dX0_writeDown_1 ⟨Nat.zero_le _, Nat.zero_le _⟩ ?_
  refine rr_ifP_eq F (tgt := 9) dX0_writeDown_4 (by decide) (fun c_4 => ?_) (fun c_4 => ?_)
  · refine lv_aload_n F.1 F.2.1 dX0_writeDown_9 rfl (lv_at hl 1 rfl) ?_
    refine gf4_1N F hK hP 3 rfl tn37 dX0_writeDown_10 ?_
    refine rr_bipush F dX0_writeDown_13 (by decide) ?_
    refine rr_mmin (rest := []) F hl tw587 (Nat.le_of_ble_eq_true rfl) (Nat.le_of_ble_eq_true rfl) ⟨Nat.zero_le _, Nat.zero_le _⟩ ⟨by omega, by omega⟩ ⟨by omega, by omega⟩ (z := tl) dX0_writeDown_15 (by split <;> omega) ?_
    refine lv_istore_n (lv' := [(2, vI tl), (0, .ref bk), (1, .ref tx)]) F.1 F.2.1 dX0_writeDown_18 rfl hl (by decide) rfl (fun ls hl => ?_)
    refine lv_aload_n F.1 F.2.1 dX0_writeDown_19 rfl (lv_at hl 2 rfl) ?_
    refine gf4_0N F hK hP 3 rfl tn34 dX0_writeDown_20 ?_
    refine rr_iconst F dX0_writeDown_23 ?_
    refine lv_aload_n F.1 F.2.1 dX0_writeDown_24 rfl (lv_at hl 1 rfl) ?_
    refine gf0_0 F hK hP 0 rfl tw73 dX0_writeDown_25 ?_
    refine lv_aload_n F.1 F.2.1 dX0_writeDown_28 rfl (lv_at hl 1 rfl) ?_
    refine gf0_2 F hK hP 0 rfl tw75 dX0_writeDown_29 ?_
    refine rr_bipush F dX0_writeDown_32 (by decide) ?_
    refine rr_imul F (z := nw * 6) dX0_writeDown_34 (by first | rfl | omega) ?_
    refine lv_iload_n F.1 F.2.1 dX0_writeDown_35 rfl (lv_at hl 0 rfl) ?_
    refine rr_acpyC (rest := []) F hl hK hP hD hS 4 1 rfl rfl (by omega) (by omega) (by omega) (by omega) (by omega) (by decide) (by decide) (fun i x y => ht1 i x (by omega)) tw553 (Nat.le_of_ble_eq_true rfl) (Nat.le_of_ble_eq_true rfl) dX0_writeDown_36 (fun H locs hP hD hS => ?_)
    have hP : va_P D vwCl [(bk, .inr (0, [.ref la, .ref na, vI nw])), (la, .inl (cy 0, 60, .inl (iA (cpZ tc lt 0 (nw * 6) tl)))), (na, .inl (cy 1, 10, .inl (iA ln))), (tx, .inr (4, [.ref ta, vI tl])), (ta, .inl (cy 0, 40, .inl (iA tc)))] H := hP
    have hD : va_D _ [(bk, .inr (0, [.ref la, .ref na, vI nw])), (la, .inl (cy 0, 60, .inl (iA (cpZ tc lt 0 (nw * 6) tl)))), (na, .inl (cy 1, 10, .inl (iA ln))), (tx, .inr (4, [.ref ta, vI tl])), (ta, .inl (cy 0, 40, .inl (iA tc)))] := hD
    refine lv_aload_n F.1 F.2.1 dX0_writeDown_39 rfl (lv_at hl 1 rfl) ?_
    refine gf0_1 F hK hP 0 rfl tw74 dX0_writeDown_40 ?_
    refine lv_aload_n F.1 F.2.1 dX0_writeDown_43 rfl (lv_at hl 1 rfl) ?_
    refine gf0_2 F hK hP 0 rfl tw75 dX0_writeDown_44 ?_
    refine lv_iload_n F.1 F.2.1 dX0_writeDown_47 rfl (lv_at hl 0 rfl) ?_
    refine rr_iast F hK hP hD hS 2 rfl (by omega) (by omega) (by decide) dX0_writeDown_48 (fun H locs hP hD hS => ?_)
    have hP : va_P D vwCl [(bk, .inr (0, [.ref la, .ref na, vI nw])), (la, .inl (cy 0, 60, .inl (iA (cpZ tc lt 0 (nw * 6) tl)))), (na, .inl (cy 1, 10, .inl (iA (updZ ln nw tl)))), (tx, .inr (4, [.ref ta, vI tl])), (ta, .inl (cy 0, 40, .inl (iA tc)))] H := hP
    have hD : va_D _ [(bk, .inr (0, [.ref la, .ref na, vI nw])), (la, .inl (cy 0, 60, .inl (iA (cpZ tc lt 0 (nw * 6) tl)))), (na, .inl (cy 1, 10, .inl (iA (updZ ln nw tl)))), (tx, .inr (4, [.ref ta, vI tl])), (ta, .inl (cy 0, 40, .inl (iA tc)))] := hD
    refine lv_aload_n F.1 F.2.1 dX0_writeDown_49 rfl (lv_at hl 1 rfl) ?_
    refine lv_dup F.1 F.2.1 dX0_writeDown_50 rfl ?_
    refine gf0_2 F hK hP 0 rfl tw75 dX0_writeDown_51 ?_
    refine rr_iconst F dX0_writeDown_54 ?_
    refine rr_iadd F (z := nw + 1) dX0_writeDown_55 (by first | rfl | omega) ?_
    refine pf0_2 F hK hP hD hS 0 rfl tw75 dX0_writeDown_56 (fun H locs hP hD hS => ?_)
    have hP : va_P D vwCl [(bk, .inr (0, [.ref la, .ref na, vI (nw + 1)])), (la, .inl (cy 0, 60, .inl (iA (cpZ tc lt 0 (nw * 6) tl)))), (na, .inl (cy 1, 10, .inl (iA (updZ ln nw tl)))), (tx, .inr (4, [.ref ta, vI tl])), (ta, .inl (cy 0, 40, .inl (iA tc)))] H := hP
    have hD : va_D _ [(bk, .inr (0, [.ref la, .ref na, vI (nw + 1)])), (la, .inl (cy 0, 60, .inl (iA (cpZ tc lt 0 (nw * 6) tl)))), (na, .inl (cy 1, 10, .inl (iA (updZ ln nw tl)))), (tx, .inr (4, [.ref ta, vI tl])), (ta, .inl (cy 0, 40, .inl (iA tc)))] := hD
    refine lv_aload_n F.1 F.2.1 dX0_writeDown_59 rfl (lv_at hl 1 rfl) ?_
    refine gf0_2 F hK hP 0 rfl tw75 dX0_writeDown_60 ?_
    refine rr_iconst F dX0_writeDown_63 ?_
    refine rr_isub F (z := nw) dX0_writeDown_64 (by first | rfl | omega) ?_
    exact rr_wiret F hr hlocks dX0_writeDown_65 hP hS (rfl) (by omega)
  · exfalso; omega
set_option maxRecDepth 100000 in
set_option maxHeartbeats 4000000 in
theorem c_X0_strikeOut (l : Launch) (D : va_G) (cy : Nat → ClassId) (bk la na : Nat) (nw : Int) (lt ln : Int → Int) (bl : Int → Int) (bc : Int → Int → Int) (w : Int) (hB : BK nw lt ln bl bc) (hw : 0 ≤ w ∧ w < nw) (hc : CH 60 lt) : Wr l yX0_strikeOut cX0_strikeOut 3 (none) 1 [.ref bk, vI w] D cy [(bk, .inr (0, [.ref la, .ref na, vI nw])), (la, .inl (cy 0, 60, .inl (iA lt))), (na, .inl (cy 1, 10, .inl (iA ln)))] [(bk, .inr (0, [.ref la, .ref na, vI (nw - 1)])), (la, .inl (cy 0, 60, .inl (iA (cpZ lt lt ((w + 1) * 6) (w * 6) ((nw - 1 - w) * 6))))), (na, .inl (cy 1, 10, .inl (iA (cpZ ln ln (w + 1) w (nw - 1 - w)))))] none := by
  refine Wr.of RX0 rfl [(0, .ref bk), (1, vI w)] rfl (by decide +kernel) (Nat.le_of_ble_eq_true rfl) ?_
  intro p e s m args below meth c F hr hlocks hK hP hD hS hA ls hl
  have hw0 := hB.1
  have hw1 := hB.2.1
  refine lv_aload_n F.1 F.2.1 dX0_strikeOut_0 rfl (lv_at hl 0 rfl) ?_
  refine lv_iload_n F.1 F.2.1 dX0_strikeOut_1 rfl (lv_at hl 1 rfl) ?_
  refine rr_rdV (rest := []) F hK (c_X0_hasWord l D cy bk la na nw lt ln bl bc w (by first | assumption | omega | exact ⟨by omega, by omega⟩) (by first | assumption | omega | exact ⟨by omega, by omega⟩)) hP sf_X0_hasWord tw599 0 rfl rfl ⟨Nat.le_of_ble_eq_true rfl, Nat.le_of_ble_eq_true rfl⟩ hl rfl (Nat.le_of_ble_eq_true rfl) dX0_strikeOut_2 ⟨Nat.zero_le _, Nat.zero_le _⟩ ?_
  refine rr_ifP_ne F (tgt := 9) dX0_strikeOut_5 (by decide) (fun c_5 => ?_) (fun c_5 => ?_)
  · refine lv_aload_n F.1 F.2.1 dX0_strikeOut_9 rfl (lv_at hl 0 rfl) ?_
    refine gf0_2 F hK hP 0 rfl tw75 dX0_strikeOut_10 ?_
    refine rr_iconst F dX0_strikeOut_13 ?_
    refine rr_isub F (z := nw - 1) dX0_strikeOut_14 (by first | rfl | omega) ?_
    refine lv_iload_n F.1 F.2.1 dX0_strikeOut_15 rfl (lv_at hl 1 rfl) ?_
    refine rr_isub F (z := (nw - 1) - w) dX0_strikeOut_16 (by first | rfl | omega) ?_
    refine lv_istore_n (lv' := [(2, vI ((nw - 1) - w)), (0, .ref bk), (1, vI w)]) F.1 F.2.1 dX0_strikeOut_17 rfl hl (by decide) rfl (fun ls hl => ?_)
    refine lv_aload_n F.1 F.2.1 dX0_strikeOut_18 rfl (lv_at hl 1 rfl) ?_
    refine gf0_0 F hK hP 0 rfl tw73 dX0_strikeOut_19 ?_
    refine lv_iload_n F.1 F.2.1 dX0_strikeOut_22 rfl (lv_at hl 2 rfl) ?_
    refine rr_iconst F dX0_strikeOut_23 ?_
    refine rr_iadd F (z := w + 1) dX0_strikeOut_24 (by first | rfl | omega) ?_
    refine rr_bipush F dX0_strikeOut_25 (by decide) ?_
    refine rr_imul F (z := (w + 1) * 6) dX0_strikeOut_27 (by first | rfl | omega) ?_
    refine lv_aload_n F.1 F.2.1 dX0_strikeOut_28 rfl (lv_at hl 1 rfl) ?_
    refine gf0_0 F hK hP 0 rfl tw73 dX0_strikeOut_29 ?_
    refine lv_iload_n F.1 F.2.1 dX0_strikeOut_32 rfl (lv_at hl 2 rfl) ?_
    refine rr_bipush F dX0_strikeOut_33 (by decide) ?_
    refine rr_imul F (z := w * 6) dX0_strikeOut_35 (by first | rfl | omega) ?_
    refine lv_iload_n F.1 F.2.1 dX0_strikeOut_36 rfl (lv_at hl 0 rfl) ?_
    refine rr_bipush F dX0_strikeOut_37 (by decide) ?_
    refine rr_imul F (z := ((nw - 1) - w) * 6) dX0_strikeOut_39 (by first | rfl | omega) ?_
    refine rr_acpyC (rest := []) F hl hK hP hD hS 1 1 rfl rfl (by omega) (by omega) (by omega) (by omega) (by omega) (by decide) (by decide) (fun i x y => hc i (by omega) (by omega)) tw553 (Nat.le_of_ble_eq_true rfl) (Nat.le_of_ble_eq_true rfl) dX0_strikeOut_40 (fun H locs hP hD hS => ?_)
    have hP : va_P D vwCl [(bk, .inr (0, [.ref la, .ref na, vI nw])), (la, .inl (cy 0, 60, .inl (iA (cpZ lt lt ((w + 1) * 6) (w * 6) (((nw - 1) - w) * 6))))), (na, .inl (cy 1, 10, .inl (iA ln)))] H := hP
    have hD : va_D _ [(bk, .inr (0, [.ref la, .ref na, vI nw])), (la, .inl (cy 0, 60, .inl (iA (cpZ lt lt ((w + 1) * 6) (w * 6) (((nw - 1) - w) * 6))))), (na, .inl (cy 1, 10, .inl (iA ln)))] := hD
    refine lv_aload_n F.1 F.2.1 dX0_strikeOut_43 rfl (lv_at hl 1 rfl) ?_
    refine gf0_1 F hK hP 0 rfl tw74 dX0_strikeOut_44 ?_
    refine lv_iload_n F.1 F.2.1 dX0_strikeOut_47 rfl (lv_at hl 2 rfl) ?_
    refine rr_iconst F dX0_strikeOut_48 ?_
    refine rr_iadd F (z := w + 1) dX0_strikeOut_49 (by first | rfl | omega) ?_
    refine lv_aload_n F.1 F.2.1 dX0_strikeOut_50 rfl (lv_at hl 1 rfl) ?_
    refine gf0_1 F hK hP 0 rfl tw74 dX0_strikeOut_51 ?_
    refine lv_iload_n F.1 F.2.1 dX0_strikeOut_54 rfl (lv_at hl 2 rfl) ?_
    refine lv_iload_n F.1 F.2.1 dX0_strikeOut_55 rfl (lv_at hl 0 rfl) ?_
    refine rr_acpyI (rest := []) F hl hK hP hD hS 2 2 rfl rfl (by omega) (by omega) (by omega) (by omega) (by omega) (by decide) (by decide) tw553 (Nat.le_of_ble_eq_true rfl) (Nat.le_of_ble_eq_true rfl) dX0_strikeOut_56 (fun H locs hP hD hS => ?_)
    have hP : va_P D vwCl [(bk, .inr (0, [.ref la, .ref na, vI nw])), (la, .inl (cy 0, 60, .inl (iA (cpZ lt lt ((w + 1) * 6) (w * 6) (((nw - 1) - w) * 6))))), (na, .inl (cy 1, 10, .inl (iA (cpZ ln ln (w + 1) w ((nw - 1) - w)))))] H := hP
    have hD : va_D _ [(bk, .inr (0, [.ref la, .ref na, vI nw])), (la, .inl (cy 0, 60, .inl (iA (cpZ lt lt ((w + 1) * 6) (w * 6) (((nw - 1) - w) * 6))))), (na, .inl (cy 1, 10, .inl (iA (cpZ ln ln (w + 1) w ((nw - 1) - w)))))] := hD
    refine lv_aload_n F.1 F.2.1 dX0_strikeOut_59 rfl (lv_at hl 1 rfl) ?_
    refine lv_dup F.1 F.2.1 dX0_strikeOut_60 rfl ?_
    refine gf0_2 F hK hP 0 rfl tw75 dX0_strikeOut_61 ?_
    refine rr_iconst F dX0_strikeOut_64 ?_
    refine rr_isub F (z := nw - 1) dX0_strikeOut_65 (by first | rfl | omega) ?_
    refine pf0_2 F hK hP hD hS 0 rfl tw75 dX0_strikeOut_66 (fun H locs hP hD hS => ?_)
    have hP : va_P D vwCl [(bk, .inr (0, [.ref la, .ref na, vI (nw - 1)])), (la, .inl (cy 0, 60, .inl (iA (cpZ lt lt ((w + 1) * 6) (w * 6) (((nw - 1) - w) * 6))))), (na, .inl (cy 1, 10, .inl (iA (cpZ ln ln (w + 1) w ((nw - 1) - w)))))] H := hP
    have hD : va_D _ [(bk, .inr (0, [.ref la, .ref na, vI (nw - 1)])), (la, .inl (cy 0, 60, .inl (iA (cpZ lt lt ((w + 1) * 6) (w * 6) (((nw - 1) - w) * 6))))), (na, .inl (cy 1, 10, .inl (iA (cpZ ln ln (w + 1) w ((nw - 1) - w)))))] := hD
    exact rr_wvret F hr hlocks dX0_strikeOut_69 hP hS rfl
  · exfalso; omega
set_option maxRecDepth 100000 in
set_option maxHeartbeats 4000000 in
theorem c_X5_copyFrom (l : Launch) (D : va_G) (cy : Nat → ClassId) (wa wa2 : Nat) (wp wd wq wi we wp2 wd2 wq2 wi2 we2 : Int)  : Wr l yX5_copyFrom cX5_copyFrom 2 (none) 0 [.ref wa, .ref wa2] D cy [(wa, .inr (5, [vI wp, vI wd, vI wq, vI wi, vI we])), (wa2, .inr (5, [vI wp2, vI wd2, vI wq2, vI wi2, vI we2]))] [(wa, .inr (5, [vI wp2, vI wd2, vI wq2, vI wi2, vI we2])), (wa2, .inr (5, [vI wp2, vI wd2, vI wq2, vI wi2, vI we2]))] none := by
  refine Wr.of RX5 rfl [(0, .ref wa), (1, .ref wa2)] rfl (by decide +kernel) (Nat.le_of_ble_eq_true rfl) ?_
  intro p e s m args below meth c F hr hlocks hK hP hD hS hA ls hl
  refine lv_aload_n F.1 F.2.1 dX5_copyFrom_0 rfl (lv_at hl 0 rfl) ?_
  refine lv_aload_n F.1 F.2.1 dX5_copyFrom_1 rfl (lv_at hl 1 rfl) ?_
  refine gf5_0 F hK hP 1 rfl tw92 dX5_copyFrom_2 ?_
  refine pf5_0 F hK hP hD hS 0 rfl tw92 dX5_copyFrom_5 (fun H locs hP hD hS => ?_)
  have hP : va_P D vwCl [(wa, .inr (5, [vI wp2, vI wd, vI wq, vI wi, vI we])), (wa2, .inr (5, [vI wp2, vI wd2, vI wq2, vI wi2, vI we2]))] H := hP
  have hD : va_D _ [(wa, .inr (5, [vI wp2, vI wd, vI wq, vI wi, vI we])), (wa2, .inr (5, [vI wp2, vI wd2, vI wq2, vI wi2, vI we2]))] := hD
  refine lv_aload_n F.1 F.2.1 dX5_copyFrom_8 rfl (lv_at hl 0 rfl) ?_
  refine lv_aload_n F.1 F.2.1 dX5_copyFrom_9 rfl (lv_at hl 1 rfl) ?_
  refine gf5_1 F hK hP 1 rfl tw95 dX5_copyFrom_10 ?_
  refine pf5_1 F hK hP hD hS 0 rfl tw95 dX5_copyFrom_13 (fun H locs hP hD hS => ?_)
  have hP : va_P D vwCl [(wa, .inr (5, [vI wp2, vI wd2, vI wq, vI wi, vI we])), (wa2, .inr (5, [vI wp2, vI wd2, vI wq2, vI wi2, vI we2]))] H := hP
  have hD : va_D _ [(wa, .inr (5, [vI wp2, vI wd2, vI wq, vI wi, vI we])), (wa2, .inr (5, [vI wp2, vI wd2, vI wq2, vI wi2, vI we2]))] := hD
  refine lv_aload_n F.1 F.2.1 dX5_copyFrom_16 rfl (lv_at hl 0 rfl) ?_
  refine lv_aload_n F.1 F.2.1 dX5_copyFrom_17 rfl (lv_at hl 1 rfl) ?_
  refine gf5_2 F hK hP 1 rfl tw98 dX5_copyFrom_18 ?_
  refine pf5_2 F hK hP hD hS 0 rfl tw98 dX5_copyFrom_21 (fun H locs hP hD hS => ?_)
  have hP : va_P D vwCl [(wa, .inr (5, [vI wp2, vI wd2, vI wq2, vI wi, vI we])), (wa2, .inr (5, [vI wp2, vI wd2, vI wq2, vI wi2, vI we2]))] H := hP
  have hD : va_D _ [(wa, .inr (5, [vI wp2, vI wd2, vI wq2, vI wi, vI we])), (wa2, .inr (5, [vI wp2, vI wd2, vI wq2, vI wi2, vI we2]))] := hD
  refine lv_aload_n F.1 F.2.1 dX5_copyFrom_24 rfl (lv_at hl 0 rfl) ?_
  refine lv_aload_n F.1 F.2.1 dX5_copyFrom_25 rfl (lv_at hl 1 rfl) ?_
  refine gf5_3 F hK hP 1 rfl tw101 dX5_copyFrom_26 ?_
  refine pf5_3 F hK hP hD hS 0 rfl tw101 dX5_copyFrom_29 (fun H locs hP hD hS => ?_)
  have hP : va_P D vwCl [(wa, .inr (5, [vI wp2, vI wd2, vI wq2, vI wi2, vI we])), (wa2, .inr (5, [vI wp2, vI wd2, vI wq2, vI wi2, vI we2]))] H := hP
  have hD : va_D _ [(wa, .inr (5, [vI wp2, vI wd2, vI wq2, vI wi2, vI we])), (wa2, .inr (5, [vI wp2, vI wd2, vI wq2, vI wi2, vI we2]))] := hD
  refine lv_aload_n F.1 F.2.1 dX5_copyFrom_32 rfl (lv_at hl 0 rfl) ?_
  refine lv_aload_n F.1 F.2.1 dX5_copyFrom_33 rfl (lv_at hl 1 rfl) ?_
  refine gf5_4 F hK hP 1 rfl tw104 dX5_copyFrom_34 ?_
  refine pf5_4 F hK hP hD hS 0 rfl tw104 dX5_copyFrom_37 (fun H locs hP hD hS => ?_)
  have hP : va_P D vwCl [(wa, .inr (5, [vI wp2, vI wd2, vI wq2, vI wi2, vI we2])), (wa2, .inr (5, [vI wp2, vI wd2, vI wq2, vI wi2, vI we2]))] H := hP
  have hD : va_D _ [(wa, .inr (5, [vI wp2, vI wd2, vI wq2, vI wi2, vI we2])), (wa2, .inr (5, [vI wp2, vI wd2, vI wq2, vI wi2, vI we2]))] := hD
  exact rr_wvret F hr hlocks dX5_copyFrom_40 hP hS rfl
set_option maxRecDepth 100000 in
set_option maxHeartbeats 4000000 in
theorem c_X5_look (l : Launch) (D : va_G) (cy : Nat → ClassId) (wa : Nat) (wp wd wq wi we : Int) (r sg : Nat) (n : Int) (g q : Int → Int) (hG : RG n g q) (hW : WK n wp wd wq wi we) : Wr l yX5_look cX5_look 2 (none) 2 [.ref wa, .ref r] D cy [(wa, .inr (5, [vI wp, vI wd, vI wq, vI wi, vI we])), (r, .inr (2, [.ref sg, vI n])), (sg, .inl (cy 0, 24, .inl (iA g)))] [(wa, .inr (5, [vI wp, vI wd, vI wq, vI wi, vI (bor we (vw n wp wd wi))])), (r, .inr (2, [.ref sg, vI n])), (sg, .inl (cy 0, 24, .inl (iA g)))] none := by
  refine Wr.of RX5 rfl [(0, .ref wa), (1, .ref r)] rfl (by decide +kernel) (Nat.le_of_ble_eq_true rfl) ?_
  intro p e s m args below meth c F hr hlocks hK hP hD hS hA ls hl
  have hn0 := hG.1
  have hn1 := hG.2.1
  obtain ⟨v1, v2, v3, v4, v5⟩ := id hW
  have v6 := p2_24 hn0 hn1
  refine lv_aload_n F.1 F.2.1 dX5_look_0 rfl (lv_at hl 0 rfl) ?_
  refine lv_dup F.1 F.2.1 dX5_look_1 rfl ?_
  refine gf5_4 F hK hP 0 rfl tw104 dX5_look_2 ?_
  refine lv_aload_n F.1 F.2.1 dX5_look_5 rfl (lv_at hl 0 rfl) ?_
  refine lv_aload_n F.1 F.2.1 dX5_look_6 rfl (lv_at hl 0 rfl) ?_
  refine gf5_0 F hK hP 0 rfl tw92 dX5_look_7 ?_
  refine lv_aload_n F.1 F.2.1 dX5_look_10 rfl (lv_at hl 1 rfl) ?_
  refine rr_rdV (rest := [vI we, .ref wa]) F hK (c_X5_viewFrom l D cy wa wp wd wq wi we r sg n g q wp (by first | assumption | omega | exact ⟨by omega, by omega⟩) (by first | assumption | omega | exact ⟨by omega, by omega⟩) (by first | assumption | omega | exact ⟨by omega, by omega⟩)) hP sf_X5_viewFrom tw702 5 rfl rfl ⟨Nat.le_of_ble_eq_true rfl, Nat.le_of_ble_eq_true rfl⟩ hl rfl (Nat.le_of_ble_eq_true rfl) dX5_look_11 ⟨Nat.zero_le _, Nat.zero_le _⟩ ?_
  have q_11_0 := (vw_lt (n := n) (pl := wp) (d := wd) (show 0 < n by omega) (show 0 ≤ wi by omega))
  refine rr_ior F (z := bor we (vw n wp wd wi)) dX5_look_14 ⟨by omega, by omega, rfl⟩ ?_
  refine pf5_4 F hK hP hD hS 0 rfl tw104 dX5_look_15 (fun H locs hP hD hS => ?_)
  have hP : va_P D vwCl [(wa, .inr (5, [vI wp, vI wd, vI wq, vI wi, vI (bor we (vw n wp wd wi))])), (r, .inr (2, [.ref sg, vI n])), (sg, .inl (cy 0, 24, .inl (iA g)))] H := hP
  have hD : va_D _ [(wa, .inr (5, [vI wp, vI wd, vI wq, vI wi, vI (bor we (vw n wp wd wi))])), (r, .inr (2, [.ref sg, vI n])), (sg, .inl (cy 0, 24, .inl (iA g)))] := hD
  exact rr_wvret F hr hlocks dX5_look_18 hP hS rfl
set_option maxRecDepth 100000 in
set_option maxHeartbeats 4000000 in
theorem c_X5_step (l : Launch) (D : va_G) (cy : Nat → ClassId) (wa : Nat) (wp wd wq wi we : Int) (r sg : Nat) (n : Int) (g q : Int → Int) (hG : RG n g q) (hW : WK n wp wd wq wi we) : Wr l yX5_step cX5_step 2 (none) 2 [.ref wa, .ref r] D cy [(wa, .inr (5, [vI wp, vI wd, vI wq, vI wi, vI we])), (r, .inr (2, [.ref sg, vI n])), (sg, .inl (cy 0, 24, .inl (iA g)))] [(wa, .inr (5, [vI (off n wp wd (1 * wq)), vI wd, vI wq, vI wi, vI (bor we (vw n (off n wp wd (1 * wq)) wd wi))])), (r, .inr (2, [.ref sg, vI n])), (sg, .inl (cy 0, 24, .inl (iA g)))] none := by
  refine Wr.of RX5 rfl [(0, .ref wa), (1, .ref r)] rfl (by decide +kernel) (Nat.le_of_ble_eq_true rfl) ?_
  intro p e s m args below meth c F hr hlocks hK hP hD hS hA ls hl
  have hn0 := hG.1
  have hn1 := hG.2.1
  obtain ⟨v1, v2, v3, v4, v5⟩ := id hW
  have v6 := p2_24 hn0 hn1
  refine lv_aload_n F.1 F.2.1 dX5_step_0 rfl (lv_at hl 0 rfl) ?_
  refine lv_aload_n F.1 F.2.1 dX5_step_1 rfl (lv_at hl 0 rfl) ?_
  refine rr_iconst F dX5_step_2 ?_
  refine lv_aload_n F.1 F.2.1 dX5_step_3 rfl (lv_at hl 1 rfl) ?_
  refine rr_rdV (rest := [.ref wa]) F hK (c_X5_placeAfter l D cy wa wp wd wq wi we r sg n g q 1 (by first | assumption | omega | exact ⟨by omega, by omega⟩) (by first | assumption | omega | exact ⟨by omega, by omega⟩) (by first | assumption | omega | exact ⟨by omega, by omega⟩)) hP sf_X5_placeAfter tw737 5 rfl rfl ⟨Nat.le_of_ble_eq_true rfl, Nat.le_of_ble_eq_true rfl⟩ hl rfl (Nat.le_of_ble_eq_true rfl) dX5_step_4 ⟨Nat.zero_le _, Nat.zero_le _⟩ ?_
  have q_4_0 := (off_rng (show 0 < n by omega) wp wd (1 * wq))
  refine pf5_0 F hK hP hD hS 0 rfl tw92 dX5_step_7 (fun H locs hP hD hS => ?_)
  have hP : va_P D vwCl [(wa, .inr (5, [vI (off n wp wd (1 * wq)), vI wd, vI wq, vI wi, vI we])), (r, .inr (2, [.ref sg, vI n])), (sg, .inl (cy 0, 24, .inl (iA g)))] H := hP
  have hD : va_D _ [(wa, .inr (5, [vI (off n wp wd (1 * wq)), vI wd, vI wq, vI wi, vI we])), (r, .inr (2, [.ref sg, vI n])), (sg, .inl (cy 0, 24, .inl (iA g)))] := hD
  refine lv_aload_n F.1 F.2.1 dX5_step_10 rfl (lv_at hl 0 rfl) ?_
  refine lv_dup F.1 F.2.1 dX5_step_11 rfl ?_
  refine gf5_4 F hK hP 0 rfl tw104 dX5_step_12 ?_
  refine lv_aload_n F.1 F.2.1 dX5_step_15 rfl (lv_at hl 0 rfl) ?_
  refine lv_aload_n F.1 F.2.1 dX5_step_16 rfl (lv_at hl 0 rfl) ?_
  refine gf5_0 F hK hP 0 rfl tw92 dX5_step_17 ?_
  refine lv_aload_n F.1 F.2.1 dX5_step_20 rfl (lv_at hl 1 rfl) ?_
  refine rr_rdV (rest := [vI we, .ref wa]) F hK (c_X5_viewFrom l D cy wa (off n wp wd (1 * wq)) wd wq wi we r sg n g q (off n wp wd (1 * wq)) (by first | assumption | omega | exact ⟨by omega, by omega⟩) (⟨q_4_0, v2, v3, v4, v5⟩) (by first | assumption | omega | exact ⟨by omega, by omega⟩)) hP sf_X5_viewFrom tw702 5 rfl rfl ⟨Nat.le_of_ble_eq_true rfl, Nat.le_of_ble_eq_true rfl⟩ hl rfl (Nat.le_of_ble_eq_true rfl) dX5_step_21 ⟨Nat.zero_le _, Nat.zero_le _⟩ ?_
  have q_21_0 := (vw_lt (n := n) (pl := (off n wp wd (1 * wq))) (d := wd) (show 0 < n by omega) (show 0 ≤ wi by omega))
  refine rr_ior F (z := bor we (vw n (off n wp wd (1 * wq)) wd wi)) dX5_step_24 ⟨by omega, by omega, rfl⟩ ?_
  refine pf5_4 F hK hP hD hS 0 rfl tw104 dX5_step_25 (fun H locs hP hD hS => ?_)
  have hP : va_P D vwCl [(wa, .inr (5, [vI (off n wp wd (1 * wq)), vI wd, vI wq, vI wi, vI (bor we (vw n (off n wp wd (1 * wq)) wd wi))])), (r, .inr (2, [.ref sg, vI n])), (sg, .inl (cy 0, 24, .inl (iA g)))] H := hP
  have hD : va_D _ [(wa, .inr (5, [vI (off n wp wd (1 * wq)), vI wd, vI wq, vI wi, vI (bor we (vw n (off n wp wd (1 * wq)) wd wi))])), (r, .inr (2, [.ref sg, vI n])), (sg, .inl (cy 0, 24, .inl (iA g)))] := hD
  exact rr_wvret F hr hlocks dX5_step_28 hP hS rfl
