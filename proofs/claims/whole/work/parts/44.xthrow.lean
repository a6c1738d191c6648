-- the class's methods that refuse: laid by xthrow.py
theorem dva_no {n : Int} {q : Int → Int} {d s : Int} (hn : 0 ≤ n) (hd : 0 ≤ d ∧ d ≤ 1) (hs : ¬ (0 ≤ s ∧ s < cnt (fun p => 0 < seg n q p d) n)) : dva n q d s = -1 := by
  refine (dva_miss hn fun j h0 h1 h => hs ?_).symm
  have e := cnt_plc (fun p => 0 < seg n q p d) hn hd
  have h2 := cnt_rng (fun j => 0 < seg n q (plc n d j) d) h0
  have h3 := cnt_y (P := fun j => 0 < seg n q (plc n d j) d) h0 h.1
  have h4 := cnt_mono (fun j => 0 < seg n q (plc n d j) d) (a := j + 1) (b := n) (by omega) (by omega)
  omega
set_option maxRecDepth 100000 in
set_option maxHeartbeats 4000000 in
theorem t_X6_append_11 (l : Launch) (hnt : l.stackTraces = false) (D : va_G) (cy : Nat → ClassId) (sa : Nat → Nat) (x tx st sk hi sl fi : Nat) (c0 : Int) (r_c0 : inR c0) (h1 : ¬ (0 ≤ c0 ∧ c0 ≤ 255)) : Tx l yX6_append cX6_append 2 (some FieldType.int) 6 [.ref x, vI c0] D cy sa [(x, .inr (6, [.ref tx, .ref st, .ref sk, .ref hi, .ref sl, .ref fi]))] xIA := by
  refine Tx.of RX6 rfl [(0, .ref x), (1, vI c0)] rfl (by decide +kernel) (Nat.le_of_ble_eq_true rfl) ?_
  intro p e s m args below meth c F hex hlocks hK hX hZ hP ls hl
  have r_c0_r : -2147483648 ≤ c0 ∧ c0 < 2147483648 := r_c0
  refine lv_iload_n F.1 F.2.1 dX6_append_0 rfl (lv_at hl 1 rfl) ?_
  refine rr_if_lt F (tgt := 11) dX6_append_1 (by decide) ⟨by omega, by omega⟩ (fun c_1 => ?_) (fun c_1 => ?_)
  · exact rr_throw F hnt hX hZ hl (E := xIA) (text := "not a character code") xatIA (by decide +kernel) tw272 tw12 (List.mem_of_getElem? (i := 0) rfl) dX6_append_11 dX6_append_14 dX6_append_15 dX6_append_17 dX6_append_20 hex ⟨Nat.le_of_ble_eq_true rfl, Nat.le_of_ble_eq_true rfl, Nat.le_of_ble_eq_true rfl, Nat.le_of_ble_eq_true rfl⟩ hlocks
  · refine lv_iload_n F.1 F.2.1 dX6_append_4 rfl (lv_at hl 1 rfl) ?_
    refine rr_sipush F dX6_append_5 (by decide) ?_
    refine rr_icmp_le F (tgt := 21) dX6_append_8 (by decide) ⟨by omega, by omega⟩ ⟨by omega, by omega⟩ (fun c_8 => ?_) (fun c_8 => ?_)
    · exfalso; omega
    · exact rr_throw F hnt hX hZ hl (E := xIA) (text := "not a character code") xatIA (by decide +kernel) tw272 tw12 (List.mem_of_getElem? (i := 0) rfl) dX6_append_11 dX6_append_14 dX6_append_15 dX6_append_17 dX6_append_20 hex ⟨Nat.le_of_ble_eq_true rfl, Nat.le_of_ble_eq_true rfl, Nat.le_of_ble_eq_true rfl, Nat.le_of_ble_eq_true rfl⟩ hlocks
set_option maxRecDepth 100000 in
set_option maxHeartbeats 4000000 in
theorem t_X6_append_31 (l : Launch) (hnt : l.stackTraces = false) (D : va_G) (cy : Nat → ClassId) (sa : Nat → Nat) (x st sk hi sl fi : Nat) (tx ta : Nat) (tl : Int) (tc : Int → Int) (c0 : Int) (hT : (0 ≤ tl ∧ tl ≤ 40) ∧ CH 40 tc) (h1 : 0 ≤ c0 ∧ c0 ≤ 255) (h2 : ¬ tl < 40) : Tx l yX6_append cX6_append 2 (some FieldType.int) 6 [.ref x, vI c0] D cy sa [(x, .inr (6, [.ref tx, .ref st, .ref sk, .ref hi, .ref sl, .ref fi])), (tx, .inr (4, [.ref ta, vI tl])), (ta, .inl (cy 0, 40, .inl (iA tc)))] xIS := by
  refine Tx.of RX6 rfl [(0, .ref x), (1, vI c0)] rfl (by decide +kernel) (Nat.le_of_ble_eq_true rfl) ?_
  intro p e s m args below meth c F hex hlocks hK hX hZ hP ls hl
  obtain ⟨ht0, ht1⟩ := id hT
  refine lv_iload_n F.1 F.2.1 dX6_append_0 rfl (lv_at hl 1 rfl) ?_
  refine rr_if_lt F (tgt := 11) dX6_append_1 (by decide) ⟨by omega, by omega⟩ (fun c_1 => ?_) (fun c_1 => ?_)
  · exfalso; omega
  · refine lv_iload_n F.1 F.2.1 dX6_append_4 rfl (lv_at hl 1 rfl) ?_
    refine rr_sipush F dX6_append_5 (by decide) ?_
    refine rr_icmp_le F (tgt := 21) dX6_append_8 (by decide) ⟨by omega, by omega⟩ ⟨by omega, by omega⟩ (fun c_8 => ?_) (fun c_8 => ?_)
    · refine lv_aload_n F.1 F.2.1 dX6_append_21 rfl (lv_at hl 0 rfl) ?_
      refine gf6_0 F hK hP 0 rfl tw157 dX6_append_22 ?_
      refine rr_rdV (rest := []) F hK (c_X4_isFull l D cy tx ta tl tc (by first | assumption | omega | exact ⟨by omega, by omega⟩)) (hP.sub [1, 2] rfl) sf_X4_isFull tw340 4 rfl rfl ⟨Nat.le_of_ble_eq_true rfl, Nat.le_of_ble_eq_true rfl⟩ hl rfl (Nat.le_of_ble_eq_true rfl) dX6_append_25 ⟨Nat.zero_le _, Nat.zero_le _⟩ ?_
      refine rr_ifP_eq F (tgt := 41) dX6_append_28 (by decide) (fun c_28 => ?_) (fun c_28 => ?_)
      · exfalso; omega
      · exact rr_throw F hnt hX hZ hl (E := xIS) (text := "the text is full") xatIS (by decide +kernel) tw344 tw13 (List.mem_of_getElem? (i := 1) rfl) dX6_append_31 dX6_append_34 dX6_append_35 dX6_append_37 dX6_append_40 hex ⟨Nat.le_of_ble_eq_true rfl, Nat.le_of_ble_eq_true rfl, Nat.le_of_ble_eq_true rfl, Nat.le_of_ble_eq_true rfl⟩ hlocks
    · exfalso; omega
set_option maxRecDepth 100000 in
set_option maxHeartbeats 4000000 in
theorem t_X6_about_10 (l : Launch) (hnt : l.stackTraces = false) (D : va_G) (cy : Nat → ClassId) (sa : Nat → Nat) (x tx st sk hi sl fi : Nat) (i : Int) (r_i : inR i) (h1 : ¬ (0 ≤ i ∧ i ≤ 8)) : Tx l yX6_about cX6_about 2 (some FieldType.int) 6 [.ref x, vI i] D cy sa [(x, .inr (6, [.ref tx, .ref st, .ref sk, .ref hi, .ref sl, .ref fi]))] xIA := by
  refine Tx.of RX6 rfl [(0, .ref x), (1, vI i)] rfl (by decide +kernel) (Nat.le_of_ble_eq_true rfl) ?_
  intro p e s m args below meth c F hex hlocks hK hX hZ hP ls hl
  have r_i_r : -2147483648 ≤ i ∧ i < 2147483648 := r_i
  refine lv_iload_n F.1 F.2.1 dX6_about_0 rfl (lv_at hl 1 rfl) ?_
  refine rr_if_lt F (tgt := 10) dX6_about_1 (by decide) ⟨by omega, by omega⟩ (fun c_1 => ?_) (fun c_1 => ?_)
  · exact rr_throw F hnt hX hZ hl (E := xIA) (text := "no such number") xatIA (by decide +kernel) tw272 tw12 (List.mem_of_getElem? (i := 2) rfl) dX6_about_10 dX6_about_13 dX6_about_14 dX6_about_16 dX6_about_19 hex ⟨Nat.le_of_ble_eq_true rfl, Nat.le_of_ble_eq_true rfl, Nat.le_of_ble_eq_true rfl, Nat.le_of_ble_eq_true rfl⟩ hlocks
  · refine lv_iload_n F.1 F.2.1 dX6_about_4 rfl (lv_at hl 1 rfl) ?_
    refine rr_bipush F dX6_about_5 (by decide) ?_
    refine rr_icmp_le F (tgt := 20) dX6_about_7 (by decide) ⟨by omega, by omega⟩ ⟨by omega, by omega⟩ (fun c_7 => ?_) (fun c_7 => ?_)
    · exfalso; omega
    · exact rr_throw F hnt hX hZ hl (E := xIA) (text := "no such number") xatIA (by decide +kernel) tw272 tw12 (List.mem_of_getElem? (i := 2) rfl) dX6_about_10 dX6_about_13 dX6_about_14 dX6_about_16 dX6_about_19 hex ⟨Nat.le_of_ble_eq_true rfl, Nat.le_of_ble_eq_true rfl, Nat.le_of_ble_eq_true rfl, Nat.le_of_ble_eq_true rfl⟩ hlocks
set_option maxRecDepth 100000 in
set_option maxHeartbeats 4000000 in
theorem t_X6_at_14 (l : Launch) (hnt : l.stackTraces = false) (D : va_G) (cy : Nat → ClassId) (sa : Nat → Nat) (x tx sk hi sl fi : Nat) (st ws : Nat) (wc sp : Int) (r sg : Nat) (n : Int) (g q : Int → Int) (bk la na : Nat) (nw : Int) (lt ln : Int → Int) (bl : Int → Int) (bc : Int → Int → Int) (i : Int) (hG : RG n g q) (hB : BK nw lt ln bl bc) (r_i : inR i) (h1 : ¬ (0 ≤ i ∧ i < n)) : Tx l yX6_at cX6_at 2 (some FieldType.int) 6 [.ref x, vI i] D cy sa [(x, .inr (6, [.ref tx, .ref st, .ref sk, .ref hi, .ref sl, .ref fi])), (st, .inr (3, [.ref r, .ref bk, .ref ws, vI wc, vI sp])), (r, .inr (2, [.ref sg, vI n])), (sg, .inl (cy 0, 24, .inl (iA g))), (bk, .inr (0, [.ref la, .ref na, vI nw])), (la, .inl (cy 0, 60, .inl (iA lt))), (na, .inl (cy 1, 10, .inl (iA ln)))] xIO := by
  refine Tx.of RX6 rfl [(0, .ref x), (1, vI i)] rfl (by decide +kernel) (Nat.le_of_ble_eq_true rfl) ?_
  intro p e s m args below meth c F hex hlocks hK hX hZ hP ls hl
  have r_i_r : -2147483648 ≤ i ∧ i < 2147483648 := r_i
  have hn0 := hG.1
  have hn1 := hG.2.1
  have hw0 := hB.1
  have hw1 := hB.2.1
  refine lv_aload_n F.1 F.2.1 dX6_at_0 rfl (lv_at hl 0 rfl) ?_
  refine gf6_1 F hK hP 0 rfl tw158 dX6_at_1 ?_
  refine gf3_0N F hK hP 1 rfl tn118 dX6_at_4 ?_
  refine lv_iload_n F.1 F.2.1 dX6_at_7 rfl (lv_at hl 1 rfl) ?_
  refine rr_rdV (rest := []) F hK (c_X2_hasPlace l D cy r sg n g q i (by first | assumption | omega | exact ⟨by omega, by omega⟩) (by first | assumption | omega | exact ⟨by omega, by omega⟩)) (hP.sub [2, 3] rfl) sf_X2_hasPlace tw405 2 rfl rfl ⟨Nat.le_of_ble_eq_true rfl, Nat.le_of_ble_eq_true rfl⟩ hl rfl (Nat.le_of_ble_eq_true rfl) dX6_at_8 ⟨Nat.zero_le _, Nat.zero_le _⟩ ?_
  refine rr_ifP_ne F (tgt := 24) dX6_at_11 (by decide) (fun c_11 => ?_) (fun c_11 => ?_)
  · exfalso; omega
  · exact rr_throw F hnt hX hZ hl (E := xIO) (text := "no such place") xatIO (by decide +kernel) tw409 tw14 (List.mem_of_getElem? (i := 3) rfl) dX6_at_14 dX6_at_17 dX6_at_18 dX6_at_20 dX6_at_23 hex ⟨Nat.le_of_ble_eq_true rfl, Nat.le_of_ble_eq_true rfl, Nat.le_of_ble_eq_true rfl, Nat.le_of_ble_eq_true rfl⟩ hlocks
set_option maxRecDepth 100000 in
set_option maxHeartbeats 4000000 in
theorem t_X6_letter_14 (l : Launch) (hnt : l.stackTraces = false) (D : va_G) (cy : Nat → ClassId) (sa : Nat → Nat) (x tx sk hi sl fi : Nat) (st ws : Nat) (wc sp : Int) (r sg : Nat) (n : Int) (g q : Int → Int) (bk la na : Nat) (nw : Int) (lt ln : Int → Int) (bl : Int → Int) (bc : Int → Int → Int) (w i : Int) (hG : RG n g q) (hB : BK nw lt ln bl bc) (r_w : inR w) (r_i : inR i) (h1 : ¬ (0 ≤ w ∧ w < nw)) : Tx l yX6_letter cX6_letter 3 (some FieldType.int) 6 [.ref x, vI w, vI i] D cy sa [(x, .inr (6, [.ref tx, .ref st, .ref sk, .ref hi, .ref sl, .ref fi])), (st, .inr (3, [.ref r, .ref bk, .ref ws, vI wc, vI sp])), (r, .inr (2, [.ref sg, vI n])), (sg, .inl (cy 0, 24, .inl (iA g))), (bk, .inr (0, [.ref la, .ref na, vI nw])), (la, .inl (cy 0, 60, .inl (iA lt))), (na, .inl (cy 1, 10, .inl (iA ln)))] xIO := by
  refine Tx.of RX6 rfl [(0, .ref x), (1, vI w), (2, vI i)] rfl (by decide +kernel) (Nat.le_of_ble_eq_true rfl) ?_
  intro p e s m args below meth c F hex hlocks hK hX hZ hP ls hl
  have r_w_r : -2147483648 ≤ w ∧ w < 2147483648 := r_w
  have r_i_r : -2147483648 ≤ i ∧ i < 2147483648 := r_i
  have hn0 := hG.1
  have hn1 := hG.2.1
  have hw0 := hB.1
  have hw1 := hB.2.1
  refine lv_aload_n F.1 F.2.1 dX6_letter_0 rfl (lv_at hl 0 rfl) ?_
  refine gf6_1 F hK hP 0 rfl tw158 dX6_letter_1 ?_
  refine gf3_1N F hK hP 1 rfl tn120 dX6_letter_4 ?_
  refine lv_iload_n F.1 F.2.1 dX6_letter_7 rfl (lv_at hl 1 rfl) ?_
  refine rr_rdV (rest := []) F hK (c_X0_hasWord l D cy bk la na nw lt ln bl bc w (by first | assumption | omega | exact ⟨by omega, by omega⟩) (by first | assumption | omega | exact ⟨by omega, by omega⟩)) (hP.sub [4, 5, 6] rfl) sf_X0_hasWord tw433 0 rfl rfl ⟨Nat.le_of_ble_eq_true rfl, Nat.le_of_ble_eq_true rfl⟩ hl rfl (Nat.le_of_ble_eq_true rfl) dX6_letter_8 ⟨Nat.zero_le _, Nat.zero_le _⟩ ?_
  refine rr_ifP_ne F (tgt := 24) dX6_letter_11 (by decide) (fun c_11 => ?_) (fun c_11 => ?_)
  · exfalso; omega
  · exact rr_throw F hnt hX hZ hl (E := xIO) (text := "no such word") xatIO (by decide +kernel) tw409 tw14 (List.mem_of_getElem? (i := 4) rfl) dX6_letter_14 dX6_letter_17 dX6_letter_18 dX6_letter_20 dX6_letter_23 hex ⟨Nat.le_of_ble_eq_true rfl, Nat.le_of_ble_eq_true rfl, Nat.le_of_ble_eq_true rfl, Nat.le_of_ble_eq_true rfl⟩ hlocks
set_option maxRecDepth 100000 in
set_option maxHeartbeats 4000000 in
theorem t_X6_letter_28 (l : Launch) (hnt : l.stackTraces = false) (D : va_G) (cy : Nat → ClassId) (sa : Nat → Nat) (x tx sk hi sl fi : Nat) (st ws : Nat) (wc sp : Int) (r sg : Nat) (n : Int) (g q : Int → Int) (bk la na : Nat) (nw : Int) (lt ln : Int → Int) (bl : Int → Int) (bc : Int → Int → Int) (w i : Int) (hG : RG n g q) (hB : BK nw lt ln bl bc) (r_w : inR w) (r_i : inR i) (h1 : 0 ≤ w ∧ w < nw) (h2 : ¬ 0 ≤ i) : Tx l yX6_letter cX6_letter 3 (some FieldType.int) 6 [.ref x, vI w, vI i] D cy sa [(x, .inr (6, [.ref tx, .ref st, .ref sk, .ref hi, .ref sl, .ref fi])), (st, .inr (3, [.ref r, .ref bk, .ref ws, vI wc, vI sp])), (r, .inr (2, [.ref sg, vI n])), (sg, .inl (cy 0, 24, .inl (iA g))), (bk, .inr (0, [.ref la, .ref na, vI nw])), (la, .inl (cy 0, 60, .inl (iA lt))), (na, .inl (cy 1, 10, .inl (iA ln)))] xIA := by
  refine Tx.of RX6 rfl [(0, .ref x), (1, vI w), (2, vI i)] rfl (by decide +kernel) (Nat.le_of_ble_eq_true rfl) ?_
  intro p e s m args below meth c F hex hlocks hK hX hZ hP ls hl
  have r_w_r : -2147483648 ≤ w ∧ w < 2147483648 := r_w
  have r_i_r : -2147483648 ≤ i ∧ i < 2147483648 := r_i
  have hn0 := hG.1
  have hn1 := hG.2.1
  have hw0 := hB.1
  have hw1 := hB.2.1
  refine lv_aload_n F.1 F.2.1 dX6_letter_0 rfl (lv_at hl 0 rfl) ?_
  refine gf6_1 F hK hP 0 rfl tw158 dX6_letter_1 ?_
  refine gf3_1N F hK hP 1 rfl tn120 dX6_letter_4 ?_
  refine lv_iload_n F.1 F.2.1 dX6_letter_7 rfl (lv_at hl 1 rfl) ?_
  refine rr_rdV (rest := []) F hK (c_X0_hasWord l D cy bk la na nw lt ln bl bc w (by first | assumption | omega | exact ⟨by omega, by omega⟩) (by first | assumption | omega | exact ⟨by omega, by omega⟩)) (hP.sub [4, 5, 6] rfl) sf_X0_hasWord tw433 0 rfl rfl ⟨Nat.le_of_ble_eq_true rfl, Nat.le_of_ble_eq_true rfl⟩ hl rfl (Nat.le_of_ble_eq_true rfl) dX6_letter_8 ⟨Nat.zero_le _, Nat.zero_le _⟩ ?_
  refine rr_ifP_ne F (tgt := 24) dX6_letter_11 (by decide) (fun c_11 => ?_) (fun c_11 => ?_)
  · refine lv_iload_n F.1 F.2.1 dX6_letter_24 rfl (lv_at hl 2 rfl) ?_
    refine rr_if_ge F (tgt := 38) dX6_letter_25 (by decide) ⟨by omega, by omega⟩ (fun c_25 => ?_) (fun c_25 => ?_)
    · exfalso; omega
    · exact rr_throw F hnt hX hZ hl (E := xIA) (text := "a negative index") xatIA (by decide +kernel) tw272 tw12 (List.mem_of_getElem? (i := 5) rfl) dX6_letter_28 dX6_letter_31 dX6_letter_32 dX6_letter_34 dX6_letter_37 hex ⟨Nat.le_of_ble_eq_true rfl, Nat.le_of_ble_eq_true rfl, Nat.le_of_ble_eq_true rfl, Nat.le_of_ble_eq_true rfl⟩ hlocks
  · exfalso; omega
set_option maxRecDepth 100000 in
set_option maxHeartbeats 4000000 in
theorem t_X6_reading_7 (l : Launch) (hnt : l.stackTraces = false) (D : va_G) (cy : Nat → ClassId) (sa : Nat → Nat) (x tx st sk hi sl fi : Nat) (d i : Int) (r_d : inR d) (r_i : inR i) (h1 : ¬ (0 ≤ d ∧ d ≤ 1)) : Tx l yX6_reading cX6_reading 3 (some FieldType.int) 6 [.ref x, vI d, vI i] D cy sa [(x, .inr (6, [.ref tx, .ref st, .ref sk, .ref hi, .ref sl, .ref fi]))] xIO := by
  refine Tx.of RX6 rfl [(0, .ref x), (1, vI d), (2, vI i)] rfl (by decide +kernel) (Nat.le_of_ble_eq_true rfl) ?_
  intro p e s m args below meth c F hex hlocks hK hX hZ hP ls hl
  have r_d_r : -2147483648 ≤ d ∧ d < 2147483648 := r_d
  have r_i_r : -2147483648 ≤ i ∧ i < 2147483648 := r_i
  refine lv_iload_n F.1 F.2.1 dX6_reading_0 rfl (lv_at hl 1 rfl) ?_
  refine rr_rdS (rest := []) F hK (c_X6_isDirection l D cy d (by first | assumption | omega | exact ⟨by omega, by omega⟩)) (hP.sub [] rfl) sf_X6_isDirection tw448 ⟨Nat.le_of_ble_eq_true rfl, Nat.le_of_ble_eq_true rfl⟩ hl rfl (Nat.le_of_ble_eq_true rfl) dX6_reading_1 ⟨Nat.zero_le _, Nat.zero_le _⟩ ?_
  refine rr_ifP_ne F (tgt := 17) dX6_reading_4 (by decide) (fun c_4 => ?_) (fun c_4 => ?_)
  · exfalso; omega
  · exact rr_throw F hnt hX hZ hl (E := xIO) (text := "no such direction") xatIO (by decide +kernel) tw409 tw14 (List.mem_of_getElem? (i := 6) rfl) dX6_reading_7 dX6_reading_10 dX6_reading_11 dX6_reading_13 dX6_reading_16 hex ⟨Nat.le_of_ble_eq_true rfl, Nat.le_of_ble_eq_true rfl, Nat.le_of_ble_eq_true rfl, Nat.le_of_ble_eq_true rfl⟩ hlocks
set_option maxRecDepth 100000 in
set_option maxHeartbeats 4000000 in
theorem t_X6_reading_26 (l : Launch) (hnt : l.stackTraces = false) (D : va_G) (cy : Nat → ClassId) (sa : Nat → Nat) (x tx st sk hi sl fi : Nat) (d i : Int) (r_d : inR d) (r_i : inR i) (h1 : 0 ≤ d ∧ d ≤ 1) (h2 : ¬ (0 ≤ i ∧ i ≤ 3)) : Tx l yX6_reading cX6_reading 3 (some FieldType.int) 6 [.ref x, vI d, vI i] D cy sa [(x, .inr (6, [.ref tx, .ref st, .ref sk, .ref hi, .ref sl, .ref fi]))] xIA := by
  refine Tx.of RX6 rfl [(0, .ref x), (1, vI d), (2, vI i)] rfl (by decide +kernel) (Nat.le_of_ble_eq_true rfl) ?_
  intro p e s m args below meth c F hex hlocks hK hX hZ hP ls hl
  have r_d_r : -2147483648 ≤ d ∧ d < 2147483648 := r_d
  have r_i_r : -2147483648 ≤ i ∧ i < 2147483648 := r_i
  refine lv_iload_n F.1 F.2.1 dX6_reading_0 rfl (lv_at hl 1 rfl) ?_
  refine rr_rdS (rest := []) F hK (c_X6_isDirection l D cy d (by first | assumption | omega | exact ⟨by omega, by omega⟩)) (hP.sub [] rfl) sf_X6_isDirection tw448 ⟨Nat.le_of_ble_eq_true rfl, Nat.le_of_ble_eq_true rfl⟩ hl rfl (Nat.le_of_ble_eq_true rfl) dX6_reading_1 ⟨Nat.zero_le _, Nat.zero_le _⟩ ?_
  refine rr_ifP_ne F (tgt := 17) dX6_reading_4 (by decide) (fun c_4 => ?_) (fun c_4 => ?_)
  · refine lv_iload_n F.1 F.2.1 dX6_reading_17 rfl (lv_at hl 2 rfl) ?_
    refine rr_if_lt F (tgt := 26) dX6_reading_18 (by decide) ⟨by omega, by omega⟩ (fun c_18 => ?_) (fun c_18 => ?_)
    · exact rr_throw F hnt hX hZ hl (E := xIA) (text := "no such number") xatIA (by decide +kernel) tw272 tw12 (List.mem_of_getElem? (i := 2) rfl) dX6_reading_26 dX6_reading_29 dX6_reading_30 dX6_reading_32 dX6_reading_35 hex ⟨Nat.le_of_ble_eq_true rfl, Nat.le_of_ble_eq_true rfl, Nat.le_of_ble_eq_true rfl, Nat.le_of_ble_eq_true rfl⟩ hlocks
    · refine lv_iload_n F.1 F.2.1 dX6_reading_21 rfl (lv_at hl 2 rfl) ?_
      refine rr_iconst F dX6_reading_22 ?_
      refine rr_icmp_le F (tgt := 36) dX6_reading_23 (by decide) ⟨by omega, by omega⟩ ⟨by omega, by omega⟩ (fun c_23 => ?_) (fun c_23 => ?_)
      · exfalso; omega
      · exact rr_throw F hnt hX hZ hl (E := xIA) (text := "no such number") xatIA (by decide +kernel) tw272 tw12 (List.mem_of_getElem? (i := 2) rfl) dX6_reading_26 dX6_reading_29 dX6_reading_30 dX6_reading_32 dX6_reading_35 hex ⟨Nat.le_of_ble_eq_true rfl, Nat.le_of_ble_eq_true rfl, Nat.le_of_ble_eq_true rfl, Nat.le_of_ble_eq_true rfl⟩ hlocks
  · exfalso; omega
set_option maxRecDepth 100000 in
set_option maxHeartbeats 4000000 in
theorem t_X6_segment_7 (l : Launch) (hnt : l.stackTraces = false) (D : va_G) (cy : Nat → ClassId) (sa : Nat → Nat) (x tx st sk hi sl fi : Nat) (d s0 i : Int) (r_d : inR d) (r_s0 : inR s0) (r_i : inR i) (h1 : ¬ (0 ≤ d ∧ d ≤ 1)) : Tx l yX6_segment cX6_segment 5 (some FieldType.int) 6 [.ref x, vI d, vI s0, vI i] D cy sa [(x, .inr (6, [.ref tx, .ref st, .ref sk, .ref hi, .ref sl, .ref fi]))] xIO := by
  refine Tx.of RX6 rfl [(0, .ref x), (1, vI d), (2, vI s0), (3, vI i)] rfl (by decide +kernel) (Nat.le_of_ble_eq_true rfl) ?_
  intro p e s m args below meth c F hex hlocks hK hX hZ hP ls hl
  have r_d_r : -2147483648 ≤ d ∧ d < 2147483648 := r_d
  have r_s0_r : -2147483648 ≤ s0 ∧ s0 < 2147483648 := r_s0
  have r_i_r : -2147483648 ≤ i ∧ i < 2147483648 := r_i
  refine lv_iload_n F.1 F.2.1 dX6_segment_0 rfl (lv_at hl 1 rfl) ?_
  refine rr_rdS (rest := []) F hK (c_X6_isDirection l D cy d (by first | assumption | omega | exact ⟨by omega, by omega⟩)) (hP.sub [] rfl) sf_X6_isDirection tw448 ⟨Nat.le_of_ble_eq_true rfl, Nat.le_of_ble_eq_true rfl⟩ hl rfl (Nat.le_of_ble_eq_true rfl) dX6_segment_1 ⟨Nat.zero_le _, Nat.zero_le _⟩ ?_
  refine rr_ifP_ne F (tgt := 17) dX6_segment_4 (by decide) (fun c_4 => ?_) (fun c_4 => ?_)
  · exfalso; omega
  · exact rr_throw F hnt hX hZ hl (E := xIO) (text := "no such direction") xatIO (by decide +kernel) tw409 tw14 (List.mem_of_getElem? (i := 6) rfl) dX6_segment_7 dX6_segment_10 dX6_segment_11 dX6_segment_13 dX6_segment_16 hex ⟨Nat.le_of_ble_eq_true rfl, Nat.le_of_ble_eq_true rfl, Nat.le_of_ble_eq_true rfl, Nat.le_of_ble_eq_true rfl⟩ hlocks
set_option maxRecDepth 100000 in
set_option maxHeartbeats 4000000 in
theorem t_X6_segment_37 (l : Launch) (hnt : l.stackTraces = false) (D : va_G) (cy : Nat → ClassId) (sa : Nat → Nat) (x tx sk hi sl fi : Nat) (st ws : Nat) (wc sp : Int) (r sg : Nat) (n : Int) (g q : Int → Int) (bk la na : Nat) (nw : Int) (lt ln : Int → Int) (bl : Int → Int) (bc : Int → Int → Int) (d s0 i : Int) (hG : RG n g q) (hB : BK nw lt ln bl bc) (r_d : inR d) (r_s0 : inR s0) (r_i : inR i) (h1 : 0 ≤ d ∧ d ≤ 1) (h2 : ¬ (0 ≤ s0 ∧ s0 < cnt (fun p => 0 < seg n q p d) n)) : Tx l yX6_segment cX6_segment 5 (some FieldType.int) 6 [.ref x, vI d, vI s0, vI i] D cy sa [(x, .inr (6, [.ref tx, .ref st, .ref sk, .ref hi, .ref sl, .ref fi])), (st, .inr (3, [.ref r, .ref bk, .ref ws, vI wc, vI sp])), (r, .inr (2, [.ref sg, vI n])), (sg, .inl (cy 0, 24, .inl (iA g))), (bk, .inr (0, [.ref la, .ref na, vI nw])), (la, .inl (cy 0, 60, .inl (iA lt))), (na, .inl (cy 1, 10, .inl (iA ln)))] xIO := by
  refine Tx.of RX6 rfl [(0, .ref x), (1, vI d), (2, vI s0), (3, vI i)] rfl (by decide +kernel) (Nat.le_of_ble_eq_true rfl) ?_
  intro p e s m args below meth c F hex hlocks hK hX hZ hP ls hl
  have r_d_r : -2147483648 ≤ d ∧ d < 2147483648 := r_d
  have r_s0_r : -2147483648 ≤ s0 ∧ s0 < 2147483648 := r_s0
  have r_i_r : -2147483648 ≤ i ∧ i < 2147483648 := r_i
  have hn0 := hG.1
  have hn1 := hG.2.1
  have hw0 := hB.1
  have hw1 := hB.2.1
  have dvn := dva_no (q := q) (d := d) hn0 h1 h2
  refine lv_iload_n F.1 F.2.1 dX6_segment_0 rfl (lv_at hl 1 rfl) ?_
  refine rr_rdS (rest := []) F hK (c_X6_isDirection l D cy d (by first | assumption | omega | exact ⟨by omega, by omega⟩)) (hP.sub [] rfl) sf_X6_isDirection tw448 ⟨Nat.le_of_ble_eq_true rfl, Nat.le_of_ble_eq_true rfl⟩ hl rfl (Nat.le_of_ble_eq_true rfl) dX6_segment_1 ⟨Nat.zero_le _, Nat.zero_le _⟩ ?_
  refine rr_ifP_ne F (tgt := 17) dX6_segment_4 (by decide) (fun c_4 => ?_) (fun c_4 => ?_)
  · refine lv_aload_n F.1 F.2.1 dX6_segment_17 rfl (lv_at hl 0 rfl) ?_
    refine gf6_1 F hK hP 0 rfl tw158 dX6_segment_18 ?_
    refine gf3_0N F hK hP 1 rfl tn118 dX6_segment_21 ?_
    refine lv_iload_n F.1 F.2.1 dX6_segment_24 rfl (lv_at hl 1 rfl) ?_
    refine lv_iload_n F.1 F.2.1 dX6_segment_25 rfl (lv_at hl 2 rfl) ?_
    refine rr_rdV (rest := []) F hK (c_X2_dividerAheadOf l D cy r sg n g q d s0 (by first | assumption | omega | exact ⟨by omega, by omega⟩) (by first | assumption | omega | exact ⟨by omega, by omega⟩) (by first | assumption | omega | exact ⟨by omega, by omega⟩)) (hP.sub [2, 3] rfl) sf_X2_dividerAheadOf tw468 2 rfl rfl ⟨Nat.le_of_ble_eq_true rfl, Nat.le_of_ble_eq_true rfl⟩ hl rfl (Nat.le_of_ble_eq_true rfl) dX6_segment_26 ⟨Nat.zero_le _, Nat.zero_le _⟩ ?_
    refine lv_istore (lv' := [(4, vI (dva n q d s0)), (0, .ref x), (1, vI d), (2, vI s0), (3, vI i)]) F.1 F.2.1 dX6_segment_29 hl (by decide) rfl (fun ls hl => ?_)
    refine lv_iload F.1 F.2.1 dX6_segment_31 (lv_at hl 0 rfl) ?_
    refine rr_iconst F dX6_segment_33 ?_
    refine rr_icmp_ne F (tgt := 47) dX6_segment_34 (by decide) ⟨by omega, by omega⟩ ⟨by omega, by omega⟩ (fun c_34 => ?_) (fun c_34 => ?_)
    · exfalso; omega
    · exact rr_throw F hnt hX hZ hl (E := xIO) (text := "no such segment") xatIO (by decide +kernel) tw409 tw14 (List.mem_of_getElem? (i := 7) rfl) dX6_segment_37 dX6_segment_40 dX6_segment_41 dX6_segment_43 dX6_segment_46 hex ⟨Nat.le_of_ble_eq_true rfl, Nat.le_of_ble_eq_true rfl, Nat.le_of_ble_eq_true rfl, Nat.le_of_ble_eq_true rfl⟩ hlocks
  · exfalso; omega
set_option maxRecDepth 100000 in
set_option maxHeartbeats 4000000 in
theorem t_X6_segment_56 (l : Launch) (hnt : l.stackTraces = false) (D : va_G) (cy : Nat → ClassId) (sa : Nat → Nat) (x tx sk hi sl fi : Nat) (st ws : Nat) (wc sp : Int) (r sg : Nat) (n : Int) (g q : Int → Int) (bk la na : Nat) (nw : Int) (lt ln : Int → Int) (bl : Int → Int) (bc : Int → Int → Int) (d s0 i : Int) (hG : RG n g q) (hB : BK nw lt ln bl bc) (r_d : inR d) (r_s0 : inR s0) (r_i : inR i) (h1 : 0 ≤ d ∧ d ≤ 1) (h2 : 0 ≤ s0 ∧ s0 < cnt (fun p => 0 < seg n q p d) n) (h3 : ¬ (0 ≤ i ∧ i ≤ 4)) : Tx l yX6_segment cX6_segment 5 (some FieldType.int) 6 [.ref x, vI d, vI s0, vI i] D cy sa [(x, .inr (6, [.ref tx, .ref st, .ref sk, .ref hi, .ref sl, .ref fi])), (st, .inr (3, [.ref r, .ref bk, .ref ws, vI wc, vI sp])), (r, .inr (2, [.ref sg, vI n])), (sg, .inl (cy 0, 24, .inl (iA g))), (bk, .inr (0, [.ref la, .ref na, vI nw])), (la, .inl (cy 0, 60, .inl (iA lt))), (na, .inl (cy 1, 10, .inl (iA ln)))] xIA := by
  refine Tx.of RX6 rfl [(0, .ref x), (1, vI d), (2, vI s0), (3, vI i)] rfl (by decide +kernel) (Nat.le_of_ble_eq_true rfl) ?_
  intro p e s m args below meth c F hex hlocks hK hX hZ hP ls hl
  have r_d_r : -2147483648 ≤ d ∧ d < 2147483648 := r_d
  have r_s0_r : -2147483648 ≤ s0 ∧ s0 < 2147483648 := r_s0
  have r_i_r : -2147483648 ≤ i ∧ i < 2147483648 := r_i
  have hn0 := hG.1
  have hn1 := hG.2.1
  have hw0 := hB.1
  have hw1 := hB.2.1
  have cr := cnt_rng (fun p => 0 < seg n q p d) (n := n) hn0
  have dv := dva_ok (q := q) hn0 h1 h2
  refine lv_iload_n F.1 F.2.1 dX6_segment_0 rfl (lv_at hl 1 rfl) ?_
  refine rr_rdS (rest := []) F hK (c_X6_isDirection l D cy d (by first | assumption | omega | exact ⟨by omega, by omega⟩)) (hP.sub [] rfl) sf_X6_isDirection tw448 ⟨Nat.le_of_ble_eq_true rfl, Nat.le_of_ble_eq_true rfl⟩ hl rfl (Nat.le_of_ble_eq_true rfl) dX6_segment_1 ⟨Nat.zero_le _, Nat.zero_le _⟩ ?_
  refine rr_ifP_ne F (tgt := 17) dX6_segment_4 (by decide) (fun c_4 => ?_) (fun c_4 => ?_)
  · refine lv_aload_n F.1 F.2.1 dX6_segment_17 rfl (lv_at hl 0 rfl) ?_
    refine gf6_1 F hK hP 0 rfl tw158 dX6_segment_18 ?_
    refine gf3_0N F hK hP 1 rfl tn118 dX6_segment_21 ?_
    refine lv_iload_n F.1 F.2.1 dX6_segment_24 rfl (lv_at hl 1 rfl) ?_
    refine lv_iload_n F.1 F.2.1 dX6_segment_25 rfl (lv_at hl 2 rfl) ?_
    refine rr_rdV (rest := []) F hK (c_X2_dividerAheadOf l D cy r sg n g q d s0 (by first | assumption | omega | exact ⟨by omega, by omega⟩) (by first | assumption | omega | exact ⟨by omega, by omega⟩) (by first | assumption | omega | exact ⟨by omega, by omega⟩)) (hP.sub [2, 3] rfl) sf_X2_dividerAheadOf tw468 2 rfl rfl ⟨Nat.le_of_ble_eq_true rfl, Nat.le_of_ble_eq_true rfl⟩ hl rfl (Nat.le_of_ble_eq_true rfl) dX6_segment_26 ⟨Nat.zero_le _, Nat.zero_le _⟩ ?_
    refine lv_istore (lv' := [(4, vI (dva n q d s0)), (0, .ref x), (1, vI d), (2, vI s0), (3, vI i)]) F.1 F.2.1 dX6_segment_29 hl (by decide) rfl (fun ls hl => ?_)
    refine lv_iload F.1 F.2.1 dX6_segment_31 (lv_at hl 0 rfl) ?_
    refine rr_iconst F dX6_segment_33 ?_
    refine rr_icmp_ne F (tgt := 47) dX6_segment_34 (by decide) ⟨by omega, by omega⟩ ⟨by omega, by omega⟩ (fun c_34 => ?_) (fun c_34 => ?_)
    · refine lv_iload_n F.1 F.2.1 dX6_segment_47 rfl (lv_at hl 4 rfl) ?_
      refine rr_if_lt F (tgt := 56) dX6_segment_48 (by decide) ⟨by omega, by omega⟩ (fun c_48 => ?_) (fun c_48 => ?_)
      · exact rr_throw F hnt hX hZ hl (E := xIA) (text := "no such number") xatIA (by decide +kernel) tw272 tw12 (List.mem_of_getElem? (i := 2) rfl) dX6_segment_56 dX6_segment_59 dX6_segment_60 dX6_segment_62 dX6_segment_65 hex ⟨Nat.le_of_ble_eq_true rfl, Nat.le_of_ble_eq_true rfl, Nat.le_of_ble_eq_true rfl, Nat.le_of_ble_eq_true rfl⟩ hlocks
      · refine lv_iload_n F.1 F.2.1 dX6_segment_51 rfl (lv_at hl 4 rfl) ?_
        refine rr_iconst F dX6_segment_52 ?_
        refine rr_icmp_le F (tgt := 66) dX6_segment_53 (by decide) ⟨by omega, by omega⟩ ⟨by omega, by omega⟩ (fun c_53 => ?_) (fun c_53 => ?_)
        · exfalso; omega
        · exact rr_throw F hnt hX hZ hl (E := xIA) (text := "no such number") xatIA (by decide +kernel) tw272 tw12 (List.mem_of_getElem? (i := 2) rfl) dX6_segment_56 dX6_segment_59 dX6_segment_60 dX6_segment_62 dX6_segment_65 hex ⟨Nat.le_of_ble_eq_true rfl, Nat.le_of_ble_eq_true rfl, Nat.le_of_ble_eq_true rfl, Nat.le_of_ble_eq_true rfl⟩ hlocks
    · exfalso; omega
  · exfalso; omega
set_option maxRecDepth 100000 in
set_option maxHeartbeats 4000000 in
theorem t_X6_find_21 (l : Launch) (hnt : l.stackTraces = false) (D : va_G) (cy : Nat → ClassId) (sa : Nat → Nat) (x tx sk hi sl fi : Nat) (st ws : Nat) (wc sp : Int) (r sg : Nat) (n : Int) (g q : Int → Int) (bk la na : Nat) (nw : Int) (lt ln : Int → Int) (bl : Int → Int) (bc : Int → Int → Int) (w d kk : Int) (hG : RG n g q) (hB : BK nw lt ln bl bc) (r_w : inR w) (r_d : inR d) (r_kk : inR kk) (h1 : ¬ ((0 ≤ w ∧ w < nw) ∧ 0 ≤ d ∧ d ≤ 1)) : Tx l yX6_find cX6_find 4 (some FieldType.int) 6 [.ref x, vI w, vI d, vI kk] D cy sa [(x, .inr (6, [.ref tx, .ref st, .ref sk, .ref hi, .ref sl, .ref fi])), (st, .inr (3, [.ref r, .ref bk, .ref ws, vI wc, vI sp])), (r, .inr (2, [.ref sg, vI n])), (sg, .inl (cy 0, 24, .inl (iA g))), (bk, .inr (0, [.ref la, .ref na, vI nw])), (la, .inl (cy 0, 60, .inl (iA lt))), (na, .inl (cy 1, 10, .inl (iA ln)))] xIO := by
  refine Tx.of RX6 rfl [(0, .ref x), (1, vI w), (2, vI d), (3, vI kk)] rfl (by decide +kernel) (Nat.le_of_ble_eq_true rfl) ?_
  intro p e s m args below meth c F hex hlocks hK hX hZ hP ls hl
  have r_w_r : -2147483648 ≤ w ∧ w < 2147483648 := r_w
  have r_d_r : -2147483648 ≤ d ∧ d < 2147483648 := r_d
  have r_kk_r : -2147483648 ≤ kk ∧ kk < 2147483648 := r_kk
  have hn0 := hG.1
  have hn1 := hG.2.1
  have hw0 := hB.1
  have hw1 := hB.2.1
  refine lv_aload_n F.1 F.2.1 dX6_find_0 rfl (lv_at hl 0 rfl) ?_
  refine gf6_1 F hK hP 0 rfl tw158 dX6_find_1 ?_
  refine gf3_1N F hK hP 1 rfl tn120 dX6_find_4 ?_
  refine lv_iload_n F.1 F.2.1 dX6_find_7 rfl (lv_at hl 1 rfl) ?_
  refine rr_rdV (rest := []) F hK (c_X0_hasWord l D cy bk la na nw lt ln bl bc w (by first | assumption | omega | exact ⟨by omega, by omega⟩) (by first | assumption | omega | exact ⟨by omega, by omega⟩)) (hP.sub [4, 5, 6] rfl) sf_X0_hasWord tw433 0 rfl rfl ⟨Nat.le_of_ble_eq_true rfl, Nat.le_of_ble_eq_true rfl⟩ hl rfl (Nat.le_of_ble_eq_true rfl) dX6_find_8 ⟨Nat.zero_le _, Nat.zero_le _⟩ ?_
  refine rr_ifP_eq F (tgt := 21) dX6_find_11 (by decide) (fun c_11 => ?_) (fun c_11 => ?_)
  · exact rr_throw F hnt hX hZ hl (E := xIO) (text := "no such word or direction") xatIO (by decide +kernel) tw409 tw14 (List.mem_of_getElem? (i := 8) rfl) dX6_find_21 dX6_find_24 dX6_find_25 dX6_find_27 dX6_find_30 hex ⟨Nat.le_of_ble_eq_true rfl, Nat.le_of_ble_eq_true rfl, Nat.le_of_ble_eq_true rfl, Nat.le_of_ble_eq_true rfl⟩ hlocks
  · refine lv_iload_n F.1 F.2.1 dX6_find_14 rfl (lv_at hl 2 rfl) ?_
    refine rr_rdS (rest := []) F hK (c_X6_isDirection l D cy d (by first | assumption | omega | exact ⟨by omega, by omega⟩)) (hP.sub [] rfl) sf_X6_isDirection tw448 ⟨Nat.le_of_ble_eq_true rfl, Nat.le_of_ble_eq_true rfl⟩ hl rfl (Nat.le_of_ble_eq_true rfl) dX6_find_15 ⟨Nat.zero_le _, Nat.zero_le _⟩ ?_
    refine rr_ifP_ne F (tgt := 31) dX6_find_18 (by decide) (fun c_18 => ?_) (fun c_18 => ?_)
    · exfalso; omega
    · exact rr_throw F hnt hX hZ hl (E := xIO) (text := "no such word or direction") xatIO (by decide +kernel) tw409 tw14 (List.mem_of_getElem? (i := 8) rfl) dX6_find_21 dX6_find_24 dX6_find_25 dX6_find_27 dX6_find_30 hex ⟨Nat.le_of_ble_eq_true rfl, Nat.le_of_ble_eq_true rfl, Nat.le_of_ble_eq_true rfl, Nat.le_of_ble_eq_true rfl⟩ hlocks
set_option maxRecDepth 100000 in
set_option maxHeartbeats 4000000 in
theorem t_X6_find_35 (l : Launch) (hnt : l.stackTraces = false) (D : va_G) (cy : Nat → ClassId) (sa : Nat → Nat) (x tx sk hi sl fi : Nat) (st ws : Nat) (wc sp : Int) (r sg : Nat) (n : Int) (g q : Int → Int) (bk la na : Nat) (nw : Int) (lt ln : Int → Int) (bl : Int → Int) (bc : Int → Int → Int) (w d kk : Int) (hG : RG n g q) (hB : BK nw lt ln bl bc) (r_w : inR w) (r_d : inR d) (r_kk : inR kk) (h1 : (0 ≤ w ∧ w < nw) ∧ 0 ≤ d ∧ d ≤ 1) (h2 : ¬ 0 ≤ kk) : Tx l yX6_find cX6_find 4 (some FieldType.int) 6 [.ref x, vI w, vI d, vI kk] D cy sa [(x, .inr (6, [.ref tx, .ref st, .ref sk, .ref hi, .ref sl, .ref fi])), (st, .inr (3, [.ref r, .ref bk, .ref ws, vI wc, vI sp])), (r, .inr (2, [.ref sg, vI n])), (sg, .inl (cy 0, 24, .inl (iA g))), (bk, .inr (0, [.ref la, .ref na, vI nw])), (la, .inl (cy 0, 60, .inl (iA lt))), (na, .inl (cy 1, 10, .inl (iA ln)))] xIA := by
  refine Tx.of RX6 rfl [(0, .ref x), (1, vI w), (2, vI d), (3, vI kk)] rfl (by decide +kernel) (Nat.le_of_ble_eq_true rfl) ?_
  intro p e s m args below meth c F hex hlocks hK hX hZ hP ls hl
  have r_w_r : -2147483648 ≤ w ∧ w < 2147483648 := r_w
  have r_d_r : -2147483648 ≤ d ∧ d < 2147483648 := r_d
  have r_kk_r : -2147483648 ≤ kk ∧ kk < 2147483648 := r_kk
  have hn0 := hG.1
  have hn1 := hG.2.1
  have hw0 := hB.1
  have hw1 := hB.2.1
  refine lv_aload_n F.1 F.2.1 dX6_find_0 rfl (lv_at hl 0 rfl) ?_
  refine gf6_1 F hK hP 0 rfl tw158 dX6_find_1 ?_
  refine gf3_1N F hK hP 1 rfl tn120 dX6_find_4 ?_
  refine lv_iload_n F.1 F.2.1 dX6_find_7 rfl (lv_at hl 1 rfl) ?_
  refine rr_rdV (rest := []) F hK (c_X0_hasWord l D cy bk la na nw lt ln bl bc w (by first | assumption | omega | exact ⟨by omega, by omega⟩) (by first | assumption | omega | exact ⟨by omega, by omega⟩)) (hP.sub [4, 5, 6] rfl) sf_X0_hasWord tw433 0 rfl rfl ⟨Nat.le_of_ble_eq_true rfl, Nat.le_of_ble_eq_true rfl⟩ hl rfl (Nat.le_of_ble_eq_true rfl) dX6_find_8 ⟨Nat.zero_le _, Nat.zero_le _⟩ ?_
  refine rr_ifP_eq F (tgt := 21) dX6_find_11 (by decide) (fun c_11 => ?_) (fun c_11 => ?_)
  · exfalso; omega
  · refine lv_iload_n F.1 F.2.1 dX6_find_14 rfl (lv_at hl 2 rfl) ?_
    refine rr_rdS (rest := []) F hK (c_X6_isDirection l D cy d (by first | assumption | omega | exact ⟨by omega, by omega⟩)) (hP.sub [] rfl) sf_X6_isDirection tw448 ⟨Nat.le_of_ble_eq_true rfl, Nat.le_of_ble_eq_true rfl⟩ hl rfl (Nat.le_of_ble_eq_true rfl) dX6_find_15 ⟨Nat.zero_le _, Nat.zero_le _⟩ ?_
    refine rr_ifP_ne F (tgt := 31) dX6_find_18 (by decide) (fun c_18 => ?_) (fun c_18 => ?_)
    · refine lv_iload_n F.1 F.2.1 dX6_find_31 rfl (lv_at hl 3 rfl) ?_
      refine rr_if_ge F (tgt := 45) dX6_find_32 (by decide) ⟨by omega, by omega⟩ (fun c_32 => ?_) (fun c_32 => ?_)
      · exfalso; omega
      · exact rr_throw F hnt hX hZ hl (E := xIA) (text := "a negative count") xatIA (by decide +kernel) tw272 tw12 (List.mem_of_getElem? (i := 9) rfl) dX6_find_35 dX6_find_38 dX6_find_39 dX6_find_41 dX6_find_44 hex ⟨Nat.le_of_ble_eq_true rfl, Nat.le_of_ble_eq_true rfl, Nat.le_of_ble_eq_true rfl, Nat.le_of_ble_eq_true rfl⟩ hlocks
    · exfalso; omega
set_option maxRecDepth 100000 in
set_option maxHeartbeats 4000000 in
theorem t_X6_walker_11 (l : Launch) (hnt : l.stackTraces = false) (D : va_G) (cy : Nat → ClassId) (sa : Nat → Nat) (x tx st sk hi sl fi r bk ws : Nat) (wc sp : Int) (w i : Int) (hc : 0 ≤ wc ∧ wc ≤ 4) (r_w : inR w) (r_i : inR i) (h1 : ¬ (0 ≤ w ∧ w < wc)) : Tx l yX6_walker cX6_walker 3 (some FieldType.int) 6 [.ref x, vI w, vI i] D cy sa [(x, .inr (6, [.ref tx, .ref st, .ref sk, .ref hi, .ref sl, .ref fi])), (st, .inr (3, [.ref r, .ref bk, .ref ws, vI wc, vI sp]))] xIO := by
  refine Tx.of RX6 rfl [(0, .ref x), (1, vI w), (2, vI i)] rfl (by decide +kernel) (Nat.le_of_ble_eq_true rfl) ?_
  intro p e s m args below meth c F hex hlocks hK hX hZ hP ls hl
  have r_w_r : -2147483648 ≤ w ∧ w < 2147483648 := r_w
  have r_i_r : -2147483648 ≤ i ∧ i < 2147483648 := r_i
  refine lv_aload_n F.1 F.2.1 dX6_walker_0 rfl (lv_at hl 0 rfl) ?_
  refine gf6_1 F hK hP 0 rfl tw158 dX6_walker_1 ?_
  refine lv_iload_n F.1 F.2.1 dX6_walker_4 rfl (lv_at hl 1 rfl) ?_
  refine rr_rdV (rest := []) F hK (c_X3_hasWalker l D cy st r bk ws wc sp w (by first | assumption | omega | exact ⟨by omega, by omega⟩) (by first | assumption | omega | exact ⟨by omega, by omega⟩)) (hP.sub [1] rfl) sf_X3_hasWalker tw500 3 rfl rfl ⟨Nat.le_of_ble_eq_true rfl, Nat.le_of_ble_eq_true rfl⟩ hl rfl (Nat.le_of_ble_eq_true rfl) dX6_walker_5 ⟨Nat.zero_le _, Nat.zero_le _⟩ ?_
  refine rr_ifP_ne F (tgt := 21) dX6_walker_8 (by decide) (fun c_8 => ?_) (fun c_8 => ?_)
  · exfalso; omega
  · exact rr_throw F hnt hX hZ hl (E := xIO) (text := "no such walker") xatIO (by decide +kernel) tw409 tw14 (List.mem_of_getElem? (i := 10) rfl) dX6_walker_11 dX6_walker_14 dX6_walker_15 dX6_walker_17 dX6_walker_20 hex ⟨Nat.le_of_ble_eq_true rfl, Nat.le_of_ble_eq_true rfl, Nat.le_of_ble_eq_true rfl, Nat.le_of_ble_eq_true rfl⟩ hlocks
set_option maxRecDepth 100000 in
set_option maxHeartbeats 4000000 in
theorem t_X6_walker_31 (l : Launch) (hnt : l.stackTraces = false) (D : va_G) (cy : Nat → ClassId) (sa : Nat → Nat) (x tx st sk hi sl fi r bk ws : Nat) (wc sp : Int) (w i : Int) (hc : 0 ≤ wc ∧ wc ≤ 4) (r_w : inR w) (r_i : inR i) (h1 : 0 ≤ w ∧ w < wc) (h2 : ¬ (0 ≤ i ∧ i ≤ 6)) : Tx l yX6_walker cX6_walker 3 (some FieldType.int) 6 [.ref x, vI w, vI i] D cy sa [(x, .inr (6, [.ref tx, .ref st, .ref sk, .ref hi, .ref sl, .ref fi])), (st, .inr (3, [.ref r, .ref bk, .ref ws, vI wc, vI sp]))] xIA := by
  refine Tx.of RX6 rfl [(0, .ref x), (1, vI w), (2, vI i)] rfl (by decide +kernel) (Nat.le_of_ble_eq_true rfl) ?_
  intro p e s m args below meth c F hex hlocks hK hX hZ hP ls hl
  have r_w_r : -2147483648 ≤ w ∧ w < 2147483648 := r_w
  have r_i_r : -2147483648 ≤ i ∧ i < 2147483648 := r_i
  refine lv_aload_n F.1 F.2.1 dX6_walker_0 rfl (lv_at hl 0 rfl) ?_
  refine gf6_1 F hK hP 0 rfl tw158 dX6_walker_1 ?_
  refine lv_iload_n F.1 F.2.1 dX6_walker_4 rfl (lv_at hl 1 rfl) ?_
  refine rr_rdV (rest := []) F hK (c_X3_hasWalker l D cy st r bk ws wc sp w (by first | assumption | omega | exact ⟨by omega, by omega⟩) (by first | assumption | omega | exact ⟨by omega, by omega⟩)) (hP.sub [1] rfl) sf_X3_hasWalker tw500 3 rfl rfl ⟨Nat.le_of_ble_eq_true rfl, Nat.le_of_ble_eq_true rfl⟩ hl rfl (Nat.le_of_ble_eq_true rfl) dX6_walker_5 ⟨Nat.zero_le _, Nat.zero_le _⟩ ?_
  refine rr_ifP_ne F (tgt := 21) dX6_walker_8 (by decide) (fun c_8 => ?_) (fun c_8 => ?_)
  · refine lv_iload_n F.1 F.2.1 dX6_walker_21 rfl (lv_at hl 2 rfl) ?_
    refine rr_if_lt F (tgt := 31) dX6_walker_22 (by decide) ⟨by omega, by omega⟩ (fun c_22 => ?_) (fun c_22 => ?_)
    · exact rr_throw F hnt hX hZ hl (E := xIA) (text := "no such number") xatIA (by decide +kernel) tw272 tw12 (List.mem_of_getElem? (i := 2) rfl) dX6_walker_31 dX6_walker_34 dX6_walker_35 dX6_walker_37 dX6_walker_40 hex ⟨Nat.le_of_ble_eq_true rfl, Nat.le_of_ble_eq_true rfl, Nat.le_of_ble_eq_true rfl, Nat.le_of_ble_eq_true rfl⟩ hlocks
    · refine lv_iload_n F.1 F.2.1 dX6_walker_25 rfl (lv_at hl 2 rfl) ?_
      refine rr_bipush F dX6_walker_26 (by decide) ?_
      refine rr_icmp_le F (tgt := 41) dX6_walker_28 (by decide) ⟨by omega, by omega⟩ ⟨by omega, by omega⟩ (fun c_28 => ?_) (fun c_28 => ?_)
      · exfalso; omega
      · exact rr_throw F hnt hX hZ hl (E := xIA) (text := "no such number") xatIA (by decide +kernel) tw272 tw12 (List.mem_of_getElem? (i := 2) rfl) dX6_walker_31 dX6_walker_34 dX6_walker_35 dX6_walker_37 dX6_walker_40 hex ⟨Nat.le_of_ble_eq_true rfl, Nat.le_of_ble_eq_true rfl, Nat.le_of_ble_eq_true rfl, Nat.le_of_ble_eq_true rfl⟩ hlocks
  · exfalso; omega
set_option maxRecDepth 100000 in
set_option maxHeartbeats 4000000 in
theorem t_X6_ring_12 (l : Launch) (hnt : l.stackTraces = false) (D : va_G) (cy : Nat → ClassId) (sa : Nat → Nat) (x st sk hi sl fi : Nat) (tx ta : Nat) (tl : Int) (tc : Int → Int) (hT : (0 ≤ tl ∧ tl ≤ 40) ∧ CH 40 tc) (h1 : ¬ ferr tl tc 0 = -1) : Tx l yX6_ring cX6_ring 1 (some FieldType.int) 6 [.ref x] D cy sa [(x, .inr (6, [.ref tx, .ref st, .ref sk, .ref hi, .ref sl, .ref fi])), (tx, .inr (4, [.ref ta, vI tl])), (ta, .inl (cy 0, 40, .inl (iA tc)))] xIS := by
  refine Tx.of RX6 rfl [(0, .ref x)] rfl (by decide +kernel) (Nat.le_of_ble_eq_true rfl) ?_
  intro p e s m args below meth c F hex hlocks hK hX hZ hP ls hl
  obtain ⟨ht0, ht1⟩ := id hT
  have fr := ferr_rng (tl := tl) (tc := tc) (fb := 0) ht0.1
  refine lv_aload_n F.1 F.2.1 dX6_ring_0 rfl (lv_at hl 0 rfl) ?_
  refine gf6_0 F hK hP 0 rfl tw157 dX6_ring_1 ?_
  refine rr_iconst F dX6_ring_4 ?_
  refine rr_rdV (rest := []) F hK (c_X4_firstError l D cy tx ta tl tc 0 (by first | assumption | omega | exact ⟨by omega, by omega⟩) (by first | assumption | omega | exact ⟨by omega, by omega⟩)) (hP.sub [1, 2] rfl) sf_X4_firstError tw189 4 rfl rfl ⟨Nat.le_of_ble_eq_true rfl, Nat.le_of_ble_eq_true rfl⟩ hl rfl (Nat.le_of_ble_eq_true rfl) dX6_ring_5 ⟨Nat.zero_le _, Nat.zero_le _⟩ ?_
  refine rr_iconst F dX6_ring_8 ?_
  refine rr_icmp_eq F (tgt := 22) dX6_ring_9 (by decide) ⟨by omega, by omega⟩ ⟨by omega, by omega⟩ (fun c_9 => ?_) (fun c_9 => ?_)
  · exfalso; omega
  · exact rr_throw F hnt hX hZ hl (E := xIS) (text := "the text is not a ring") xatIS (by decide +kernel) tw344 tw13 (List.mem_of_getElem? (i := 11) rfl) dX6_ring_12 dX6_ring_15 dX6_ring_16 dX6_ring_18 dX6_ring_21 hex ⟨Nat.le_of_ble_eq_true rfl, Nat.le_of_ble_eq_true rfl, Nat.le_of_ble_eq_true rfl, Nat.le_of_ble_eq_true rfl⟩ hlocks
set_option maxRecDepth 100000 in
set_option maxHeartbeats 4000000 in
theorem t_X6_addWord_12 (l : Launch) (hnt : l.stackTraces = false) (D : va_G) (cy : Nat → ClassId) (sa : Nat → Nat) (x st sk hi sl fi : Nat) (tx ta : Nat) (tl : Int) (tc : Int → Int) (hT : (0 ≤ tl ∧ tl ≤ 40) ∧ CH 40 tc) (h1 : ¬ ferr tl tc 1 = -1) : Tx l yX6_addWord cX6_addWord 1 (some FieldType.int) 6 [.ref x] D cy sa [(x, .inr (6, [.ref tx, .ref st, .ref sk, .ref hi, .ref sl, .ref fi])), (tx, .inr (4, [.ref ta, vI tl])), (ta, .inl (cy 0, 40, .inl (iA tc)))] xIS := by
  refine Tx.of RX6 rfl [(0, .ref x)] rfl (by decide +kernel) (Nat.le_of_ble_eq_true rfl) ?_
  intro p e s m args below meth c F hex hlocks hK hX hZ hP ls hl
  obtain ⟨ht0, ht1⟩ := id hT
  have fr := ferr_rng (tl := tl) (tc := tc) (fb := 1) ht0.1
  refine lv_aload_n F.1 F.2.1 dX6_addWord_0 rfl (lv_at hl 0 rfl) ?_
  refine gf6_0 F hK hP 0 rfl tw157 dX6_addWord_1 ?_
  refine rr_iconst F dX6_addWord_4 ?_
  refine rr_rdV (rest := []) F hK (c_X4_firstError l D cy tx ta tl tc 1 (by first | assumption | omega | exact ⟨by omega, by omega⟩) (by first | assumption | omega | exact ⟨by omega, by omega⟩)) (hP.sub [1, 2] rfl) sf_X4_firstError tw189 4 rfl rfl ⟨Nat.le_of_ble_eq_true rfl, Nat.le_of_ble_eq_true rfl⟩ hl rfl (Nat.le_of_ble_eq_true rfl) dX6_addWord_5 ⟨Nat.zero_le _, Nat.zero_le _⟩ ?_
  refine rr_iconst F dX6_addWord_8 ?_
  refine rr_icmp_eq F (tgt := 22) dX6_addWord_9 (by decide) ⟨by omega, by omega⟩ ⟨by omega, by omega⟩ (fun c_9 => ?_) (fun c_9 => ?_)
  · exfalso; omega
  · exact rr_throw F hnt hX hZ hl (E := xIS) (text := "the text is not a word") xatIS (by decide +kernel) tw344 tw13 (List.mem_of_getElem? (i := 12) rfl) dX6_addWord_12 dX6_addWord_15 dX6_addWord_16 dX6_addWord_18 dX6_addWord_21 hex ⟨Nat.le_of_ble_eq_true rfl, Nat.le_of_ble_eq_true rfl, Nat.le_of_ble_eq_true rfl, Nat.le_of_ble_eq_true rfl⟩ hlocks
set_option maxRecDepth 100000 in
set_option maxHeartbeats 4000000 in
theorem t_X6_addWord_35 (l : Launch) (hnt : l.stackTraces = false) (D : va_G) (cy : Nat → ClassId) (sa : Nat → Nat) (x sk hi sl fi : Nat) (st ws : Nat) (wc sp : Int) (r sg : Nat) (n : Int) (g q : Int → Int) (bk la na : Nat) (nw : Int) (lt ln : Int → Int) (bl : Int → Int) (bc : Int → Int → Int) (tx ta : Nat) (tl : Int) (tc : Int → Int) (hG : RG n g q) (hB : BK nw lt ln bl bc) (hT : (0 ≤ tl ∧ tl ≤ 40) ∧ CH 40 tc) (h1 : ferr tl tc 1 = -1) (h2 : ¬ nw < 10) : Tx l yX6_addWord cX6_addWord 1 (some FieldType.int) 6 [.ref x] D cy sa [(x, .inr (6, [.ref tx, .ref st, .ref sk, .ref hi, .ref sl, .ref fi])), (tx, .inr (4, [.ref ta, vI tl])), (ta, .inl (cy 0, 40, .inl (iA tc))), (st, .inr (3, [.ref r, .ref bk, .ref ws, vI wc, vI sp])), (r, .inr (2, [.ref sg, vI n])), (sg, .inl (cy 0, 24, .inl (iA g))), (bk, .inr (0, [.ref la, .ref na, vI nw])), (la, .inl (cy 0, 60, .inl (iA lt))), (na, .inl (cy 1, 10, .inl (iA ln)))] xIS := by
  refine Tx.of RX6 rfl [(0, .ref x)] rfl (by decide +kernel) (Nat.le_of_ble_eq_true rfl) ?_
  intro p e s m args below meth c F hex hlocks hK hX hZ hP ls hl
  have hn0 := hG.1
  have hn1 := hG.2.1
  have hw0 := hB.1
  have hw1 := hB.2.1
  obtain ⟨ht0, ht1⟩ := id hT
  refine lv_aload_n F.1 F.2.1 dX6_addWord_0 rfl (lv_at hl 0 rfl) ?_
  refine gf6_0 F hK hP 0 rfl tw157 dX6_addWord_1 ?_
  refine rr_iconst F dX6_addWord_4 ?_
  refine rr_rdV (rest := []) F hK (c_X4_firstError l D cy tx ta tl tc 1 (by first | assumption | omega | exact ⟨by omega, by omega⟩) (by first | assumption | omega | exact ⟨by omega, by omega⟩)) (hP.sub [1, 2] rfl) sf_X4_firstError tw189 4 rfl rfl ⟨Nat.le_of_ble_eq_true rfl, Nat.le_of_ble_eq_true rfl⟩ hl rfl (Nat.le_of_ble_eq_true rfl) dX6_addWord_5 ⟨Nat.zero_le _, Nat.zero_le _⟩ ?_
  refine rr_iconst F dX6_addWord_8 ?_
  refine rr_icmp_eq F (tgt := 22) dX6_addWord_9 (by decide) ⟨by omega, by omega⟩ ⟨by omega, by omega⟩ (fun c_9 => ?_) (fun c_9 => ?_)
  · refine lv_aload_n F.1 F.2.1 dX6_addWord_22 rfl (lv_at hl 0 rfl) ?_
    refine gf6_1 F hK hP 0 rfl tw158 dX6_addWord_23 ?_
    refine gf3_1N F hK hP 3 rfl tn120 dX6_addWord_26 ?_
    refine rr_rdV (rest := []) F hK (c_X0_isFull l D cy bk la na nw lt ln bl bc (by first | assumption | omega | exact ⟨by omega, by omega⟩)) (hP.sub [6, 7, 8] rfl) sf_X0_isFull tw577 0 rfl rfl ⟨Nat.le_of_ble_eq_true rfl, Nat.le_of_ble_eq_true rfl⟩ hl rfl (Nat.le_of_ble_eq_true rfl) dX6_addWord_29 ⟨Nat.zero_le _, Nat.zero_le _⟩ ?_
    refine rr_ifP_eq F (tgt := 45) dX6_addWord_32 (by decide) (fun c_32 => ?_) (fun c_32 => ?_)
    · exfalso; omega
    · exact rr_throw F hnt hX hZ hl (E := xIS) (text := "the book is full") xatIS (by decide +kernel) tw344 tw13 (List.mem_of_getElem? (i := 13) rfl) dX6_addWord_35 dX6_addWord_38 dX6_addWord_39 dX6_addWord_41 dX6_addWord_44 hex ⟨Nat.le_of_ble_eq_true rfl, Nat.le_of_ble_eq_true rfl, Nat.le_of_ble_eq_true rfl, Nat.le_of_ble_eq_true rfl⟩ hlocks
  · exfalso; omega
set_option maxRecDepth 100000 in
set_option maxHeartbeats 4000000 in
theorem t_X6_removeWord_14 (l : Launch) (hnt : l.stackTraces = false) (D : va_G) (cy : Nat → ClassId) (sa : Nat → Nat) (x tx sk hi sl fi : Nat) (st ws : Nat) (wc sp : Int) (r sg : Nat) (n : Int) (g q : Int → Int) (bk la na : Nat) (nw : Int) (lt ln : Int → Int) (bl : Int → Int) (bc : Int → Int → Int) (w : Int) (hG : RG n g q) (hB : BK nw lt ln bl bc) (r_w : inR w) (h1 : ¬ (0 ≤ w ∧ w < nw)) : Tx l yX6_removeWord cX6_removeWord 2 (some FieldType.int) 6 [.ref x, vI w] D cy sa [(x, .inr (6, [.ref tx, .ref st, .ref sk, .ref hi, .ref sl, .ref fi])), (st, .inr (3, [.ref r, .ref bk, .ref ws, vI wc, vI sp])), (r, .inr (2, [.ref sg, vI n])), (sg, .inl (cy 0, 24, .inl (iA g))), (bk, .inr (0, [.ref la, .ref na, vI nw])), (la, .inl (cy 0, 60, .inl (iA lt))), (na, .inl (cy 1, 10, .inl (iA ln)))] xIO := by
  refine Tx.of RX6 rfl [(0, .ref x), (1, vI w)] rfl (by decide +kernel) (Nat.le_of_ble_eq_true rfl) ?_
  intro p e s m args below meth c F hex hlocks hK hX hZ hP ls hl
  have r_w_r : -2147483648 ≤ w ∧ w < 2147483648 := r_w
  have hn0 := hG.1
  have hn1 := hG.2.1
  have hw0 := hB.1
  have hw1 := hB.2.1
  refine lv_aload_n F.1 F.2.1 dX6_removeWord_0 rfl (lv_at hl 0 rfl) ?_
  refine gf6_1 F hK hP 0 rfl tw158 dX6_removeWord_1 ?_
  refine gf3_1N F hK hP 1 rfl tn120 dX6_removeWord_4 ?_
  refine lv_iload_n F.1 F.2.1 dX6_removeWord_7 rfl (lv_at hl 1 rfl) ?_
  refine rr_rdV (rest := []) F hK (c_X0_hasWord l D cy bk la na nw lt ln bl bc w (by first | assumption | omega | exact ⟨by omega, by omega⟩) (by first | assumption | omega | exact ⟨by omega, by omega⟩)) (hP.sub [4, 5, 6] rfl) sf_X0_hasWord tw433 0 rfl rfl ⟨Nat.le_of_ble_eq_true rfl, Nat.le_of_ble_eq_true rfl⟩ hl rfl (Nat.le_of_ble_eq_true rfl) dX6_removeWord_8 ⟨Nat.zero_le _, Nat.zero_le _⟩ ?_
  refine rr_ifP_ne F (tgt := 24) dX6_removeWord_11 (by decide) (fun c_11 => ?_) (fun c_11 => ?_)
  · exfalso; omega
  · exact rr_throw F hnt hX hZ hl (E := xIO) (text := "no such word") xatIO (by decide +kernel) tw409 tw14 (List.mem_of_getElem? (i := 4) rfl) dX6_removeWord_14 dX6_removeWord_17 dX6_removeWord_18 dX6_removeWord_20 dX6_removeWord_23 hex ⟨Nat.le_of_ble_eq_true rfl, Nat.le_of_ble_eq_true rfl, Nat.le_of_ble_eq_true rfl, Nat.le_of_ble_eq_true rfl⟩ hlocks
set_option maxRecDepth 100000 in
set_option maxHeartbeats 4000000 in
theorem t_X6_carve_14 (l : Launch) (hnt : l.stackTraces = false) (D : va_G) (cy : Nat → ClassId) (sa : Nat → Nat) (x tx sk hi sl fi : Nat) (st ws : Nat) (wc sp : Int) (r sg : Nat) (n : Int) (g q : Int → Int) (bk la na : Nat) (nw : Int) (lt ln : Int → Int) (bl : Int → Int) (bc : Int → Int → Int) (i c0 : Int) (hG : RG n g q) (hB : BK nw lt ln bl bc) (r_i : inR i) (r_c0 : inR c0) (h1 : ¬ (0 ≤ i ∧ i < n)) : Tx l yX6_carve cX6_carve 4 (some FieldType.int) 6 [.ref x, vI i, vI c0] D cy sa [(x, .inr (6, [.ref tx, .ref st, .ref sk, .ref hi, .ref sl, .ref fi])), (st, .inr (3, [.ref r, .ref bk, .ref ws, vI wc, vI sp])), (r, .inr (2, [.ref sg, vI n])), (sg, .inl (cy 0, 24, .inl (iA g))), (bk, .inr (0, [.ref la, .ref na, vI nw])), (la, .inl (cy 0, 60, .inl (iA lt))), (na, .inl (cy 1, 10, .inl (iA ln)))] xIO := by
  refine Tx.of RX6 rfl [(0, .ref x), (1, vI i), (2, vI c0)] rfl (by decide +kernel) (Nat.le_of_ble_eq_true rfl) ?_
  intro p e s m args below meth c F hex hlocks hK hX hZ hP ls hl
  have r_i_r : -2147483648 ≤ i ∧ i < 2147483648 := r_i
  have r_c0_r : -2147483648 ≤ c0 ∧ c0 < 2147483648 := r_c0
  have hn0 := hG.1
  have hn1 := hG.2.1
  have hw0 := hB.1
  have hw1 := hB.2.1
  refine lv_aload_n F.1 F.2.1 dX6_carve_0 rfl (lv_at hl 0 rfl) ?_
  refine gf6_1 F hK hP 0 rfl tw158 dX6_carve_1 ?_
  refine gf3_0N F hK hP 1 rfl tn118 dX6_carve_4 ?_
  refine lv_iload_n F.1 F.2.1 dX6_carve_7 rfl (lv_at hl 1 rfl) ?_
  refine rr_rdV (rest := []) F hK (c_X2_hasPlace l D cy r sg n g q i (by first | assumption | omega | exact ⟨by omega, by omega⟩) (by first | assumption | omega | exact ⟨by omega, by omega⟩)) (hP.sub [2, 3] rfl) sf_X2_hasPlace tw405 2 rfl rfl ⟨Nat.le_of_ble_eq_true rfl, Nat.le_of_ble_eq_true rfl⟩ hl rfl (Nat.le_of_ble_eq_true rfl) dX6_carve_8 ⟨Nat.zero_le _, Nat.zero_le _⟩ ?_
  refine rr_ifP_ne F (tgt := 24) dX6_carve_11 (by decide) (fun c_11 => ?_) (fun c_11 => ?_)
  · exfalso; omega
  · exact rr_throw F hnt hX hZ hl (E := xIO) (text := "no such place") xatIO (by decide +kernel) tw409 tw14 (List.mem_of_getElem? (i := 3) rfl) dX6_carve_14 dX6_carve_17 dX6_carve_18 dX6_carve_20 dX6_carve_23 hex ⟨Nat.le_of_ble_eq_true rfl, Nat.le_of_ble_eq_true rfl, Nat.le_of_ble_eq_true rfl, Nat.le_of_ble_eq_true rfl⟩ hlocks
set_option maxRecDepth 100000 in
set_option maxHeartbeats 4000000 in
theorem t_X6_carve_31 (l : Launch) (hnt : l.stackTraces = false) (D : va_G) (cy : Nat → ClassId) (sa : Nat → Nat) (x tx sk hi sl fi : Nat) (st ws : Nat) (wc sp : Int) (r sg : Nat) (n : Int) (g q : Int → Int) (bk la na : Nat) (nw : Int) (lt ln : Int → Int) (bl : Int → Int) (bc : Int → Int → Int) (i c0 : Int) (hG : RG n g q) (hB : BK nw lt ln bl bc) (r_i : inR i) (r_c0 : inR c0) (h1 : 0 ≤ i ∧ i < n) (h2 : ¬ (0 ≤ c0 ∧ c0 ≤ 8)) : Tx l yX6_carve cX6_carve 4 (some FieldType.int) 6 [.ref x, vI i, vI c0] D cy sa [(x, .inr (6, [.ref tx, .ref st, .ref sk, .ref hi, .ref sl, .ref fi])), (st, .inr (3, [.ref r, .ref bk, .ref ws, vI wc, vI sp])), (r, .inr (2, [.ref sg, vI n])), (sg, .inl (cy 0, 24, .inl (iA g))), (bk, .inr (0, [.ref la, .ref na, vI nw])), (la, .inl (cy 0, 60, .inl (iA lt))), (na, .inl (cy 1, 10, .inl (iA ln)))] xIA := by
  refine Tx.of RX6 rfl [(0, .ref x), (1, vI i), (2, vI c0)] rfl (by decide +kernel) (Nat.le_of_ble_eq_true rfl) ?_
  intro p e s m args below meth c F hex hlocks hK hX hZ hP ls hl
  have r_i_r : -2147483648 ≤ i ∧ i < 2147483648 := r_i
  have r_c0_r : -2147483648 ≤ c0 ∧ c0 < 2147483648 := r_c0
  have hn0 := hG.1
  have hn1 := hG.2.1
  have hw0 := hB.1
  have hw1 := hB.2.1
  refine lv_aload_n F.1 F.2.1 dX6_carve_0 rfl (lv_at hl 0 rfl) ?_
  refine gf6_1 F hK hP 0 rfl tw158 dX6_carve_1 ?_
  refine gf3_0N F hK hP 1 rfl tn118 dX6_carve_4 ?_
  refine lv_iload_n F.1 F.2.1 dX6_carve_7 rfl (lv_at hl 1 rfl) ?_
  refine rr_rdV (rest := []) F hK (c_X2_hasPlace l D cy r sg n g q i (by first | assumption | omega | exact ⟨by omega, by omega⟩) (by first | assumption | omega | exact ⟨by omega, by omega⟩)) (hP.sub [2, 3] rfl) sf_X2_hasPlace tw405 2 rfl rfl ⟨Nat.le_of_ble_eq_true rfl, Nat.le_of_ble_eq_true rfl⟩ hl rfl (Nat.le_of_ble_eq_true rfl) dX6_carve_8 ⟨Nat.zero_le _, Nat.zero_le _⟩ ?_
  refine rr_ifP_ne F (tgt := 24) dX6_carve_11 (by decide) (fun c_11 => ?_) (fun c_11 => ?_)
  · refine lv_iload_n F.1 F.2.1 dX6_carve_24 rfl (lv_at hl 2 rfl) ?_
    refine rr_rdS (rest := []) F hK (c_X6_isCarvable l D cy c0 (by first | assumption | omega | exact ⟨by omega, by omega⟩)) (hP.sub [] rfl) sf_X6_isCarvable tw607 ⟨Nat.le_of_ble_eq_true rfl, Nat.le_of_ble_eq_true rfl⟩ hl rfl (Nat.le_of_ble_eq_true rfl) dX6_carve_25 ⟨Nat.zero_le _, Nat.zero_le _⟩ ?_
    refine rr_ifP_ne F (tgt := 41) dX6_carve_28 (by decide) (fun c_28 => ?_) (fun c_28 => ?_)
    · exfalso; omega
    · exact rr_throw F hnt hX hZ hl (E := xIA) (text := "no such sign") xatIA (by decide +kernel) tw272 tw12 (List.mem_of_getElem? (i := 14) rfl) dX6_carve_31 dX6_carve_34 dX6_carve_35 dX6_carve_37 dX6_carve_40 hex ⟨Nat.le_of_ble_eq_true rfl, Nat.le_of_ble_eq_true rfl, Nat.le_of_ble_eq_true rfl, Nat.le_of_ble_eq_true rfl⟩ hlocks
  · exfalso; omega
set_option maxRecDepth 100000 in
set_option maxHeartbeats 4000000 in
theorem t_X6_wear_14 (l : Launch) (hnt : l.stackTraces = false) (D : va_G) (cy : Nat → ClassId) (sa : Nat → Nat) (x tx sk hi sl fi : Nat) (st ws : Nat) (wc sp : Int) (r sg : Nat) (n : Int) (g q : Int → Int) (bk la na : Nat) (nw : Int) (lt ln : Int → Int) (bl : Int → Int) (bc : Int → Int → Int) (i : Int) (hG : RG n g q) (hB : BK nw lt ln bl bc) (r_i : inR i) (h1 : ¬ (0 ≤ i ∧ i < n)) : Tx l yX6_wear cX6_wear 2 (some FieldType.int) 6 [.ref x, vI i] D cy sa [(x, .inr (6, [.ref tx, .ref st, .ref sk, .ref hi, .ref sl, .ref fi])), (st, .inr (3, [.ref r, .ref bk, .ref ws, vI wc, vI sp])), (r, .inr (2, [.ref sg, vI n])), (sg, .inl (cy 0, 24, .inl (iA g))), (bk, .inr (0, [.ref la, .ref na, vI nw])), (la, .inl (cy 0, 60, .inl (iA lt))), (na, .inl (cy 1, 10, .inl (iA ln)))] xIO := by
  refine Tx.of RX6 rfl [(0, .ref x), (1, vI i)] rfl (by decide +kernel) (Nat.le_of_ble_eq_true rfl) ?_
  intro p e s m args below meth c F hex hlocks hK hX hZ hP ls hl
  have r_i_r : -2147483648 ≤ i ∧ i < 2147483648 := r_i
  have hn0 := hG.1
  have hn1 := hG.2.1
  have hw0 := hB.1
  have hw1 := hB.2.1
  refine lv_aload_n F.1 F.2.1 dX6_wear_0 rfl (lv_at hl 0 rfl) ?_
  refine gf6_1 F hK hP 0 rfl tw158 dX6_wear_1 ?_
  refine gf3_0N F hK hP 1 rfl tn118 dX6_wear_4 ?_
  refine lv_iload_n F.1 F.2.1 dX6_wear_7 rfl (lv_at hl 1 rfl) ?_
  refine rr_rdV (rest := []) F hK (c_X2_hasPlace l D cy r sg n g q i (by first | assumption | omega | exact ⟨by omega, by omega⟩) (by first | assumption | omega | exact ⟨by omega, by omega⟩)) (hP.sub [2, 3] rfl) sf_X2_hasPlace tw405 2 rfl rfl ⟨Nat.le_of_ble_eq_true rfl, Nat.le_of_ble_eq_true rfl⟩ hl rfl (Nat.le_of_ble_eq_true rfl) dX6_wear_8 ⟨Nat.zero_le _, Nat.zero_le _⟩ ?_
  refine rr_ifP_ne F (tgt := 24) dX6_wear_11 (by decide) (fun c_11 => ?_) (fun c_11 => ?_)
  · exfalso; omega
  · exact rr_throw F hnt hX hZ hl (E := xIO) (text := "no such place") xatIO (by decide +kernel) tw409 tw14 (List.mem_of_getElem? (i := 3) rfl) dX6_wear_14 dX6_wear_17 dX6_wear_18 dX6_wear_20 dX6_wear_23 hex ⟨Nat.le_of_ble_eq_true rfl, Nat.le_of_ble_eq_true rfl, Nat.le_of_ble_eq_true rfl, Nat.le_of_ble_eq_true rfl⟩ hlocks
set_option maxRecDepth 100000 in
set_option maxHeartbeats 4000000 in
theorem t_X6_insert_18 (l : Launch) (hnt : l.stackTraces = false) (D : va_G) (cy : Nat → ClassId) (sa : Nat → Nat) (x tx sk hi sl fi : Nat) (st ws : Nat) (wc sp : Int) (r sg : Nat) (n : Int) (g q : Int → Int) (bk la na : Nat) (nw : Int) (lt ln : Int → Int) (bl : Int → Int) (bc : Int → Int → Int) (i c0 : Int) (hG : RG n g q) (hB : BK nw lt ln bl bc) (r_i : inR i) (r_c0 : inR c0) (h1 : ¬ (0 ≤ i ∧ i ≤ n)) : Tx l yX6_insert cX6_insert 3 (some FieldType.int) 6 [.ref x, vI i, vI c0] D cy sa [(x, .inr (6, [.ref tx, .ref st, .ref sk, .ref hi, .ref sl, .ref fi])), (st, .inr (3, [.ref r, .ref bk, .ref ws, vI wc, vI sp])), (r, .inr (2, [.ref sg, vI n])), (sg, .inl (cy 0, 24, .inl (iA g))), (bk, .inr (0, [.ref la, .ref na, vI nw])), (la, .inl (cy 0, 60, .inl (iA lt))), (na, .inl (cy 1, 10, .inl (iA ln)))] xIO := by
  refine Tx.of RX6 rfl [(0, .ref x), (1, vI i), (2, vI c0)] rfl (by decide +kernel) (Nat.le_of_ble_eq_true rfl) ?_
  intro p e s m args below meth c F hex hlocks hK hX hZ hP ls hl
  have r_i_r : -2147483648 ≤ i ∧ i < 2147483648 := r_i
  have r_c0_r : -2147483648 ≤ c0 ∧ c0 < 2147483648 := r_c0
  have hn0 := hG.1
  have hn1 := hG.2.1
  have hw0 := hB.1
  have hw1 := hB.2.1
  refine lv_iload_n F.1 F.2.1 dX6_insert_0 rfl (lv_at hl 1 rfl) ?_
  refine rr_if_lt F (tgt := 18) dX6_insert_1 (by decide) ⟨by omega, by omega⟩ (fun c_1 => ?_) (fun c_1 => ?_)
  · exact rr_throw F hnt hX hZ hl (E := xIO) (text := "no such place") xatIO (by decide +kernel) tw409 tw14 (List.mem_of_getElem? (i := 3) rfl) dX6_insert_18 dX6_insert_21 dX6_insert_22 dX6_insert_24 dX6_insert_27 hex ⟨Nat.le_of_ble_eq_true rfl, Nat.le_of_ble_eq_true rfl, Nat.le_of_ble_eq_true rfl, Nat.le_of_ble_eq_true rfl⟩ hlocks
  · refine lv_iload_n F.1 F.2.1 dX6_insert_4 rfl (lv_at hl 1 rfl) ?_
    refine lv_aload_n F.1 F.2.1 dX6_insert_5 rfl (lv_at hl 0 rfl) ?_
    refine gf6_1 F hK hP 0 rfl tw158 dX6_insert_6 ?_
    refine gf3_0N F hK hP 1 rfl tn118 dX6_insert_9 ?_
    refine gf2_1N F hK hP 2 rfl tn59 dX6_insert_12 ?_
    refine rr_icmp_le F (tgt := 28) dX6_insert_15 (by decide) ⟨by omega, by omega⟩ ⟨by omega, by omega⟩ (fun c_15 => ?_) (fun c_15 => ?_)
    · exfalso; omega
    · exact rr_throw F hnt hX hZ hl (E := xIO) (text := "no such place") xatIO (by decide +kernel) tw409 tw14 (List.mem_of_getElem? (i := 3) rfl) dX6_insert_18 dX6_insert_21 dX6_insert_22 dX6_insert_24 dX6_insert_27 hex ⟨Nat.le_of_ble_eq_true rfl, Nat.le_of_ble_eq_true rfl, Nat.le_of_ble_eq_true rfl, Nat.le_of_ble_eq_true rfl⟩ hlocks
set_option maxRecDepth 100000 in
set_option maxHeartbeats 4000000 in
theorem t_X6_insert_35 (l : Launch) (hnt : l.stackTraces = false) (D : va_G) (cy : Nat → ClassId) (sa : Nat → Nat) (x tx sk hi sl fi : Nat) (st ws : Nat) (wc sp : Int) (r sg : Nat) (n : Int) (g q : Int → Int) (bk la na : Nat) (nw : Int) (lt ln : Int → Int) (bl : Int → Int) (bc : Int → Int → Int) (i c0 : Int) (hG : RG n g q) (hB : BK nw lt ln bl bc) (r_i : inR i) (r_c0 : inR c0) (h1 : 0 ≤ i ∧ i ≤ n) (h2 : ¬ (0 ≤ c0 ∧ c0 ≤ 8)) : Tx l yX6_insert cX6_insert 3 (some FieldType.int) 6 [.ref x, vI i, vI c0] D cy sa [(x, .inr (6, [.ref tx, .ref st, .ref sk, .ref hi, .ref sl, .ref fi])), (st, .inr (3, [.ref r, .ref bk, .ref ws, vI wc, vI sp])), (r, .inr (2, [.ref sg, vI n])), (sg, .inl (cy 0, 24, .inl (iA g))), (bk, .inr (0, [.ref la, .ref na, vI nw])), (la, .inl (cy 0, 60, .inl (iA lt))), (na, .inl (cy 1, 10, .inl (iA ln)))] xIA := by
  refine Tx.of RX6 rfl [(0, .ref x), (1, vI i), (2, vI c0)] rfl (by decide +kernel) (Nat.le_of_ble_eq_true rfl) ?_
  intro p e s m args below meth c F hex hlocks hK hX hZ hP ls hl
  have r_i_r : -2147483648 ≤ i ∧ i < 2147483648 := r_i
  have r_c0_r : -2147483648 ≤ c0 ∧ c0 < 2147483648 := r_c0
  have hn0 := hG.1
  have hn1 := hG.2.1
  have hw0 := hB.1
  have hw1 := hB.2.1
  refine lv_iload_n F.1 F.2.1 dX6_insert_0 rfl (lv_at hl 1 rfl) ?_
  refine rr_if_lt F (tgt := 18) dX6_insert_1 (by decide) ⟨by omega, by omega⟩ (fun c_1 => ?_) (fun c_1 => ?_)
  · exfalso; omega
  · refine lv_iload_n F.1 F.2.1 dX6_insert_4 rfl (lv_at hl 1 rfl) ?_
    refine lv_aload_n F.1 F.2.1 dX6_insert_5 rfl (lv_at hl 0 rfl) ?_
    refine gf6_1 F hK hP 0 rfl tw158 dX6_insert_6 ?_
    refine gf3_0N F hK hP 1 rfl tn118 dX6_insert_9 ?_
    refine gf2_1N F hK hP 2 rfl tn59 dX6_insert_12 ?_
    refine rr_icmp_le F (tgt := 28) dX6_insert_15 (by decide) ⟨by omega, by omega⟩ ⟨by omega, by omega⟩ (fun c_15 => ?_) (fun c_15 => ?_)
    · refine lv_iload_n F.1 F.2.1 dX6_insert_28 rfl (lv_at hl 2 rfl) ?_
      refine rr_rdS (rest := []) F hK (c_X6_isCarvable l D cy c0 (by first | assumption | omega | exact ⟨by omega, by omega⟩)) (hP.sub [] rfl) sf_X6_isCarvable tw607 ⟨Nat.le_of_ble_eq_true rfl, Nat.le_of_ble_eq_true rfl⟩ hl rfl (Nat.le_of_ble_eq_true rfl) dX6_insert_29 ⟨Nat.zero_le _, Nat.zero_le _⟩ ?_
      refine rr_ifP_ne F (tgt := 45) dX6_insert_32 (by decide) (fun c_32 => ?_) (fun c_32 => ?_)
      · exfalso; omega
      · exact rr_throw F hnt hX hZ hl (E := xIA) (text := "no such sign") xatIA (by decide +kernel) tw272 tw12 (List.mem_of_getElem? (i := 14) rfl) dX6_insert_35 dX6_insert_38 dX6_insert_39 dX6_insert_41 dX6_insert_44 hex ⟨Nat.le_of_ble_eq_true rfl, Nat.le_of_ble_eq_true rfl, Nat.le_of_ble_eq_true rfl, Nat.le_of_ble_eq_true rfl⟩ hlocks
    · exfalso; omega
set_option maxRecDepth 100000 in
set_option maxHeartbeats 4000000 in
theorem t_X6_insert_58 (l : Launch) (hnt : l.stackTraces = false) (D : va_G) (cy : Nat → ClassId) (sa : Nat → Nat) (x tx sk hi sl fi : Nat) (st ws : Nat) (wc sp : Int) (r sg : Nat) (n : Int) (g q : Int → Int) (bk la na : Nat) (nw : Int) (lt ln : Int → Int) (bl : Int → Int) (bc : Int → Int → Int) (i c0 : Int) (hG : RG n g q) (hB : BK nw lt ln bl bc) (r_i : inR i) (r_c0 : inR c0) (h1 : 0 ≤ i ∧ i ≤ n) (h2 : 0 ≤ c0 ∧ c0 ≤ 8) (h3 : ¬ n < 24) : Tx l yX6_insert cX6_insert 3 (some FieldType.int) 6 [.ref x, vI i, vI c0] D cy sa [(x, .inr (6, [.ref tx, .ref st, .ref sk, .ref hi, .ref sl, .ref fi])), (st, .inr (3, [.ref r, .ref bk, .ref ws, vI wc, vI sp])), (r, .inr (2, [.ref sg, vI n])), (sg, .inl (cy 0, 24, .inl (iA g))), (bk, .inr (0, [.ref la, .ref na, vI nw])), (la, .inl (cy 0, 60, .inl (iA lt))), (na, .inl (cy 1, 10, .inl (iA ln)))] xIS := by
  refine Tx.of RX6 rfl [(0, .ref x), (1, vI i), (2, vI c0)] rfl (by decide +kernel) (Nat.le_of_ble_eq_true rfl) ?_
  intro p e s m args below meth c F hex hlocks hK hX hZ hP ls hl
  have r_i_r : -2147483648 ≤ i ∧ i < 2147483648 := r_i
  have r_c0_r : -2147483648 ≤ c0 ∧ c0 < 2147483648 := r_c0
  have hn0 := hG.1
  have hn1 := hG.2.1
  have hw0 := hB.1
  have hw1 := hB.2.1
  refine lv_iload_n F.1 F.2.1 dX6_insert_0 rfl (lv_at hl 1 rfl) ?_
  refine rr_if_lt F (tgt := 18) dX6_insert_1 (by decide) ⟨by omega, by omega⟩ (fun c_1 => ?_) (fun c_1 => ?_)
  · exfalso; omega
  · refine lv_iload_n F.1 F.2.1 dX6_insert_4 rfl (lv_at hl 1 rfl) ?_
    refine lv_aload_n F.1 F.2.1 dX6_insert_5 rfl (lv_at hl 0 rfl) ?_
    refine gf6_1 F hK hP 0 rfl tw158 dX6_insert_6 ?_
    refine gf3_0N F hK hP 1 rfl tn118 dX6_insert_9 ?_
    refine gf2_1N F hK hP 2 rfl tn59 dX6_insert_12 ?_
    refine rr_icmp_le F (tgt := 28) dX6_insert_15 (by decide) ⟨by omega, by omega⟩ ⟨by omega, by omega⟩ (fun c_15 => ?_) (fun c_15 => ?_)
    · refine lv_iload_n F.1 F.2.1 dX6_insert_28 rfl (lv_at hl 2 rfl) ?_
      refine rr_rdS (rest := []) F hK (c_X6_isCarvable l D cy c0 (by first | assumption | omega | exact ⟨by omega, by omega⟩)) (hP.sub [] rfl) sf_X6_isCarvable tw607 ⟨Nat.le_of_ble_eq_true rfl, Nat.le_of_ble_eq_true rfl⟩ hl rfl (Nat.le_of_ble_eq_true rfl) dX6_insert_29 ⟨Nat.zero_le _, Nat.zero_le _⟩ ?_
      refine rr_ifP_ne F (tgt := 45) dX6_insert_32 (by decide) (fun c_32 => ?_) (fun c_32 => ?_)
      · refine lv_aload_n F.1 F.2.1 dX6_insert_45 rfl (lv_at hl 0 rfl) ?_
        refine gf6_1 F hK hP 0 rfl tw158 dX6_insert_46 ?_
        refine gf3_0N F hK hP 1 rfl tn118 dX6_insert_49 ?_
        refine rr_rdV (rest := []) F hK (c_X2_isFull l D cy r sg n g q (by first | assumption | omega | exact ⟨by omega, by omega⟩)) (hP.sub [2, 3] rfl) sf_X2_isFull tw645 2 rfl rfl ⟨Nat.le_of_ble_eq_true rfl, Nat.le_of_ble_eq_true rfl⟩ hl rfl (Nat.le_of_ble_eq_true rfl) dX6_insert_52 ⟨Nat.zero_le _, Nat.zero_le _⟩ ?_
        refine rr_ifP_eq F (tgt := 68) dX6_insert_55 (by decide) (fun c_55 => ?_) (fun c_55 => ?_)
        · exfalso; omega
        · exact rr_throw F hnt hX hZ hl (E := xIS) (text := "the ring is full") xatIS (by decide +kernel) tw344 tw13 (List.mem_of_getElem? (i := 15) rfl) dX6_insert_58 dX6_insert_61 dX6_insert_62 dX6_insert_64 dX6_insert_67 hex ⟨Nat.le_of_ble_eq_true rfl, Nat.le_of_ble_eq_true rfl, Nat.le_of_ble_eq_true rfl, Nat.le_of_ble_eq_true rfl⟩ hlocks
      · exfalso; omega
    · exfalso; omega
set_option maxRecDepth 100000 in
set_option maxHeartbeats 4000000 in
theorem t_X6_erase_14 (l : Launch) (hnt : l.stackTraces = false) (D : va_G) (cy : Nat → ClassId) (sa : Nat → Nat) (x tx sk hi sl fi : Nat) (st ws : Nat) (wc sp : Int) (r sg : Nat) (n : Int) (g q : Int → Int) (bk la na : Nat) (nw : Int) (lt ln : Int → Int) (bl : Int → Int) (bc : Int → Int → Int) (i : Int) (hG : RG n g q) (hB : BK nw lt ln bl bc) (r_i : inR i) (h1 : ¬ (0 ≤ i ∧ i < n)) : Tx l yX6_erase cX6_erase 2 (some FieldType.int) 6 [.ref x, vI i] D cy sa [(x, .inr (6, [.ref tx, .ref st, .ref sk, .ref hi, .ref sl, .ref fi])), (st, .inr (3, [.ref r, .ref bk, .ref ws, vI wc, vI sp])), (r, .inr (2, [.ref sg, vI n])), (sg, .inl (cy 0, 24, .inl (iA g))), (bk, .inr (0, [.ref la, .ref na, vI nw])), (la, .inl (cy 0, 60, .inl (iA lt))), (na, .inl (cy 1, 10, .inl (iA ln)))] xIO := by
  refine Tx.of RX6 rfl [(0, .ref x), (1, vI i)] rfl (by decide +kernel) (Nat.le_of_ble_eq_true rfl) ?_
  intro p e s m args below meth c F hex hlocks hK hX hZ hP ls hl
  have r_i_r : -2147483648 ≤ i ∧ i < 2147483648 := r_i
  have hn0 := hG.1
  have hn1 := hG.2.1
  have hw0 := hB.1
  have hw1 := hB.2.1
  refine lv_aload_n F.1 F.2.1 dX6_erase_0 rfl (lv_at hl 0 rfl) ?_
  refine gf6_1 F hK hP 0 rfl tw158 dX6_erase_1 ?_
  refine gf3_0N F hK hP 1 rfl tn118 dX6_erase_4 ?_
  refine lv_iload_n F.1 F.2.1 dX6_erase_7 rfl (lv_at hl 1 rfl) ?_
  refine rr_rdV (rest := []) F hK (c_X2_hasPlace l D cy r sg n g q i (by first | assumption | omega | exact ⟨by omega, by omega⟩) (by first | assumption | omega | exact ⟨by omega, by omega⟩)) (hP.sub [2, 3] rfl) sf_X2_hasPlace tw405 2 rfl rfl ⟨Nat.le_of_ble_eq_true rfl, Nat.le_of_ble_eq_true rfl⟩ hl rfl (Nat.le_of_ble_eq_true rfl) dX6_erase_8 ⟨Nat.zero_le _, Nat.zero_le _⟩ ?_
  refine rr_ifP_ne F (tgt := 24) dX6_erase_11 (by decide) (fun c_11 => ?_) (fun c_11 => ?_)
  · exfalso; omega
  · exact rr_throw F hnt hX hZ hl (E := xIO) (text := "no such place") xatIO (by decide +kernel) tw409 tw14 (List.mem_of_getElem? (i := 3) rfl) dX6_erase_14 dX6_erase_17 dX6_erase_18 dX6_erase_20 dX6_erase_23 hex ⟨Nat.le_of_ble_eq_true rfl, Nat.le_of_ble_eq_true rfl, Nat.le_of_ble_eq_true rfl, Nat.le_of_ble_eq_true rfl⟩ hlocks
set_option maxRecDepth 100000 in
set_option maxHeartbeats 4000000 in
theorem t_X6_addWalker_21 (l : Launch) (hnt : l.stackTraces = false) (D : va_G) (cy : Nat → ClassId) (sa : Nat → Nat) (x tx sk hi sl fi : Nat) (st ws : Nat) (wc sp : Int) (r sg : Nat) (n : Int) (g q : Int → Int) (bk la na : Nat) (nw : Int) (lt ln : Int → Int) (bl : Int → Int) (bc : Int → Int → Int) (i d pa si : Int) (hG : RG n g q) (hB : BK nw lt ln bl bc) (r_i : inR i) (r_d : inR d) (r_pa : inR pa) (r_si : inR si) (h1 : ¬ ((0 ≤ i ∧ i < n) ∧ 0 ≤ d ∧ d ≤ 1)) : Tx l yX6_addWalker cX6_addWalker 5 (some FieldType.int) 6 [.ref x, vI i, vI d, vI pa, vI si] D cy sa [(x, .inr (6, [.ref tx, .ref st, .ref sk, .ref hi, .ref sl, .ref fi])), (st, .inr (3, [.ref r, .ref bk, .ref ws, vI wc, vI sp])), (r, .inr (2, [.ref sg, vI n])), (sg, .inl (cy 0, 24, .inl (iA g))), (bk, .inr (0, [.ref la, .ref na, vI nw])), (la, .inl (cy 0, 60, .inl (iA lt))), (na, .inl (cy 1, 10, .inl (iA ln)))] xIO := by
  refine Tx.of RX6 rfl [(0, .ref x), (1, vI i), (2, vI d), (3, vI pa), (4, vI si)] rfl (by decide +kernel) (Nat.le_of_ble_eq_true rfl) ?_
  intro p e s m args below meth c F hex hlocks hK hX hZ hP ls hl
  have r_i_r : -2147483648 ≤ i ∧ i < 2147483648 := r_i
  have r_d_r : -2147483648 ≤ d ∧ d < 2147483648 := r_d
  have r_pa_r : -2147483648 ≤ pa ∧ pa < 2147483648 := r_pa
  have r_si_r : -2147483648 ≤ si ∧ si < 2147483648 := r_si
  have hn0 := hG.1
  have hn1 := hG.2.1
  have hw0 := hB.1
  have hw1 := hB.2.1
  refine lv_aload_n F.1 F.2.1 dX6_addWalker_0 rfl (lv_at hl 0 rfl) ?_
  refine gf6_1 F hK hP 0 rfl tw158 dX6_addWalker_1 ?_
  refine gf3_0N F hK hP 1 rfl tn118 dX6_addWalker_4 ?_
  refine lv_iload_n F.1 F.2.1 dX6_addWalker_7 rfl (lv_at hl 1 rfl) ?_
  refine rr_rdV (rest := []) F hK (c_X2_hasPlace l D cy r sg n g q i (by first | assumption | omega | exact ⟨by omega, by omega⟩) (by first | assumption | omega | exact ⟨by omega, by omega⟩)) (hP.sub [2, 3] rfl) sf_X2_hasPlace tw405 2 rfl rfl ⟨Nat.le_of_ble_eq_true rfl, Nat.le_of_ble_eq_true rfl⟩ hl rfl (Nat.le_of_ble_eq_true rfl) dX6_addWalker_8 ⟨Nat.zero_le _, Nat.zero_le _⟩ ?_
  refine rr_ifP_eq F (tgt := 21) dX6_addWalker_11 (by decide) (fun c_11 => ?_) (fun c_11 => ?_)
  · exact rr_throw F hnt hX hZ hl (E := xIO) (text := "no such place or direction") xatIO (by decide +kernel) tw409 tw14 (List.mem_of_getElem? (i := 16) rfl) dX6_addWalker_21 dX6_addWalker_24 dX6_addWalker_25 dX6_addWalker_27 dX6_addWalker_30 hex ⟨Nat.le_of_ble_eq_true rfl, Nat.le_of_ble_eq_true rfl, Nat.le_of_ble_eq_true rfl, Nat.le_of_ble_eq_true rfl⟩ hlocks
  · refine lv_iload_n F.1 F.2.1 dX6_addWalker_14 rfl (lv_at hl 2 rfl) ?_
    refine rr_rdS (rest := []) F hK (c_X6_isDirection l D cy d (by first | assumption | omega | exact ⟨by omega, by omega⟩)) (hP.sub [] rfl) sf_X6_isDirection tw448 ⟨Nat.le_of_ble_eq_true rfl, Nat.le_of_ble_eq_true rfl⟩ hl rfl (Nat.le_of_ble_eq_true rfl) dX6_addWalker_15 ⟨Nat.zero_le _, Nat.zero_le _⟩ ?_
    refine rr_ifP_ne F (tgt := 31) dX6_addWalker_18 (by decide) (fun c_18 => ?_) (fun c_18 => ?_)
    · exfalso; omega
    · exact rr_throw F hnt hX hZ hl (E := xIO) (text := "no such place or direction") xatIO (by decide +kernel) tw409 tw14 (List.mem_of_getElem? (i := 16) rfl) dX6_addWalker_21 dX6_addWalker_24 dX6_addWalker_25 dX6_addWalker_27 dX6_addWalker_30 hex ⟨Nat.le_of_ble_eq_true rfl, Nat.le_of_ble_eq_true rfl, Nat.le_of_ble_eq_true rfl, Nat.le_of_ble_eq_true rfl⟩ hlocks
set_option maxRecDepth 100000 in
set_option maxHeartbeats 4000000 in
theorem t_X6_addWalker_46 (l : Launch) (hnt : l.stackTraces = false) (D : va_G) (cy : Nat → ClassId) (sa : Nat → Nat) (x tx sk hi sl fi : Nat) (st ws : Nat) (wc sp : Int) (r sg : Nat) (n : Int) (g q : Int → Int) (bk la na : Nat) (nw : Int) (lt ln : Int → Int) (bl : Int → Int) (bc : Int → Int → Int) (i d pa si : Int) (hG : RG n g q) (hB : BK nw lt ln bl bc) (r_i : inR i) (r_d : inR d) (r_pa : inR pa) (r_si : inR si) (h1 : (0 ≤ i ∧ i < n) ∧ 0 ≤ d ∧ d ≤ 1) (h2 : ¬ ((1 ≤ pa ∧ pa ≤ 3) ∧ 1 ≤ si ∧ si ≤ 5)) : Tx l yX6_addWalker cX6_addWalker 5 (some FieldType.int) 6 [.ref x, vI i, vI d, vI pa, vI si] D cy sa [(x, .inr (6, [.ref tx, .ref st, .ref sk, .ref hi, .ref sl, .ref fi])), (st, .inr (3, [.ref r, .ref bk, .ref ws, vI wc, vI sp])), (r, .inr (2, [.ref sg, vI n])), (sg, .inl (cy 0, 24, .inl (iA g))), (bk, .inr (0, [.ref la, .ref na, vI nw])), (la, .inl (cy 0, 60, .inl (iA lt))), (na, .inl (cy 1, 10, .inl (iA ln)))] xIA := by
  refine Tx.of RX6 rfl [(0, .ref x), (1, vI i), (2, vI d), (3, vI pa), (4, vI si)] rfl (by decide +kernel) (Nat.le_of_ble_eq_true rfl) ?_
  intro p e s m args below meth c F hex hlocks hK hX hZ hP ls hl
  have r_i_r : -2147483648 ≤ i ∧ i < 2147483648 := r_i
  have r_d_r : -2147483648 ≤ d ∧ d < 2147483648 := r_d
  have r_pa_r : -2147483648 ≤ pa ∧ pa < 2147483648 := r_pa
  have r_si_r : -2147483648 ≤ si ∧ si < 2147483648 := r_si
  have hn0 := hG.1
  have hn1 := hG.2.1
  have hw0 := hB.1
  have hw1 := hB.2.1
  refine lv_aload_n F.1 F.2.1 dX6_addWalker_0 rfl (lv_at hl 0 rfl) ?_
  refine gf6_1 F hK hP 0 rfl tw158 dX6_addWalker_1 ?_
  refine gf3_0N F hK hP 1 rfl tn118 dX6_addWalker_4 ?_
  refine lv_iload_n F.1 F.2.1 dX6_addWalker_7 rfl (lv_at hl 1 rfl) ?_
  refine rr_rdV (rest := []) F hK (c_X2_hasPlace l D cy r sg n g q i (by first | assumption | omega | exact ⟨by omega, by omega⟩) (by first | assumption | omega | exact ⟨by omega, by omega⟩)) (hP.sub [2, 3] rfl) sf_X2_hasPlace tw405 2 rfl rfl ⟨Nat.le_of_ble_eq_true rfl, Nat.le_of_ble_eq_true rfl⟩ hl rfl (Nat.le_of_ble_eq_true rfl) dX6_addWalker_8 ⟨Nat.zero_le _, Nat.zero_le _⟩ ?_
  refine rr_ifP_eq F (tgt := 21) dX6_addWalker_11 (by decide) (fun c_11 => ?_) (fun c_11 => ?_)
  · exfalso; omega
  · refine lv_iload_n F.1 F.2.1 dX6_addWalker_14 rfl (lv_at hl 2 rfl) ?_
    refine rr_rdS (rest := []) F hK (c_X6_isDirection l D cy d (by first | assumption | omega | exact ⟨by omega, by omega⟩)) (hP.sub [] rfl) sf_X6_isDirection tw448 ⟨Nat.le_of_ble_eq_true rfl, Nat.le_of_ble_eq_true rfl⟩ hl rfl (Nat.le_of_ble_eq_true rfl) dX6_addWalker_15 ⟨Nat.zero_le _, Nat.zero_le _⟩ ?_
    refine rr_ifP_ne F (tgt := 31) dX6_addWalker_18 (by decide) (fun c_18 => ?_) (fun c_18 => ?_)
    · refine lv_iload_n F.1 F.2.1 dX6_addWalker_31 rfl (lv_at hl 3 rfl) ?_
      refine rr_rdS (rest := []) F hK (c_X6_isPace l D cy pa (by first | assumption | omega | exact ⟨by omega, by omega⟩)) (hP.sub [] rfl) sf_X6_isPace tw683 ⟨Nat.le_of_ble_eq_true rfl, Nat.le_of_ble_eq_true rfl⟩ hl rfl (Nat.le_of_ble_eq_true rfl) dX6_addWalker_32 ⟨Nat.zero_le _, Nat.zero_le _⟩ ?_
      refine rr_ifP_eq F (tgt := 46) dX6_addWalker_35 (by decide) (fun c_35 => ?_) (fun c_35 => ?_)
      · exact rr_throwW F hnt hX hZ hl (E := xIA) (text := "no such pace or sight") xatIA (by decide +kernel) tw272 tw12 (List.mem_of_getElem? (i := 17) rfl) dX6_addWalker_46 dX6_addWalker_49 dX6_addWalker_50 dX6_addWalker_53 dX6_addWalker_56 hex ⟨Nat.le_of_ble_eq_true rfl, Nat.le_of_ble_eq_true rfl, Nat.le_of_ble_eq_true rfl, Nat.le_of_ble_eq_true rfl⟩ hlocks
      · refine lv_iload F.1 F.2.1 dX6_addWalker_38 (lv_at hl 4 rfl) ?_
        refine rr_rdS (rest := []) F hK (c_X6_isSight l D cy si (by first | assumption | omega | exact ⟨by omega, by omega⟩)) (hP.sub [] rfl) sf_X6_isSight tw686 ⟨Nat.le_of_ble_eq_true rfl, Nat.le_of_ble_eq_true rfl⟩ hl rfl (Nat.le_of_ble_eq_true rfl) dX6_addWalker_40 ⟨Nat.zero_le _, Nat.zero_le _⟩ ?_
        refine rr_ifP_ne F (tgt := 57) dX6_addWalker_43 (by decide) (fun c_43 => ?_) (fun c_43 => ?_)
        · exfalso; omega
        · exact rr_throwW F hnt hX hZ hl (E := xIA) (text := "no such pace or sight") xatIA (by decide +kernel) tw272 tw12 (List.mem_of_getElem? (i := 17) rfl) dX6_addWalker_46 dX6_addWalker_49 dX6_addWalker_50 dX6_addWalker_53 dX6_addWalker_56 hex ⟨Nat.le_of_ble_eq_true rfl, Nat.le_of_ble_eq_true rfl, Nat.le_of_ble_eq_true rfl, Nat.le_of_ble_eq_true rfl⟩ hlocks
    · exfalso; omega
set_option maxRecDepth 100000 in
set_option maxHeartbeats 4000000 in
theorem t_X6_addWalker_68 (l : Launch) (hnt : l.stackTraces = false) (D : va_G) (cy : Nat → ClassId) (sa : Nat → Nat) (x tx sk hi sl fi : Nat) (st ws : Nat) (wc sp : Int) (r sg : Nat) (n : Int) (g q : Int → Int) (bk la na : Nat) (nw : Int) (lt ln : Int → Int) (bl : Int → Int) (bc : Int → Int → Int) (i d pa si : Int) (hG : RG n g q) (hB : BK nw lt ln bl bc) (hc : 0 ≤ wc ∧ wc ≤ 4) (r_i : inR i) (r_d : inR d) (r_pa : inR pa) (r_si : inR si) (h1 : (0 ≤ i ∧ i < n) ∧ 0 ≤ d ∧ d ≤ 1) (h2 : (1 ≤ pa ∧ pa ≤ 3) ∧ 1 ≤ si ∧ si ≤ 5) (h3 : ¬ wc < 4) : Tx l yX6_addWalker cX6_addWalker 5 (some FieldType.int) 6 [.ref x, vI i, vI d, vI pa, vI si] D cy sa [(x, .inr (6, [.ref tx, .ref st, .ref sk, .ref hi, .ref sl, .ref fi])), (st, .inr (3, [.ref r, .ref bk, .ref ws, vI wc, vI sp])), (r, .inr (2, [.ref sg, vI n])), (sg, .inl (cy 0, 24, .inl (iA g))), (bk, .inr (0, [.ref la, .ref na, vI nw])), (la, .inl (cy 0, 60, .inl (iA lt))), (na, .inl (cy 1, 10, .inl (iA ln)))] xIS := by
  refine Tx.of RX6 rfl [(0, .ref x), (1, vI i), (2, vI d), (3, vI pa), (4, vI si)] rfl (by decide +kernel) (Nat.le_of_ble_eq_true rfl) ?_
  intro p e s m args below meth c F hex hlocks hK hX hZ hP ls hl
  have r_i_r : -2147483648 ≤ i ∧ i < 2147483648 := r_i
  have r_d_r : -2147483648 ≤ d ∧ d < 2147483648 := r_d
  have r_pa_r : -2147483648 ≤ pa ∧ pa < 2147483648 := r_pa
  have r_si_r : -2147483648 ≤ si ∧ si < 2147483648 := r_si
  have hn0 := hG.1
  have hn1 := hG.2.1
  have hw0 := hB.1
  have hw1 := hB.2.1
  refine lv_aload_n F.1 F.2.1 dX6_addWalker_0 rfl (lv_at hl 0 rfl) ?_
  refine gf6_1 F hK hP 0 rfl tw158 dX6_addWalker_1 ?_
  refine gf3_0N F hK hP 1 rfl tn118 dX6_addWalker_4 ?_
  refine lv_iload_n F.1 F.2.1 dX6_addWalker_7 rfl (lv_at hl 1 rfl) ?_
  refine rr_rdV (rest := []) F hK (c_X2_hasPlace l D cy r sg n g q i (by first | assumption | omega | exact ⟨by omega, by omega⟩) (by first | assumption | omega | exact ⟨by omega, by omega⟩)) (hP.sub [2, 3] rfl) sf_X2_hasPlace tw405 2 rfl rfl ⟨Nat.le_of_ble_eq_true rfl, Nat.le_of_ble_eq_true rfl⟩ hl rfl (Nat.le_of_ble_eq_true rfl) dX6_addWalker_8 ⟨Nat.zero_le _, Nat.zero_le _⟩ ?_
  refine rr_ifP_eq F (tgt := 21) dX6_addWalker_11 (by decide) (fun c_11 => ?_) (fun c_11 => ?_)
  · exfalso; omega
  · refine lv_iload_n F.1 F.2.1 dX6_addWalker_14 rfl (lv_at hl 2 rfl) ?_
    refine rr_rdS (rest := []) F hK (c_X6_isDirection l D cy d (by first | assumption | omega | exact ⟨by omega, by omega⟩)) (hP.sub [] rfl) sf_X6_isDirection tw448 ⟨Nat.le_of_ble_eq_true rfl, Nat.le_of_ble_eq_true rfl⟩ hl rfl (Nat.le_of_ble_eq_true rfl) dX6_addWalker_15 ⟨Nat.zero_le _, Nat.zero_le _⟩ ?_
    refine rr_ifP_ne F (tgt := 31) dX6_addWalker_18 (by decide) (fun c_18 => ?_) (fun c_18 => ?_)
    · refine lv_iload_n F.1 F.2.1 dX6_addWalker_31 rfl (lv_at hl 3 rfl) ?_
      refine rr_rdS (rest := []) F hK (c_X6_isPace l D cy pa (by first | assumption | omega | exact ⟨by omega, by omega⟩)) (hP.sub [] rfl) sf_X6_isPace tw683 ⟨Nat.le_of_ble_eq_true rfl, Nat.le_of_ble_eq_true rfl⟩ hl rfl (Nat.le_of_ble_eq_true rfl) dX6_addWalker_32 ⟨Nat.zero_le _, Nat.zero_le _⟩ ?_
      refine rr_ifP_eq F (tgt := 46) dX6_addWalker_35 (by decide) (fun c_35 => ?_) (fun c_35 => ?_)
      · exfalso; omega
      · refine lv_iload F.1 F.2.1 dX6_addWalker_38 (lv_at hl 4 rfl) ?_
        refine rr_rdS (rest := []) F hK (c_X6_isSight l D cy si (by first | assumption | omega | exact ⟨by omega, by omega⟩)) (hP.sub [] rfl) sf_X6_isSight tw686 ⟨Nat.le_of_ble_eq_true rfl, Nat.le_of_ble_eq_true rfl⟩ hl rfl (Nat.le_of_ble_eq_true rfl) dX6_addWalker_40 ⟨Nat.zero_le _, Nat.zero_le _⟩ ?_
        refine rr_ifP_ne F (tgt := 57) dX6_addWalker_43 (by decide) (fun c_43 => ?_) (fun c_43 => ?_)
        · refine lv_aload_n F.1 F.2.1 dX6_addWalker_57 rfl (lv_at hl 0 rfl) ?_
          refine gf6_1 F hK hP 0 rfl tw158 dX6_addWalker_58 ?_
          refine gf3_3N F hK hP 1 rfl tn124 dX6_addWalker_61 ?_
          refine rr_iconst F dX6_addWalker_64 ?_
          refine rr_icmp_lt F (tgt := 79) dX6_addWalker_65 (by decide) ⟨by omega, by omega⟩ ⟨by omega, by omega⟩ (fun c_65 => ?_) (fun c_65 => ?_)
          · exfalso; omega
          · exact rr_throwW F hnt hX hZ hl (E := xIS) (text := "there are enough walkers") xatIS (by decide +kernel) tw344 tw13 (List.mem_of_getElem? (i := 18) rfl) dX6_addWalker_68 dX6_addWalker_71 dX6_addWalker_72 dX6_addWalker_75 dX6_addWalker_78 hex ⟨Nat.le_of_ble_eq_true rfl, Nat.le_of_ble_eq_true rfl, Nat.le_of_ble_eq_true rfl, Nat.le_of_ble_eq_true rfl⟩ hlocks
        · exfalso; omega
    · exfalso; omega
set_option maxRecDepth 100000 in
set_option maxHeartbeats 4000000 in
theorem t_X6_turn_11 (l : Launch) (hnt : l.stackTraces = false) (D : va_G) (cy : Nat → ClassId) (sa : Nat → Nat) (x tx st sk hi sl fi r bk ws : Nat) (wc sp : Int) (w : Int) (hc : 0 ≤ wc ∧ wc ≤ 4) (r_w : inR w) (h1 : ¬ (0 ≤ w ∧ w < wc)) : Tx l yX6_turn cX6_turn 2 (some FieldType.int) 6 [.ref x, vI w] D cy sa [(x, .inr (6, [.ref tx, .ref st, .ref sk, .ref hi, .ref sl, .ref fi])), (st, .inr (3, [.ref r, .ref bk, .ref ws, vI wc, vI sp]))] xIO := by
  refine Tx.of RX6 rfl [(0, .ref x), (1, vI w)] rfl (by decide +kernel) (Nat.le_of_ble_eq_true rfl) ?_
  intro p e s m args below meth c F hex hlocks hK hX hZ hP ls hl
  have r_w_r : -2147483648 ≤ w ∧ w < 2147483648 := r_w
  refine lv_aload_n F.1 F.2.1 dX6_turn_0 rfl (lv_at hl 0 rfl) ?_
  refine gf6_1 F hK hP 0 rfl tw158 dX6_turn_1 ?_
  refine lv_iload_n F.1 F.2.1 dX6_turn_4 rfl (lv_at hl 1 rfl) ?_
  refine rr_rdV (rest := []) F hK (c_X3_hasWalker l D cy st r bk ws wc sp w (by first | assumption | omega | exact ⟨by omega, by omega⟩) (by first | assumption | omega | exact ⟨by omega, by omega⟩)) (hP.sub [1] rfl) sf_X3_hasWalker tw500 3 rfl rfl ⟨Nat.le_of_ble_eq_true rfl, Nat.le_of_ble_eq_true rfl⟩ hl rfl (Nat.le_of_ble_eq_true rfl) dX6_turn_5 ⟨Nat.zero_le _, Nat.zero_le _⟩ ?_
  refine rr_ifP_ne F (tgt := 21) dX6_turn_8 (by decide) (fun c_8 => ?_) (fun c_8 => ?_)
  · exfalso; omega
  · exact rr_throw F hnt hX hZ hl (E := xIO) (text := "no such walker") xatIO (by decide +kernel) tw409 tw14 (List.mem_of_getElem? (i := 10) rfl) dX6_turn_11 dX6_turn_14 dX6_turn_15 dX6_turn_17 dX6_turn_20 hex ⟨Nat.le_of_ble_eq_true rfl, Nat.le_of_ble_eq_true rfl, Nat.le_of_ble_eq_true rfl, Nat.le_of_ble_eq_true rfl⟩ hlocks
set_option maxRecDepth 100000 in
set_option maxHeartbeats 4000000 in
theorem t_X6_go_7 (l : Launch) (hnt : l.stackTraces = false) (D : va_G) (cy : Nat → ClassId) (sa : Nat → Nat) (x tx st sk hi sl fi : Nat) (t : Int) (r_t : inR t) (h1 : ¬ (1 ≤ t ∧ t ≤ 50)) : Tx l yX6_go cX6_go 2 (some FieldType.int) 6 [.ref x, vI t] D cy sa [(x, .inr (6, [.ref tx, .ref st, .ref sk, .ref hi, .ref sl, .ref fi]))] xIA := by
  refine Tx.of RX6 rfl [(0, .ref x), (1, vI t)] rfl (by decide +kernel) (Nat.le_of_ble_eq_true rfl) ?_
  intro p e s m args below meth c F hex hlocks hK hX hZ hP ls hl
  have r_t_r : -2147483648 ≤ t ∧ t < 2147483648 := r_t
  refine lv_iload_n F.1 F.2.1 dX6_go_0 rfl (lv_at hl 1 rfl) ?_
  refine rr_rdS (rest := []) F hK (c_X6_isStepCount l D cy t (by first | assumption | omega | exact ⟨by omega, by omega⟩)) (hP.sub [] rfl) sf_X6_isStepCount tw724 ⟨Nat.le_of_ble_eq_true rfl, Nat.le_of_ble_eq_true rfl⟩ hl rfl (Nat.le_of_ble_eq_true rfl) dX6_go_1 ⟨Nat.zero_le _, Nat.zero_le _⟩ ?_
  refine rr_ifP_ne F (tgt := 18) dX6_go_4 (by decide) (fun c_4 => ?_) (fun c_4 => ?_)
  · exfalso; omega
  · exact rr_throwW F hnt hX hZ hl (E := xIA) (text := "not a number of steps") xatIA (by decide +kernel) tw272 tw12 (List.mem_of_getElem? (i := 19) rfl) dX6_go_7 dX6_go_10 dX6_go_11 dX6_go_14 dX6_go_17 hex ⟨Nat.le_of_ble_eq_true rfl, Nat.le_of_ble_eq_true rfl, Nat.le_of_ble_eq_true rfl, Nat.le_of_ble_eq_true rfl⟩ hlocks
set_option maxRecDepth 100000 in
set_option maxHeartbeats 4000000 in
theorem t_X6_undo_10 (l : Launch) (hnt : l.stackTraces = false) (D : va_G) (cy : Nat → ClassId) (sa : Nat → Nat) (x tx st sk sl fi : Nat) (hi rw : Nat) (hro : Int → Nat) (ol ct : Int) (hol : 0 ≤ ol ∧ ol < 14) (hct : 0 ≤ ct ∧ ct ≤ 14) (h1 : ¬ 0 < ct) : Tx l yX6_undo cX6_undo 1 (some FieldType.int) 6 [.ref x] D cy sa [(x, .inr (6, [.ref tx, .ref st, .ref sk, .ref hi, .ref sl, .ref fi])), (hi, .inr (1, [.ref rw, vI ol, vI ct])), (rw, .inl (cy 3, 14, .inr (.inr (.inr (.inr (rA hro))))))] xIS := by
  refine Tx.of RX6 rfl [(0, .ref x)] rfl (by decide +kernel) (Nat.le_of_ble_eq_true rfl) ?_
  intro p e s m args below meth c F hex hlocks hK hX hZ hP ls hl
  refine lv_aload_n F.1 F.2.1 dX6_undo_0 rfl (lv_at hl 0 rfl) ?_
  refine gf6_3 F hK hP 0 rfl tw160 dX6_undo_1 ?_
  refine rr_rdV (rest := []) F hK (c_X1_isEmpty l D cy hi rw hro ol ct (by first | assumption | omega | exact ⟨by omega, by omega⟩) (by first | assumption | omega | exact ⟨by omega, by omega⟩)) (hP.sub [1, 2] rfl) sf_X1_isEmpty tw753 1 rfl rfl ⟨Nat.le_of_ble_eq_true rfl, Nat.le_of_ble_eq_true rfl⟩ hl rfl (Nat.le_of_ble_eq_true rfl) dX6_undo_4 ⟨Nat.zero_le _, Nat.zero_le _⟩ ?_
  refine rr_ifP_eq F (tgt := 21) dX6_undo_7 (by decide) (fun c_7 => ?_) (fun c_7 => ?_)
  · exfalso; omega
  · exact rr_throwW F hnt hX hZ hl (E := xIS) (text := "nothing is remembered") xatIS (by decide +kernel) tw344 tw13 (List.mem_of_getElem? (i := 20) rfl) dX6_undo_10 dX6_undo_13 dX6_undo_14 dX6_undo_17 dX6_undo_20 hex ⟨Nat.le_of_ble_eq_true rfl, Nat.le_of_ble_eq_true rfl, Nat.le_of_ble_eq_true rfl, Nat.le_of_ble_eq_true rfl⟩ hlocks
set_option maxRecDepth 100000 in
set_option maxHeartbeats 4000000 in
theorem t_X6_meet_22 (l : Launch) (hnt : l.stackTraces = false) (D : va_G) (cy : Nat → ClassId) (sa : Nat → Nat) (x tx st sk hi sl fi r bk ws : Nat) (wc sp : Int) (w v : Int) (hc : 0 ≤ wc ∧ wc ≤ 4) (r_w : inR w) (r_v : inR v) (h1 : ¬ ((0 ≤ w ∧ w < wc) ∧ 0 ≤ v ∧ v < wc)) : Tx l yX6_meet cX6_meet 3 (some FieldType.int) 6 [.ref x, vI w, vI v] D cy sa [(x, .inr (6, [.ref tx, .ref st, .ref sk, .ref hi, .ref sl, .ref fi])), (st, .inr (3, [.ref r, .ref bk, .ref ws, vI wc, vI sp]))] xIO := by
  refine Tx.of RX6 rfl [(0, .ref x), (1, vI w), (2, vI v)] rfl (by decide +kernel) (Nat.le_of_ble_eq_true rfl) ?_
  intro p e s m args below meth c F hex hlocks hK hX hZ hP ls hl
  have r_w_r : -2147483648 ≤ w ∧ w < 2147483648 := r_w
  have r_v_r : -2147483648 ≤ v ∧ v < 2147483648 := r_v
  refine lv_aload_n F.1 F.2.1 dX6_meet_0 rfl (lv_at hl 0 rfl) ?_
  refine gf6_1 F hK hP 0 rfl tw158 dX6_meet_1 ?_
  refine lv_iload_n F.1 F.2.1 dX6_meet_4 rfl (lv_at hl 1 rfl) ?_
  refine rr_rdV (rest := []) F hK (c_X3_hasWalker l D cy st r bk ws wc sp w (by first | assumption | omega | exact ⟨by omega, by omega⟩) (by first | assumption | omega | exact ⟨by omega, by omega⟩)) (hP.sub [1] rfl) sf_X3_hasWalker tw500 3 rfl rfl ⟨Nat.le_of_ble_eq_true rfl, Nat.le_of_ble_eq_true rfl⟩ hl rfl (Nat.le_of_ble_eq_true rfl) dX6_meet_5 ⟨Nat.zero_le _, Nat.zero_le _⟩ ?_
  refine rr_ifP_eq F (tgt := 22) dX6_meet_8 (by decide) (fun c_8 => ?_) (fun c_8 => ?_)
  · exact rr_throw F hnt hX hZ hl (E := xIO) (text := "no such walker") xatIO (by decide +kernel) tw409 tw14 (List.mem_of_getElem? (i := 10) rfl) dX6_meet_22 dX6_meet_25 dX6_meet_26 dX6_meet_28 dX6_meet_31 hex ⟨Nat.le_of_ble_eq_true rfl, Nat.le_of_ble_eq_true rfl, Nat.le_of_ble_eq_true rfl, Nat.le_of_ble_eq_true rfl⟩ hlocks
  · refine lv_aload_n F.1 F.2.1 dX6_meet_11 rfl (lv_at hl 0 rfl) ?_
    refine gf6_1 F hK hP 0 rfl tw158 dX6_meet_12 ?_
    refine lv_iload_n F.1 F.2.1 dX6_meet_15 rfl (lv_at hl 2 rfl) ?_
    refine rr_rdV (rest := []) F hK (c_X3_hasWalker l D cy st r bk ws wc sp v (by first | assumption | omega | exact ⟨by omega, by omega⟩) (by first | assumption | omega | exact ⟨by omega, by omega⟩)) (hP.sub [1] rfl) sf_X3_hasWalker tw500 3 rfl rfl ⟨Nat.le_of_ble_eq_true rfl, Nat.le_of_ble_eq_true rfl⟩ hl rfl (Nat.le_of_ble_eq_true rfl) dX6_meet_16 ⟨Nat.zero_le _, Nat.zero_le _⟩ ?_
    refine rr_ifP_ne F (tgt := 32) dX6_meet_19 (by decide) (fun c_19 => ?_) (fun c_19 => ?_)
    · exfalso; omega
    · exact rr_throw F hnt hX hZ hl (E := xIO) (text := "no such walker") xatIO (by decide +kernel) tw409 tw14 (List.mem_of_getElem? (i := 10) rfl) dX6_meet_22 dX6_meet_25 dX6_meet_26 dX6_meet_28 dX6_meet_31 hex ⟨Nat.le_of_ble_eq_true rfl, Nat.le_of_ble_eq_true rfl, Nat.le_of_ble_eq_true rfl, Nat.le_of_ble_eq_true rfl⟩ hlocks
set_option maxRecDepth 100000 in
set_option maxHeartbeats 4000000 in
theorem t_X6_meet_37 (l : Launch) (hnt : l.stackTraces = false) (D : va_G) (cy : Nat → ClassId) (sa : Nat → Nat) (x tx st sk hi sl fi r bk ws : Nat) (wc sp : Int) (w v : Int) (hc : 0 ≤ wc ∧ wc ≤ 4) (r_w : inR w) (r_v : inR v) (h1 : (0 ≤ w ∧ w < wc) ∧ 0 ≤ v ∧ v < wc) (h2 : w = v) : Tx l yX6_meet cX6_meet 3 (some FieldType.int) 6 [.ref x, vI w, vI v] D cy sa [(x, .inr (6, [.ref tx, .ref st, .ref sk, .ref hi, .ref sl, .ref fi])), (st, .inr (3, [.ref r, .ref bk, .ref ws, vI wc, vI sp]))] xIS := by
  refine Tx.of RX6 rfl [(0, .ref x), (1, vI w), (2, vI v)] rfl (by decide +kernel) (Nat.le_of_ble_eq_true rfl) ?_
  intro p e s m args below meth c F hex hlocks hK hX hZ hP ls hl
  have r_w_r : -2147483648 ≤ w ∧ w < 2147483648 := r_w
  have r_v_r : -2147483648 ≤ v ∧ v < 2147483648 := r_v
  refine lv_aload_n F.1 F.2.1 dX6_meet_0 rfl (lv_at hl 0 rfl) ?_
  refine gf6_1 F hK hP 0 rfl tw158 dX6_meet_1 ?_
  refine lv_iload_n F.1 F.2.1 dX6_meet_4 rfl (lv_at hl 1 rfl) ?_
  refine rr_rdV (rest := []) F hK (c_X3_hasWalker l D cy st r bk ws wc sp w (by first | assumption | omega | exact ⟨by omega, by omega⟩) (by first | assumption | omega | exact ⟨by omega, by omega⟩)) (hP.sub [1] rfl) sf_X3_hasWalker tw500 3 rfl rfl ⟨Nat.le_of_ble_eq_true rfl, Nat.le_of_ble_eq_true rfl⟩ hl rfl (Nat.le_of_ble_eq_true rfl) dX6_meet_5 ⟨Nat.zero_le _, Nat.zero_le _⟩ ?_
  refine rr_ifP_eq F (tgt := 22) dX6_meet_8 (by decide) (fun c_8 => ?_) (fun c_8 => ?_)
  · exfalso; omega
  · refine lv_aload_n F.1 F.2.1 dX6_meet_11 rfl (lv_at hl 0 rfl) ?_
    refine gf6_1 F hK hP 0 rfl tw158 dX6_meet_12 ?_
    refine lv_iload_n F.1 F.2.1 dX6_meet_15 rfl (lv_at hl 2 rfl) ?_
    refine rr_rdV (rest := []) F hK (c_X3_hasWalker l D cy st r bk ws wc sp v (by first | assumption | omega | exact ⟨by omega, by omega⟩) (by first | assumption | omega | exact ⟨by omega, by omega⟩)) (hP.sub [1] rfl) sf_X3_hasWalker tw500 3 rfl rfl ⟨Nat.le_of_ble_eq_true rfl, Nat.le_of_ble_eq_true rfl⟩ hl rfl (Nat.le_of_ble_eq_true rfl) dX6_meet_16 ⟨Nat.zero_le _, Nat.zero_le _⟩ ?_
    refine rr_ifP_ne F (tgt := 32) dX6_meet_19 (by decide) (fun c_19 => ?_) (fun c_19 => ?_)
    · refine lv_iload_n F.1 F.2.1 dX6_meet_32 rfl (lv_at hl 1 rfl) ?_
      refine lv_iload_n F.1 F.2.1 dX6_meet_33 rfl (lv_at hl 2 rfl) ?_
      refine rr_icmp_ne F (tgt := 48) dX6_meet_34 (by decide) ⟨by omega, by omega⟩ ⟨by omega, by omega⟩ (fun c_34 => ?_) (fun c_34 => ?_)
      · exfalso; omega
      · exact rr_throwW F hnt hX hZ hl (E := xIS) (text := "one walker alone") xatIS (by decide +kernel) tw344 tw13 (List.mem_of_getElem? (i := 21) rfl) dX6_meet_37 dX6_meet_40 dX6_meet_41 dX6_meet_44 dX6_meet_47 hex ⟨Nat.le_of_ble_eq_true rfl, Nat.le_of_ble_eq_true rfl, Nat.le_of_ble_eq_true rfl, Nat.le_of_ble_eq_true rfl⟩ hlocks
    · exfalso; omega
set_option maxRecDepth 100000 in
set_option maxHeartbeats 4000000 in
theorem t_X6_seesAll_11 (l : Launch) (hnt : l.stackTraces = false) (D : va_G) (cy : Nat → ClassId) (sa : Nat → Nat) (x tx st sk hi sl fi r bk ws : Nat) (wc sp : Int) (w : Int) (hc : 0 ≤ wc ∧ wc ≤ 4) (r_w : inR w) (h1 : ¬ (0 ≤ w ∧ w < wc)) : Tx l yX6_seesAll cX6_seesAll 2 (some FieldType.int) 6 [.ref x, vI w] D cy sa [(x, .inr (6, [.ref tx, .ref st, .ref sk, .ref hi, .ref sl, .ref fi])), (st, .inr (3, [.ref r, .ref bk, .ref ws, vI wc, vI sp]))] xIO := by
  refine Tx.of RX6 rfl [(0, .ref x), (1, vI w)] rfl (by decide +kernel) (Nat.le_of_ble_eq_true rfl) ?_
  intro p e s m args below meth c F hex hlocks hK hX hZ hP ls hl
  have r_w_r : -2147483648 ≤ w ∧ w < 2147483648 := r_w
  refine lv_aload_n F.1 F.2.1 dX6_seesAll_0 rfl (lv_at hl 0 rfl) ?_
  refine gf6_1 F hK hP 0 rfl tw158 dX6_seesAll_1 ?_
  refine lv_iload_n F.1 F.2.1 dX6_seesAll_4 rfl (lv_at hl 1 rfl) ?_
  refine rr_rdV (rest := []) F hK (c_X3_hasWalker l D cy st r bk ws wc sp w (by first | assumption | omega | exact ⟨by omega, by omega⟩) (by first | assumption | omega | exact ⟨by omega, by omega⟩)) (hP.sub [1] rfl) sf_X3_hasWalker tw500 3 rfl rfl ⟨Nat.le_of_ble_eq_true rfl, Nat.le_of_ble_eq_true rfl⟩ hl rfl (Nat.le_of_ble_eq_true rfl) dX6_seesAll_5 ⟨Nat.zero_le _, Nat.zero_le _⟩ ?_
  refine rr_ifP_ne F (tgt := 21) dX6_seesAll_8 (by decide) (fun c_8 => ?_) (fun c_8 => ?_)
  · exfalso; omega
  · exact rr_throw F hnt hX hZ hl (E := xIO) (text := "no such walker") xatIO (by decide +kernel) tw409 tw14 (List.mem_of_getElem? (i := 10) rfl) dX6_seesAll_11 dX6_seesAll_14 dX6_seesAll_15 dX6_seesAll_17 dX6_seesAll_20 hex ⟨Nat.le_of_ble_eq_true rfl, Nat.le_of_ble_eq_true rfl, Nat.le_of_ble_eq_true rfl, Nat.le_of_ble_eq_true rfl⟩ hlocks
set_option maxRecDepth 100000 in
set_option maxHeartbeats 4000000 in
theorem t_X6_ifWorn_21 (l : Launch) (hnt : l.stackTraces = false) (D : va_G) (cy : Nat → ClassId) (sa : Nat → Nat) (x tx sk hi sl fi : Nat) (st ws : Nat) (wc sp : Int) (r sg : Nat) (n : Int) (g q : Int → Int) (bk la na : Nat) (nw : Int) (lt ln : Int → Int) (bl : Int → Int) (bc : Int → Int → Int) (i d : Int) (hG : RG n g q) (hB : BK nw lt ln bl bc) (r_i : inR i) (r_d : inR d) (h1 : ¬ ((0 ≤ i ∧ i < n) ∧ 0 ≤ d ∧ d ≤ 1)) : Tx l yX6_ifWorn cX6_ifWorn 3 (some FieldType.int) 6 [.ref x, vI i, vI d] D cy sa [(x, .inr (6, [.ref tx, .ref st, .ref sk, .ref hi, .ref sl, .ref fi])), (st, .inr (3, [.ref r, .ref bk, .ref ws, vI wc, vI sp])), (r, .inr (2, [.ref sg, vI n])), (sg, .inl (cy 0, 24, .inl (iA g))), (bk, .inr (0, [.ref la, .ref na, vI nw])), (la, .inl (cy 0, 60, .inl (iA lt))), (na, .inl (cy 1, 10, .inl (iA ln)))] xIO := by
  refine Tx.of RX6 rfl [(0, .ref x), (1, vI i), (2, vI d)] rfl (by decide +kernel) (Nat.le_of_ble_eq_true rfl) ?_
  intro p e s m args below meth c F hex hlocks hK hX hZ hP ls hl
  have r_i_r : -2147483648 ≤ i ∧ i < 2147483648 := r_i
  have r_d_r : -2147483648 ≤ d ∧ d < 2147483648 := r_d
  have hn0 := hG.1
  have hn1 := hG.2.1
  have hw0 := hB.1
  have hw1 := hB.2.1
  refine lv_aload_n F.1 F.2.1 dX6_ifWorn_0 rfl (lv_at hl 0 rfl) ?_
  refine gf6_1 F hK hP 0 rfl tw158 dX6_ifWorn_1 ?_
  refine gf3_0N F hK hP 1 rfl tn118 dX6_ifWorn_4 ?_
  refine lv_iload_n F.1 F.2.1 dX6_ifWorn_7 rfl (lv_at hl 1 rfl) ?_
  refine rr_rdV (rest := []) F hK (c_X2_hasPlace l D cy r sg n g q i (by first | assumption | omega | exact ⟨by omega, by omega⟩) (by first | assumption | omega | exact ⟨by omega, by omega⟩)) (hP.sub [2, 3] rfl) sf_X2_hasPlace tw405 2 rfl rfl ⟨Nat.le_of_ble_eq_true rfl, Nat.le_of_ble_eq_true rfl⟩ hl rfl (Nat.le_of_ble_eq_true rfl) dX6_ifWorn_8 ⟨Nat.zero_le _, Nat.zero_le _⟩ ?_
  refine rr_ifP_eq F (tgt := 21) dX6_ifWorn_11 (by decide) (fun c_11 => ?_) (fun c_11 => ?_)
  · exact rr_throw F hnt hX hZ hl (E := xIO) (text := "no such place or direction") xatIO (by decide +kernel) tw409 tw14 (List.mem_of_getElem? (i := 16) rfl) dX6_ifWorn_21 dX6_ifWorn_24 dX6_ifWorn_25 dX6_ifWorn_27 dX6_ifWorn_30 hex ⟨Nat.le_of_ble_eq_true rfl, Nat.le_of_ble_eq_true rfl, Nat.le_of_ble_eq_true rfl, Nat.le_of_ble_eq_true rfl⟩ hlocks
  · refine lv_iload_n F.1 F.2.1 dX6_ifWorn_14 rfl (lv_at hl 2 rfl) ?_
    refine rr_rdS (rest := []) F hK (c_X6_isDirection l D cy d (by first | assumption | omega | exact ⟨by omega, by omega⟩)) (hP.sub [] rfl) sf_X6_isDirection tw448 ⟨Nat.le_of_ble_eq_true rfl, Nat.le_of_ble_eq_true rfl⟩ hl rfl (Nat.le_of_ble_eq_true rfl) dX6_ifWorn_15 ⟨Nat.zero_le _, Nat.zero_le _⟩ ?_
    refine rr_ifP_ne F (tgt := 31) dX6_ifWorn_18 (by decide) (fun c_18 => ?_) (fun c_18 => ?_)
    · exfalso; omega
    · exact rr_throw F hnt hX hZ hl (E := xIO) (text := "no such place or direction") xatIO (by decide +kernel) tw409 tw14 (List.mem_of_getElem? (i := 16) rfl) dX6_ifWorn_21 dX6_ifWorn_24 dX6_ifWorn_25 dX6_ifWorn_27 dX6_ifWorn_30 hex ⟨Nat.le_of_ble_eq_true rfl, Nat.le_of_ble_eq_true rfl, Nat.le_of_ble_eq_true rfl, Nat.le_of_ble_eq_true rfl⟩ hlocks
set_option maxRecDepth 100000 in
set_option maxHeartbeats 4000000 in
theorem t_X6_bestDivider_7 (l : Launch) (hnt : l.stackTraces = false) (D : va_G) (cy : Nat → ClassId) (sa : Nat → Nat) (x tx st sk hi sl fi : Nat) (d i : Int) (r_d : inR d) (r_i : inR i) (h1 : ¬ (0 ≤ d ∧ d ≤ 1)) : Tx l yX6_bestDivider cX6_bestDivider 7 (some FieldType.int) 6 [.ref x, vI d, vI i] D cy sa [(x, .inr (6, [.ref tx, .ref st, .ref sk, .ref hi, .ref sl, .ref fi]))] xIO := by
  refine Tx.of RX6 rfl [(0, .ref x), (1, vI d), (2, vI i)] rfl (by decide +kernel) (Nat.le_of_ble_eq_true rfl) ?_
  intro p e s m args below meth c F hex hlocks hK hX hZ hP ls hl
  have r_d_r : -2147483648 ≤ d ∧ d < 2147483648 := r_d
  have r_i_r : -2147483648 ≤ i ∧ i < 2147483648 := r_i
  refine lv_iload_n F.1 F.2.1 dX6_bestDivider_0 rfl (lv_at hl 1 rfl) ?_
  refine rr_rdS (rest := []) F hK (c_X6_isDirection l D cy d (by first | assumption | omega | exact ⟨by omega, by omega⟩)) (hP.sub [] rfl) sf_X6_isDirection tw448 ⟨Nat.le_of_ble_eq_true rfl, Nat.le_of_ble_eq_true rfl⟩ hl rfl (Nat.le_of_ble_eq_true rfl) dX6_bestDivider_1 ⟨Nat.zero_le _, Nat.zero_le _⟩ ?_
  refine rr_ifP_ne F (tgt := 17) dX6_bestDivider_4 (by decide) (fun c_4 => ?_) (fun c_4 => ?_)
  · exfalso; omega
  · exact rr_throw F hnt hX hZ hl (E := xIO) (text := "no such direction") xatIO (by decide +kernel) tw409 tw14 (List.mem_of_getElem? (i := 6) rfl) dX6_bestDivider_7 dX6_bestDivider_10 dX6_bestDivider_11 dX6_bestDivider_13 dX6_bestDivider_16 hex ⟨Nat.le_of_ble_eq_true rfl, Nat.le_of_ble_eq_true rfl, Nat.le_of_ble_eq_true rfl, Nat.le_of_ble_eq_true rfl⟩ hlocks
set_option maxRecDepth 100000 in
set_option maxHeartbeats 4000000 in
theorem t_X6_bestDivider_26 (l : Launch) (hnt : l.stackTraces = false) (D : va_G) (cy : Nat → ClassId) (sa : Nat → Nat) (x tx st sk hi sl fi : Nat) (d i : Int) (r_d : inR d) (r_i : inR i) (h1 : 0 ≤ d ∧ d ≤ 1) (h2 : ¬ (0 ≤ i ∧ i ≤ 1)) : Tx l yX6_bestDivider cX6_bestDivider 7 (some FieldType.int) 6 [.ref x, vI d, vI i] D cy sa [(x, .inr (6, [.ref tx, .ref st, .ref sk, .ref hi, .ref sl, .ref fi]))] xIA := by
  refine Tx.of RX6 rfl [(0, .ref x), (1, vI d), (2, vI i)] rfl (by decide +kernel) (Nat.le_of_ble_eq_true rfl) ?_
  intro p e s m args below meth c F hex hlocks hK hX hZ hP ls hl
  have r_d_r : -2147483648 ≤ d ∧ d < 2147483648 := r_d
  have r_i_r : -2147483648 ≤ i ∧ i < 2147483648 := r_i
  refine lv_iload_n F.1 F.2.1 dX6_bestDivider_0 rfl (lv_at hl 1 rfl) ?_
  refine rr_rdS (rest := []) F hK (c_X6_isDirection l D cy d (by first | assumption | omega | exact ⟨by omega, by omega⟩)) (hP.sub [] rfl) sf_X6_isDirection tw448 ⟨Nat.le_of_ble_eq_true rfl, Nat.le_of_ble_eq_true rfl⟩ hl rfl (Nat.le_of_ble_eq_true rfl) dX6_bestDivider_1 ⟨Nat.zero_le _, Nat.zero_le _⟩ ?_
  refine rr_ifP_ne F (tgt := 17) dX6_bestDivider_4 (by decide) (fun c_4 => ?_) (fun c_4 => ?_)
  · refine lv_iload_n F.1 F.2.1 dX6_bestDivider_17 rfl (lv_at hl 2 rfl) ?_
    refine rr_if_lt F (tgt := 26) dX6_bestDivider_18 (by decide) ⟨by omega, by omega⟩ (fun c_18 => ?_) (fun c_18 => ?_)
    · exact rr_throw F hnt hX hZ hl (E := xIA) (text := "no such number") xatIA (by decide +kernel) tw272 tw12 (List.mem_of_getElem? (i := 2) rfl) dX6_bestDivider_26 dX6_bestDivider_29 dX6_bestDivider_30 dX6_bestDivider_32 dX6_bestDivider_35 hex ⟨Nat.le_of_ble_eq_true rfl, Nat.le_of_ble_eq_true rfl, Nat.le_of_ble_eq_true rfl, Nat.le_of_ble_eq_true rfl⟩ hlocks
    · refine lv_iload_n F.1 F.2.1 dX6_bestDivider_21 rfl (lv_at hl 2 rfl) ?_
      refine rr_iconst F dX6_bestDivider_22 ?_
      refine rr_icmp_le F (tgt := 36) dX6_bestDivider_23 (by decide) ⟨by omega, by omega⟩ ⟨by omega, by omega⟩ (fun c_23 => ?_) (fun c_23 => ?_)
      · exfalso; omega
      · exact rr_throw F hnt hX hZ hl (E := xIA) (text := "no such number") xatIA (by decide +kernel) tw272 tw12 (List.mem_of_getElem? (i := 2) rfl) dX6_bestDivider_26 dX6_bestDivider_29 dX6_bestDivider_30 dX6_bestDivider_32 dX6_bestDivider_35 hex ⟨Nat.le_of_ble_eq_true rfl, Nat.le_of_ble_eq_true rfl, Nat.le_of_ble_eq_true rfl, Nat.le_of_ble_eq_true rfl⟩ hlocks
  · exfalso; omega
set_option maxRecDepth 100000 in
set_option maxHeartbeats 4000000 in
theorem t_X6_canBe_21 (l : Launch) (hnt : l.stackTraces = false) (D : va_G) (cy : Nat → ClassId) (sa : Nat → Nat) (x tx sk hi sl fi : Nat) (st ws : Nat) (wc sp : Int) (r sg : Nat) (n : Int) (g q : Int → Int) (bk la na : Nat) (nw : Int) (lt ln : Int → Int) (bl : Int → Int) (bc : Int → Int → Int) (i d : Int) (hG : RG n g q) (hB : BK nw lt ln bl bc) (r_i : inR i) (r_d : inR d) (h1 : ¬ ((0 ≤ i ∧ i < n) ∧ 0 ≤ d ∧ d ≤ 1)) : Tx l yX6_canBe cX6_canBe 5 (some FieldType.int) 6 [.ref x, vI i, vI d] D cy sa [(x, .inr (6, [.ref tx, .ref st, .ref sk, .ref hi, .ref sl, .ref fi])), (st, .inr (3, [.ref r, .ref bk, .ref ws, vI wc, vI sp])), (r, .inr (2, [.ref sg, vI n])), (sg, .inl (cy 0, 24, .inl (iA g))), (bk, .inr (0, [.ref la, .ref na, vI nw])), (la, .inl (cy 0, 60, .inl (iA lt))), (na, .inl (cy 1, 10, .inl (iA ln)))] xIO := by
  refine Tx.of RX6 rfl [(0, .ref x), (1, vI i), (2, vI d)] rfl (by decide +kernel) (Nat.le_of_ble_eq_true rfl) ?_
  intro p e s m args below meth c F hex hlocks hK hX hZ hP ls hl
  have r_i_r : -2147483648 ≤ i ∧ i < 2147483648 := r_i
  have r_d_r : -2147483648 ≤ d ∧ d < 2147483648 := r_d
  have hn0 := hG.1
  have hn1 := hG.2.1
  have hw0 := hB.1
  have hw1 := hB.2.1
  refine lv_aload_n F.1 F.2.1 dX6_canBe_0 rfl (lv_at hl 0 rfl) ?_
  refine gf6_1 F hK hP 0 rfl tw158 dX6_canBe_1 ?_
  refine gf3_0N F hK hP 1 rfl tn118 dX6_canBe_4 ?_
  refine lv_iload_n F.1 F.2.1 dX6_canBe_7 rfl (lv_at hl 1 rfl) ?_
  refine rr_rdV (rest := []) F hK (c_X2_hasPlace l D cy r sg n g q i (by first | assumption | omega | exact ⟨by omega, by omega⟩) (by first | assumption | omega | exact ⟨by omega, by omega⟩)) (hP.sub [2, 3] rfl) sf_X2_hasPlace tw405 2 rfl rfl ⟨Nat.le_of_ble_eq_true rfl, Nat.le_of_ble_eq_true rfl⟩ hl rfl (Nat.le_of_ble_eq_true rfl) dX6_canBe_8 ⟨Nat.zero_le _, Nat.zero_le _⟩ ?_
  refine rr_ifP_eq F (tgt := 21) dX6_canBe_11 (by decide) (fun c_11 => ?_) (fun c_11 => ?_)
  · exact rr_throw F hnt hX hZ hl (E := xIO) (text := "no such place or direction") xatIO (by decide +kernel) tw409 tw14 (List.mem_of_getElem? (i := 16) rfl) dX6_canBe_21 dX6_canBe_24 dX6_canBe_25 dX6_canBe_27 dX6_canBe_30 hex ⟨Nat.le_of_ble_eq_true rfl, Nat.le_of_ble_eq_true rfl, Nat.le_of_ble_eq_true rfl, Nat.le_of_ble_eq_true rfl⟩ hlocks
  · refine lv_iload_n F.1 F.2.1 dX6_canBe_14 rfl (lv_at hl 2 rfl) ?_
    refine rr_rdS (rest := []) F hK (c_X6_isDirection l D cy d (by first | assumption | omega | exact ⟨by omega, by omega⟩)) (hP.sub [] rfl) sf_X6_isDirection tw448 ⟨Nat.le_of_ble_eq_true rfl, Nat.le_of_ble_eq_true rfl⟩ hl rfl (Nat.le_of_ble_eq_true rfl) dX6_canBe_15 ⟨Nat.zero_le _, Nat.zero_le _⟩ ?_
    refine rr_ifP_ne F (tgt := 31) dX6_canBe_18 (by decide) (fun c_18 => ?_) (fun c_18 => ?_)
    · exfalso; omega
    · exact rr_throw F hnt hX hZ hl (E := xIO) (text := "no such place or direction") xatIO (by decide +kernel) tw409 tw14 (List.mem_of_getElem? (i := 16) rfl) dX6_canBe_21 dX6_canBe_24 dX6_canBe_25 dX6_canBe_27 dX6_canBe_30 hex ⟨Nat.le_of_ble_eq_true rfl, Nat.le_of_ble_eq_true rfl, Nat.le_of_ble_eq_true rfl, Nat.le_of_ble_eq_true rfl⟩ hlocks
set_option maxRecDepth 100000 in
set_option maxHeartbeats 4000000 in
theorem t_X6_runScript_10 (l : Launch) (hnt : l.stackTraces = false) (D : va_G) (cy : Nat → ClassId) (sa : Nat → Nat) (x tx st sk hi sl fi : Nat) (n0 s0 : Int) (r_n0 : inR n0) (h1 : ¬ (1 ≤ n0 ∧ n0 ≤ 3)) : Tx l yX6_runScript cX6_runScript 9 (some FieldType.int) 6 [.ref x, vI n0, .long (lI s0)] D cy sa [(x, .inr (6, [.ref tx, .ref st, .ref sk, .ref hi, .ref sl, .ref fi]))] xIA := by
  refine Tx.of RX6 rfl [(0, .ref x), (1, vI n0), (2, .long (lI s0))] rfl (by decide +kernel) (Nat.le_of_ble_eq_true rfl) ?_
  intro p e s m args below meth c F hex hlocks hK hX hZ hP ls hl
  have r_n0_r : -2147483648 ≤ n0 ∧ n0 < 2147483648 := r_n0
  refine lv_iload_n F.1 F.2.1 dX6_runScript_0 rfl (lv_at hl 1 rfl) ?_
  refine rr_iconst F dX6_runScript_1 ?_
  refine rr_icmp_lt F (tgt := 10) dX6_runScript_2 (by decide) ⟨by omega, by omega⟩ ⟨by omega, by omega⟩ (fun c_2 => ?_) (fun c_2 => ?_)
  · exact rr_throwW F hnt hX hZ hl (E := xIA) (text := "not a number of commands") xatIA (by decide +kernel) tw272 tw12 (List.mem_of_getElem? (i := 22) rfl) dX6_runScript_10 dX6_runScript_13 dX6_runScript_14 dX6_runScript_17 dX6_runScript_20 hex ⟨Nat.le_of_ble_eq_true rfl, Nat.le_of_ble_eq_true rfl, Nat.le_of_ble_eq_true rfl, Nat.le_of_ble_eq_true rfl⟩ hlocks
  · refine lv_iload_n F.1 F.2.1 dX6_runScript_5 rfl (lv_at hl 1 rfl) ?_
    refine rr_iconst F dX6_runScript_6 ?_
    refine rr_icmp_le F (tgt := 21) dX6_runScript_7 (by decide) ⟨by omega, by omega⟩ ⟨by omega, by omega⟩ (fun c_7 => ?_) (fun c_7 => ?_)
    · exfalso; omega
    · exact rr_throwW F hnt hX hZ hl (E := xIA) (text := "not a number of commands") xatIA (by decide +kernel) tw272 tw12 (List.mem_of_getElem? (i := 22) rfl) dX6_runScript_10 dX6_runScript_13 dX6_runScript_14 dX6_runScript_17 dX6_runScript_20 hex ⟨Nat.le_of_ble_eq_true rfl, Nat.le_of_ble_eq_true rfl, Nat.le_of_ble_eq_true rfl, Nat.le_of_ble_eq_true rfl⟩ hlocks
set_option maxRecDepth 100000 in
set_option maxHeartbeats 4000000 in
theorem t_X6_runScript_60 (l : Launch) (hnt : l.stackTraces = false) (D : va_G) (cy : Nat → ClassId) (sa : Nat → Nat) (x tx st sk hi sl fi : Nat) (n0 s0 : Int) (r_n0 : inR n0) (s_r : inL s0) (h1 : 1 ≤ n0 ∧ n0 ≤ 3) (h2 : ¬ (0 ≤ s0 ∧ s0 < pw n0)) : Tx l yX6_runScript cX6_runScript 9 (some FieldType.int) 6 [.ref x, vI n0, .long (lI s0)] D cy sa [(x, .inr (6, [.ref tx, .ref st, .ref sk, .ref hi, .ref sl, .ref fi]))] xIA := by
  refine Tx.of RX6 rfl [(0, .ref x), (1, vI n0), (2, .long (lI s0))] rfl (by decide +kernel) (Nat.le_of_ble_eq_true rfl) ?_
  intro p e s m args below meth c F hex hlocks hK hX hZ hP ls hl
  have r_n0_r : -2147483648 ≤ n0 ∧ n0 < 2147483648 := r_n0
  have hp0 := pw_rng n0
  refine lv_iload_n F.1 F.2.1 dX6_runScript_0 rfl (lv_at hl 1 rfl) ?_
  refine rr_iconst F dX6_runScript_1 ?_
  refine rr_icmp_lt F (tgt := 10) dX6_runScript_2 (by decide) ⟨by omega, by omega⟩ ⟨by omega, by omega⟩ (fun c_2 => ?_) (fun c_2 => ?_)
  · exfalso; omega
  · refine lv_iload_n F.1 F.2.1 dX6_runScript_5 rfl (lv_at hl 1 rfl) ?_
    refine rr_iconst F dX6_runScript_6 ?_
    refine rr_icmp_le F (tgt := 21) dX6_runScript_7 (by decide) ⟨by omega, by omega⟩ ⟨by omega, by omega⟩ (fun c_7 => ?_) (fun c_7 => ?_)
    · refine rr_lconst F 1 rfl dX6_runScript_21 ?_
      refine lv_lstore (lv' := [(4, .long (lI 1)), (0, .ref x), (1, vI n0), (2, .long (lI s0))]) F.1 F.2.1 dX6_runScript_22 hl (by decide) rfl (fun ls hl => ?_)
      refine rr_iconst F dX6_runScript_24 ?_
      refine lv_istore (lv' := [(6, vI 0), (4, .long (lI 1)), (0, .ref x), (1, vI n0), (2, .long (lI s0))]) F.1 F.2.1 dX6_runScript_25 hl (by decide) rfl (fun ls hl => ?_)
      refine rr_loop1 (fun t => (0 ≤ t) ∧ (t ≤ n0)) (fun t => (4 - t).toNat) (fun t => [(6, vI t), (4, .long (lI (pw t))), (0, .ref x), (1, vI n0), (2, .long (lI s0))]) ?_ 0 ⟨by omega, by omega⟩ (lv_cv (lv_sub hl [0, 1, 2, 3, 4] rfl) (by rw [← show (1 : Int) = pw 0 from by rfl]; rfl))
      intro t hI ih_27 ls hl
      obtain ⟨t0, t1⟩ := hI
      have hl : lv_has ls 9 [(6, vI t), (4, .long (lI (pw t))), (0, .ref x), (1, vI n0), (2, .long (lI s0))] := hl
      have pr := pw_rng t
      refine lv_iload F.1 F.2.1 dX6_runScript_27 (lv_at hl 0 rfl) ?_
      refine lv_iload_n F.1 F.2.1 dX6_runScript_29 rfl (lv_at hl 3 rfl) ?_
      refine rr_icmp_ge F (tgt := 47) dX6_runScript_30 (by decide) ⟨by omega, by omega⟩ ⟨by omega, by omega⟩ (fun c_30 => ?_) (fun c_30 => ?_)
      · have htn : pw t = pw n0 := by rw [show t = n0 by omega]
        refine lv_lload_n F.1 F.2.1 dX6_runScript_47 rfl (lv_at hl 4 rfl) ?_
        refine rr_lconst F 0 rfl dX6_runScript_48 ?_
        refine rr_lcmp F dX6_runScript_49 s_r ⟨by omega, by omega⟩ ?_
        have lc_49 := lcm_spec s0 0
        refine rr_if_lt F (tgt := 60) dX6_runScript_50 (by decide) ⟨by omega, by omega⟩ (fun c_50 => ?_) (fun c_50 => ?_)
        · exact rr_throwW F hnt hX hZ hl (E := xIA) (text := "not a script of so many commands") xatIA (by decide +kernel) tw272 tw12 (List.mem_of_getElem? (i := 23) rfl) dX6_runScript_60 dX6_runScript_63 dX6_runScript_64 dX6_runScript_67 dX6_runScript_70 hex ⟨Nat.le_of_ble_eq_true rfl, Nat.le_of_ble_eq_true rfl, Nat.le_of_ble_eq_true rfl, Nat.le_of_ble_eq_true rfl⟩ hlocks
        · refine lv_lload_n F.1 F.2.1 dX6_runScript_53 rfl (lv_at hl 4 rfl) ?_
          refine lv_lload F.1 F.2.1 dX6_runScript_54 (lv_at hl 1 rfl) ?_
          refine rr_lcmp F dX6_runScript_56 s_r ⟨by omega, by omega⟩ ?_
          have lc_56 := lcm_spec s0 (pw t)
          refine rr_if_lt F (tgt := 71) dX6_runScript_57 (by decide) ⟨by omega, by omega⟩ (fun c_57 => ?_) (fun c_57 => ?_)
          · exfalso; omega
          · exact rr_throwW F hnt hX hZ hl (E := xIA) (text := "not a script of so many commands") xatIA (by decide +kernel) tw272 tw12 (List.mem_of_getElem? (i := 23) rfl) dX6_runScript_60 dX6_runScript_63 dX6_runScript_64 dX6_runScript_67 dX6_runScript_70 hex ⟨Nat.le_of_ble_eq_true rfl, Nat.le_of_ble_eq_true rfl, Nat.le_of_ble_eq_true rfl, Nat.le_of_ble_eq_true rfl⟩ hlocks
      · refine lv_lload F.1 F.2.1 dX6_runScript_33 (lv_at hl 1 rfl) ?_
        refine rr_ldc2 F 10000 rfl tw827 dX6_runScript_35 ?_
        refine rr_lmul F (z := pw (t + 1)) dX6_runScript_38 (pw_u (by omega)) ?_
        refine lv_lstore (lv' := [(4, .long (lI (pw (t + 1)))), (6, vI t), (0, .ref x), (1, vI n0), (2, .long (lI s0))]) F.1 F.2.1 dX6_runScript_39 hl (by decide) rfl (fun ls hl => ?_)
        refine lv_iinc (v := iI (t + 1)) (lv' := [(6, vI (t + 1)), (4, .long (lI (pw (t + 1)))), (0, .ref x), (1, vI n0), (2, .long (lI s0))]) F.1 F.2.1 dX6_runScript_41 hl (k := 1) rfl (iinc_ok (by first | rfl | omega)) (by decide) rfl (fun ls hl => ?_)
        refine lv_goto (tgt := 27) F.1 F.2.1 dX6_runScript_44 (by decide) ?_
        exact ih_27 (t + 1) ⟨by omega, by omega⟩ (show ((4 - (t + 1)).toNat) < ((4 - t).toNat) by omega) ls (lv_sub hl [0, 1, 2, 3, 4] rfl)
    · exfalso; omega
set_option maxRecDepth 100000 in
set_option maxHeartbeats 4000000 in
theorem t_X6_simulate_11 (l : Launch) (hnt : l.stackTraces = false) (D : va_G) (cy : Nat → ClassId) (sa : Nat → Nat) (x tx st sk hi sl fi : Nat) (s0 t0 : Int) (r_t0 : inR t0) (h1 : ¬ (1 ≤ t0 ∧ t0 ≤ 60)) : Tx l yX6_simulate cX6_simulate 7 (some FieldType.int) 6 [.ref x, .long (lI s0), vI t0] D cy sa [(x, .inr (6, [.ref tx, .ref st, .ref sk, .ref hi, .ref sl, .ref fi]))] xIA := by
  refine Tx.of RX6 rfl [(0, .ref x), (1, .long (lI s0)), (3, vI t0)] rfl (by decide +kernel) (Nat.le_of_ble_eq_true rfl) ?_
  intro p e s m args below meth c F hex hlocks hK hX hZ hP ls hl
  have r_t0_r : -2147483648 ≤ t0 ∧ t0 < 2147483648 := r_t0
  refine lv_iload_n F.1 F.2.1 dX6_simulate_0 rfl (lv_at hl 2 rfl) ?_
  refine rr_iconst F dX6_simulate_1 ?_
  refine rr_icmp_lt F (tgt := 11) dX6_simulate_2 (by decide) ⟨by omega, by omega⟩ ⟨by omega, by omega⟩ (fun c_2 => ?_) (fun c_2 => ?_)
  · exact rr_throwW F hnt hX hZ hl (E := xIA) (text := "not a number of turns") xatIA (by decide +kernel) tw272 tw12 (List.mem_of_getElem? (i := 24) rfl) dX6_simulate_11 dX6_simulate_14 dX6_simulate_15 dX6_simulate_18 dX6_simulate_21 hex ⟨Nat.le_of_ble_eq_true rfl, Nat.le_of_ble_eq_true rfl, Nat.le_of_ble_eq_true rfl, Nat.le_of_ble_eq_true rfl⟩ hlocks
  · refine lv_iload_n F.1 F.2.1 dX6_simulate_5 rfl (lv_at hl 2 rfl) ?_
    refine rr_bipush F dX6_simulate_6 (by decide) ?_
    refine rr_icmp_le F (tgt := 22) dX6_simulate_8 (by decide) ⟨by omega, by omega⟩ ⟨by omega, by omega⟩ (fun c_8 => ?_) (fun c_8 => ?_)
    · exfalso; omega
    · exact rr_throwW F hnt hX hZ hl (E := xIA) (text := "not a number of turns") xatIA (by decide +kernel) tw272 tw12 (List.mem_of_getElem? (i := 24) rfl) dX6_simulate_11 dX6_simulate_14 dX6_simulate_15 dX6_simulate_18 dX6_simulate_21 hex ⟨Nat.le_of_ble_eq_true rfl, Nat.le_of_ble_eq_true rfl, Nat.le_of_ble_eq_true rfl, Nat.le_of_ble_eq_true rfl⟩ hlocks
set_option maxRecDepth 100000 in
set_option maxHeartbeats 4000000 in
theorem t_X6_save_9 (l : Launch) (hnt : l.stackTraces = false) (D : va_G) (cy : Nat → ClassId) (sa : Nat → Nat) (x tx st sk hi sl fi : Nat) (i0 : Int) (r_i0 : inR i0) (h1 : ¬ (0 ≤ i0 ∧ i0 ≤ 1)) : Tx l yX6_save cX6_save 2 (some FieldType.int) 6 [.ref x, vI i0] D cy sa [(x, .inr (6, [.ref tx, .ref st, .ref sk, .ref hi, .ref sl, .ref fi]))] xIO := by
  refine Tx.of RX6 rfl [(0, .ref x), (1, vI i0)] rfl (by decide +kernel) (Nat.le_of_ble_eq_true rfl) ?_
  intro p e s m args below meth c F hex hlocks hK hX hZ hP ls hl
  have r_i0_r : -2147483648 ≤ i0 ∧ i0 < 2147483648 := r_i0
  refine lv_iload_n F.1 F.2.1 dX6_save_0 rfl (lv_at hl 1 rfl) ?_
  refine rr_if_lt F (tgt := 9) dX6_save_1 (by decide) ⟨by omega, by omega⟩ (fun c_1 => ?_) (fun c_1 => ?_)
  · exact rr_throwW F hnt hX hZ hl (E := xIO) (text := "no such save slot") xatIO (by decide +kernel) tw409 tw14 (List.mem_of_getElem? (i := 25) rfl) dX6_save_9 dX6_save_12 dX6_save_13 dX6_save_16 dX6_save_19 hex ⟨Nat.le_of_ble_eq_true rfl, Nat.le_of_ble_eq_true rfl, Nat.le_of_ble_eq_true rfl, Nat.le_of_ble_eq_true rfl⟩ hlocks
  · refine lv_iload_n F.1 F.2.1 dX6_save_4 rfl (lv_at hl 1 rfl) ?_
    refine rr_iconst F dX6_save_5 ?_
    refine rr_icmp_lt F (tgt := 20) dX6_save_6 (by decide) ⟨by omega, by omega⟩ ⟨by omega, by omega⟩ (fun c_6 => ?_) (fun c_6 => ?_)
    · exfalso; omega
    · exact rr_throwW F hnt hX hZ hl (E := xIO) (text := "no such save slot") xatIO (by decide +kernel) tw409 tw14 (List.mem_of_getElem? (i := 25) rfl) dX6_save_9 dX6_save_12 dX6_save_13 dX6_save_16 dX6_save_19 hex ⟨Nat.le_of_ble_eq_true rfl, Nat.le_of_ble_eq_true rfl, Nat.le_of_ble_eq_true rfl, Nat.le_of_ble_eq_true rfl⟩ hlocks
set_option maxRecDepth 100000 in
set_option maxHeartbeats 4000000 in
theorem t_X6_restore_9 (l : Launch) (hnt : l.stackTraces = false) (D : va_G) (cy : Nat → ClassId) (sa : Nat → Nat) (x tx st sk hi sl fi : Nat) (i0 : Int) (r_i0 : inR i0) (h1 : ¬ (0 ≤ i0 ∧ i0 ≤ 1)) : Tx l yX6_restore cX6_restore 2 (some FieldType.int) 6 [.ref x, vI i0] D cy sa [(x, .inr (6, [.ref tx, .ref st, .ref sk, .ref hi, .ref sl, .ref fi]))] xIO := by
  refine Tx.of RX6 rfl [(0, .ref x), (1, vI i0)] rfl (by decide +kernel) (Nat.le_of_ble_eq_true rfl) ?_
  intro p e s m args below meth c F hex hlocks hK hX hZ hP ls hl
  have r_i0_r : -2147483648 ≤ i0 ∧ i0 < 2147483648 := r_i0
  refine lv_iload_n F.1 F.2.1 dX6_restore_0 rfl (lv_at hl 1 rfl) ?_
  refine rr_if_lt F (tgt := 9) dX6_restore_1 (by decide) ⟨by omega, by omega⟩ (fun c_1 => ?_) (fun c_1 => ?_)
  · exact rr_throwW F hnt hX hZ hl (E := xIO) (text := "no such save slot") xatIO (by decide +kernel) tw409 tw14 (List.mem_of_getElem? (i := 25) rfl) dX6_restore_9 dX6_restore_12 dX6_restore_13 dX6_restore_16 dX6_restore_19 hex ⟨Nat.le_of_ble_eq_true rfl, Nat.le_of_ble_eq_true rfl, Nat.le_of_ble_eq_true rfl, Nat.le_of_ble_eq_true rfl⟩ hlocks
  · refine lv_iload_n F.1 F.2.1 dX6_restore_4 rfl (lv_at hl 1 rfl) ?_
    refine rr_iconst F dX6_restore_5 ?_
    refine rr_icmp_lt F (tgt := 20) dX6_restore_6 (by decide) ⟨by omega, by omega⟩ ⟨by omega, by omega⟩ (fun c_6 => ?_) (fun c_6 => ?_)
    · exfalso; omega
    · exact rr_throwW F hnt hX hZ hl (E := xIO) (text := "no such save slot") xatIO (by decide +kernel) tw409 tw14 (List.mem_of_getElem? (i := 25) rfl) dX6_restore_9 dX6_restore_12 dX6_restore_13 dX6_restore_16 dX6_restore_19 hex ⟨Nat.le_of_ble_eq_true rfl, Nat.le_of_ble_eq_true rfl, Nat.le_of_ble_eq_true rfl, Nat.le_of_ble_eq_true rfl⟩ hlocks
set_option maxRecDepth 100000 in
set_option maxHeartbeats 4000000 in
theorem t_X6_restore_29 (l : Launch) (hnt : l.stackTraces = false) (D : va_G) (cy : Nat → ClassId) (sa : Nat → Nat) (x tx st sk hi sl fi : Nat) (fv : Int → Int) (i0 : Int) (r_i0 : inR i0) (h1 : 0 ≤ i0 ∧ i0 ≤ 1) (h2 : fv i0 = 0) : Tx l yX6_restore cX6_restore 2 (some FieldType.int) 6 [.ref x, vI i0] D cy sa [(x, .inr (6, [.ref tx, .ref st, .ref sk, .ref hi, .ref sl, .ref fi])), (fi, .inl (cy 2, 2, .inl (iA fv)))] xIS := by
  refine Tx.of RX6 rfl [(0, .ref x), (1, vI i0)] rfl (by decide +kernel) (Nat.le_of_ble_eq_true rfl) ?_
  intro p e s m args below meth c F hex hlocks hK hX hZ hP ls hl
  have r_i0_r : -2147483648 ≤ i0 ∧ i0 < 2147483648 := r_i0
  refine lv_iload_n F.1 F.2.1 dX6_restore_0 rfl (lv_at hl 1 rfl) ?_
  refine rr_if_lt F (tgt := 9) dX6_restore_1 (by decide) ⟨by omega, by omega⟩ (fun c_1 => ?_) (fun c_1 => ?_)
  · exfalso; omega
  · refine lv_iload_n F.1 F.2.1 dX6_restore_4 rfl (lv_at hl 1 rfl) ?_
    refine rr_iconst F dX6_restore_5 ?_
    refine rr_icmp_lt F (tgt := 20) dX6_restore_6 (by decide) ⟨by omega, by omega⟩ ⟨by omega, by omega⟩ (fun c_6 => ?_) (fun c_6 => ?_)
    · refine lv_aload_n F.1 F.2.1 dX6_restore_20 rfl (lv_at hl 0 rfl) ?_
      refine gf6_5 F hK hP 0 rfl tw162 dX6_restore_21 ?_
      refine lv_iload_n F.1 F.2.1 dX6_restore_24 rfl (lv_at hl 1 rfl) ?_
      refine rr_zald F hK hP 1 rfl (by omega) (by omega) (by decide) dX6_restore_25 ?_
      refine rr_if_ne F (tgt := 40) dX6_restore_26 (by decide) ⟨by omega, by omega⟩ (fun c_26 => ?_) (fun c_26 => ?_)
      · exfalso; omega
      · exact rr_throwW F hnt hX hZ hl (E := xIS) (text := "nothing has been saved in it") xatIS (by decide +kernel) tw344 tw13 (List.mem_of_getElem? (i := 26) rfl) dX6_restore_29 dX6_restore_32 dX6_restore_33 dX6_restore_36 dX6_restore_39 hex ⟨Nat.le_of_ble_eq_true rfl, Nat.le_of_ble_eq_true rfl, Nat.le_of_ble_eq_true rfl, Nat.le_of_ble_eq_true rfl⟩ hlocks
    · exfalso; omega
