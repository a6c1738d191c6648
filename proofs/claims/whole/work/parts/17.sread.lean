set_option maxRecDepth 100000 in
set_option maxHeartbeats 4000000 in
theorem c_X3_hasWalker (l : Launch) (D : va_G) (cy : Nat → ClassId) (st : Nat) (ra rb rc : Nat) (wc sp : Int) (w : Int) (hi : inR w) (hc : 0 ≤ wc ∧ wc ≤ 4) : Rd l yX3_hasWalker cX3_hasWalker 2 (some FieldType.boolean) 0 [.ref st, vI w] D cy [(st, .inr (3, [.ref ra, .ref rb, .ref rc, vI wc, vI sp]))] (b2i (pB (0 ≤ w ∧ w < wc))) := by
  refine Rd.of RX3 rfl [(0, .ref st), (1, vI w)] rfl (by decide +kernel) (Nat.le_of_ble_eq_true rfl) ?_
  intro p e s m args below meth c F hr hlocks hK hP ls hl
  refine lv_iload_n F.1 F.2.1 dX3_hasWalker_0 rfl (lv_at hl 1 rfl) ?_
  refine rr_if_lt F (tgt := 16) dX3_hasWalker_1 (by decide) hi (fun c_1 => ?_) (fun c_1 => ?_)
  · refine rr_iconst F dX3_hasWalker_16 ?_
    exact rr_zret F hr hlocks (b := false) dX3_hasWalker_17 rfl (b2i_f (by omega))
  · refine lv_iload_n F.1 F.2.1 dX3_hasWalker_4 rfl (lv_at hl 1 rfl) ?_
    refine lv_aload_n F.1 F.2.1 dX3_hasWalker_5 rfl (lv_at hl 0 rfl) ?_
    refine gf3_3 F hK hP 0 rfl tw123 dX3_hasWalker_6 ?_
    refine rr_icmp_ge F (tgt := 16) dX3_hasWalker_9 (by decide) hi ⟨by omega, by omega⟩ (fun c_9 => ?_) (fun c_9 => ?_)
    · refine rr_iconst F dX3_hasWalker_16 ?_
      exact rr_zret F hr hlocks (b := false) dX3_hasWalker_17 rfl (b2i_f (by omega))
    · refine rr_iconst F dX3_hasWalker_12 ?_
      refine lv_goto (tgt := 17) F.1 F.2.1 dX3_hasWalker_13 (by decide) ?_
      exact rr_zret F hr hlocks (b := true) dX3_hasWalker_17 rfl (b2i_t (by omega))
set_option maxRecDepth 100000 in
set_option maxHeartbeats 4000000 in
theorem c_X3_sense (l : Launch) (D : va_G) (cy : Nat → ClassId) (st ws : Nat) (wc sp : Int) (r sg : Nat) (n : Int) (g q : Int → Int) (bk la na : Nat) (nw : Int) (lt ln : Int → Int) (bl : Int → Int) (bc : Int → Int → Int) (d : Int) (hG : RG n g q) (hB : BK nw lt ln bl bc) (hd : 0 ≤ d ∧ d ≤ 1) : Rd l yX3_sense cX3_sense 4 (some FieldType.int) 4 [.ref st, vI d] D cy [(st, .inr (3, [.ref r, .ref bk, .ref ws, vI wc, vI sp])), (r, .inr (2, [.ref sg, vI n])), (sg, .inl (cy 0, 24, .inl (iA g))), (bk, .inr (0, [.ref la, .ref na, vI nw])), (la, .inl (cy 0, 60, .inl (iA lt))), (na, .inl (cy 1, 10, .inl (iA ln)))] (sns n q nw bl bc d) := by
  refine Rd.of RX3 rfl [(0, .ref st), (1, vI d)] rfl (by decide +kernel) (Nat.le_of_ble_eq_true rfl) ?_
  intro p e s m args below meth c F hr hlocks hK hP ls hl
  have hn0 := hG.1
  have hn1 := hG.2.1
  have hw0 := hB.1
  have hw1 := hB.2.1
  refine rr_iconst F dX3_sense_0 ?_
  refine lv_istore_n (lv' := [(2, vI 0), (0, .ref st), (1, vI d)]) F.1 F.2.1 dX3_sense_1 rfl hl (by decide) rfl (fun ls hl => ?_)
  refine rr_iconst F dX3_sense_2 ?_
  refine lv_istore_n (lv' := [(3, vI 0), (2, vI 0), (0, .ref st), (1, vI d)]) F.1 F.2.1 dX3_sense_3 rfl hl (by decide) rfl (fun ls hl => ?_)
  refine rr_loop1 (fun k => (0 ≤ k) ∧ (k ≤ n)) (fun k => (n - k).toNat) (fun k => [(3, vI k), (2, vI (cnt (fun p => hf n q nw bl bc p d) k)), (0, .ref st), (1, vI d)]) ?_ 0 ⟨by omega, by omega⟩ (lv_sub hl [0, 1, 2, 3] rfl)
  intro k hI ih_4 ls hl
  obtain ⟨k0, k1⟩ := hI
  have hl : lv_has ls 4 [(3, vI k), (2, vI (cnt (fun p => hf n q nw bl bc p d) k)), (0, .ref st), (1, vI d)] := hl
  refine lv_iload_n F.1 F.2.1 dX3_sense_4 rfl (lv_at hl 0 rfl) ?_
  refine lv_aload_n F.1 F.2.1 dX3_sense_5 rfl (lv_at hl 2 rfl) ?_
  refine gf3_0 F hK hP 0 rfl tw117 dX3_sense_6 ?_
  refine gf2_1N F hK hP 1 rfl tn58 dX3_sense_9 ?_
  refine rr_icmp_ge F (tgt := 41) dX3_sense_12 (by decide) ⟨by omega, by omega⟩ ⟨by omega, by omega⟩ (fun c_12 => ?_) (fun c_12 => ?_)
  · refine lv_iload_n F.1 F.2.1 dX3_sense_41 rfl (lv_at hl 1 rfl) ?_
    exact rr_iret F hr hlocks dX3_sense_42 (by rw [show k = n by omega]; rfl)
  · refine lv_aload_n F.1 F.2.1 dX3_sense_15 rfl (lv_at hl 2 rfl) ?_
    refine gf3_1 F hK hP 0 rfl tw119 dX3_sense_16 ?_
    refine lv_aload_n F.1 F.2.1 dX3_sense_19 rfl (lv_at hl 2 rfl) ?_
    refine gf3_0 F hK hP 0 rfl tw117 dX3_sense_20 ?_
    refine lv_iload_n F.1 F.2.1 dX3_sense_23 rfl (lv_at hl 0 rfl) ?_
    refine lv_iload_n F.1 F.2.1 dX3_sense_24 rfl (lv_at hl 3 rfl) ?_
    refine rr_rdV (rest := []) F hK (c_X0_lowestFitting l D cy bk la na nw lt ln bl bc r sg n g q k d (by first | assumption | omega | exact ⟨by omega, by omega⟩) (by first | assumption | omega | exact ⟨by omega, by omega⟩) (by first | assumption | omega | exact ⟨by omega, by omega⟩) (by first | assumption | omega | exact ⟨by omega, by omega⟩)) (hP.sub [3, 4, 5, 1, 2] rfl) sf_X0_lowestFitting tw207 0 rfl rfl ⟨Nat.le_of_ble_eq_true rfl, Nat.le_of_ble_eq_true rfl⟩ hl rfl (Nat.le_of_ble_eq_true rfl) dX3_sense_25 ⟨Nat.zero_le _, Nat.zero_le _⟩ ?_
    have q_25_0 := (low_rng (fun u_w => ft n q (bl u_w) (bc u_w) k d) (n := nw) (by omega))
    refine rr_iconst F dX3_sense_28 ?_
    refine rr_icmp_eq F (tgt := 35) dX3_sense_29 (by decide) ⟨by omega, by omega⟩ ⟨by omega, by omega⟩ (fun c_29 => ?_) (fun c_29 => ?_)
    · refine lv_iinc (v := iI (k + 1)) (lv' := [(3, vI (k + 1)), (2, vI (cnt (fun p => hf n q nw bl bc p d) k)), (0, .ref st), (1, vI d)]) F.1 F.2.1 dX3_sense_35 hl (k := 0) rfl (iinc_ok (by first | rfl | omega)) (by decide) rfl (fun ls hl => ?_)
      refine lv_goto (tgt := 4) F.1 F.2.1 dX3_sense_38 (by decide) ?_
      exact ih_4 (k + 1) ⟨by omega, by omega⟩ (show ((n - (k + 1)).toNat) < ((n - k).toNat) by omega) ls (lv_cv (lv_sub hl [0, 1, 2, 3] rfl) (by rw [← show (cnt (fun p => hf n q nw bl bc p d) k : Int) = cnt (fun u_p => hf n q nw bl bc u_p d) (k + 1) from by first | exact cnt_n (P := fun p => hf n q nw bl bc p d) k0 (fun h => (low_ne hw0).mp (by assumption) h) | exact cnt_y (P := fun p => hf n q nw bl bc p d) k0 (Classical.byContradiction fun h => absurd ((low_ne hw0).mpr h) (by assumption))]; rfl))
    · refine lv_iinc (v := iI ((cnt (fun p => hf n q nw bl bc p d) k) + 1)) (lv' := [(2, vI ((cnt (fun p => hf n q nw bl bc p d) k) + 1)), (3, vI k), (0, .ref st), (1, vI d)]) F.1 F.2.1 dX3_sense_32 hl (k := 1) rfl (iinc_ok (by first | rfl | omega)) (by decide) rfl (fun ls hl => ?_)
      refine lv_iinc (v := iI (k + 1)) (lv' := [(3, vI (k + 1)), (2, vI ((cnt (fun p => hf n q nw bl bc p d) k) + 1)), (0, .ref st), (1, vI d)]) F.1 F.2.1 dX3_sense_35 hl (k := 1) rfl (iinc_ok (by first | rfl | omega)) (by decide) rfl (fun ls hl => ?_)
      refine lv_goto (tgt := 4) F.1 F.2.1 dX3_sense_38 (by decide) ?_
      exact ih_4 (k + 1) ⟨by omega, by omega⟩ (show ((n - (k + 1)).toNat) < ((n - k).toNat) by omega) ls (lv_cv (lv_sub hl [0, 1, 2, 3] rfl) (by rw [← show ((cnt (fun p => hf n q nw bl bc p d) k) + 1 : Int) = cnt (fun u_p => hf n q nw bl bc u_p d) (k + 1) from by first | exact cnt_n (P := fun p => hf n q nw bl bc p d) k0 (fun h => (low_ne hw0).mp (by assumption) h) | exact cnt_y (P := fun p => hf n q nw bl bc p d) k0 (Classical.byContradiction fun h => absurd ((low_ne hw0).mpr h) (by assumption))]; rfl))
set_option maxRecDepth 100000 in
set_option maxHeartbeats 4000000 in
theorem c_X3_readings (l : Launch) (D : va_G) (cy : Nat → ClassId) (st ws : Nat) (wc sp : Int) (r sg : Nat) (n : Int) (g q : Int → Int) (bk la na : Nat) (nw : Int) (lt ln : Int → Int) (bl : Int → Int) (bc : Int → Int → Int) (d : Int) (hG : RG n g q) (hB : BK nw lt ln bl bc) (hd : 0 ≤ d ∧ d ≤ 1) : Rd l yX3_readings cX3_readings 6 (some FieldType.int) 4 [.ref st, vI d] D cy [(st, .inr (3, [.ref r, .ref bk, .ref ws, vI wc, vI sp])), (r, .inr (2, [.ref sg, vI n])), (sg, .inl (cy 0, 24, .inl (iA g))), (bk, .inr (0, [.ref la, .ref na, vI nw])), (la, .inl (cy 0, 60, .inl (iA lt))), (na, .inl (cy 1, 10, .inl (iA ln)))] (rdg n q nw bl bc d) := by
  refine Rd.of RX3 rfl [(0, .ref st), (1, vI d)] rfl (by decide +kernel) (Nat.le_of_ble_eq_true rfl) ?_
  intro p e s m args below meth c F hr hlocks hK hP ls hl
  have hn0 := hG.1
  have hn1 := hG.2.1
  have hw0 := hB.1
  have hw1 := hB.2.1
  refine rr_lconst F 1 rfl dX3_readings_0 ?_
  refine lv_lstore_n (lv' := [(2, .long (lI 1)), (0, .ref st), (1, vI d)]) F.1 F.2.1 dX3_readings_1 rfl hl (by decide) rfl (fun ls hl => ?_)
  refine rr_iconst F dX3_readings_2 ?_
  refine lv_istore (lv' := [(4, vI 0), (2, .long (lI 1)), (0, .ref st), (1, vI d)]) F.1 F.2.1 dX3_readings_3 hl (by decide) rfl (fun ls hl => ?_)
  refine rr_iconst F dX3_readings_5 ?_
  refine lv_istore (lv' := [(5, vI 0), (4, vI 0), (2, .long (lI 1)), (0, .ref st), (1, vI d)]) F.1 F.2.1 dX3_readings_6 hl (by decide) rfl (fun ls hl => ?_)
  refine rr_loop1 (fun k => (0 ≤ k) ∧ (k ≤ n)) (fun k => (n - k).toNat) (fun k => [(5, vI k), (4, vI (cnt (fun p => 0 < seg n q p d) k)), (2, .long (lI (prd (fun p => 0 < seg n q p d) (fun p => fc n q nw bl bc p d) k))), (0, .ref st), (1, vI d)]) ?_ 0 ⟨by omega, by omega⟩ (lv_sub hl [0, 1, 2, 3, 4] rfl)
  intro k hI ih_8 ls hl
  obtain ⟨k0, k1⟩ := hI
  have hl : lv_has ls 6 [(5, vI k), (4, vI (cnt (fun p => 0 < seg n q p d) k)), (2, .long (lI (prd (fun p => 0 < seg n q p d) (fun p => fc n q nw bl bc p d) k))), (0, .ref st), (1, vI d)] := hl
  have pf := prd_fit (q := q) (bl := bl) (bc := bc) (d := d) (n := n) (nw := nw) ⟨hn0, hn1⟩ ⟨hw0, hw1⟩ k0 k1
  have cr := cnt_rng (fun p => 0 < seg n q p d) k0
  refine lv_iload F.1 F.2.1 dX3_readings_8 (lv_at hl 0 rfl) ?_
  refine lv_aload_n F.1 F.2.1 dX3_readings_10 rfl (lv_at hl 3 rfl) ?_
  refine gf3_0 F hK hP 0 rfl tw117 dX3_readings_11 ?_
  refine gf2_1N F hK hP 1 rfl tn58 dX3_readings_14 ?_
  refine rr_icmp_ge F (tgt := 60) dX3_readings_17 (by decide) ⟨by omega, by omega⟩ ⟨by omega, by omega⟩ (fun c_17 => ?_) (fun c_17 => ?_)
  · refine lv_iload F.1 F.2.1 dX3_readings_60 (lv_at hl 1 rfl) ?_
    refine rr_if_ne F (tgt := 69) dX3_readings_62 (by decide) ⟨by omega, by omega⟩ (fun c_62 => ?_) (fun c_62 => ?_)
    · refine lv_lload_n F.1 F.2.1 dX3_readings_69 rfl (lv_at hl 2 rfl) ?_
      refine rr_ldc2 F 1000000 rfl tw259 dX3_readings_70 ?_
      refine rr_lmin (rest := []) F hl tw260 (Nat.le_of_ble_eq_true rfl) (Nat.le_of_ble_eq_true rfl) ⟨Nat.zero_le _, Nat.zero_le _⟩ ⟨by omega, by omega⟩ ⟨by omega, by omega⟩ (z := if 1000000 < prd (fun p => 0 < seg n q p d) (fun p => fc n q nw bl bc p d) k then 1000000 else prd (fun p => 0 < seg n q p d) (fun p => fc n q nw bl bc p d) k) dX3_readings_73 (rfl) ?_
      refine rr_l2i F dX3_readings_76 ?_
      exact rr_iret F hr hlocks dX3_readings_77 (by first | exact rdg_a (k := k) (by omega) (by assumption) | exact rdg_b (k := k) (by omega) (by assumption))
    · refine rr_iconst F dX3_readings_65 ?_
      refine lv_goto (tgt := 77) F.1 F.2.1 dX3_readings_66 (by decide) ?_
      exact rr_iret F hr hlocks dX3_readings_77 (by first | exact rdg_a (k := k) (by omega) (by assumption) | exact rdg_b (k := k) (by omega) (by assumption))
  · refine lv_aload_n F.1 F.2.1 dX3_readings_20 rfl (lv_at hl 3 rfl) ?_
    refine gf3_0 F hK hP 0 rfl tw117 dX3_readings_21 ?_
    refine lv_iload F.1 F.2.1 dX3_readings_24 (lv_at hl 0 rfl) ?_
    refine lv_iload_n F.1 F.2.1 dX3_readings_26 rfl (lv_at hl 4 rfl) ?_
    refine rr_rdV (rest := []) F hK (c_X2_segmentLength l D cy r sg n g q k d (by first | assumption | omega | exact ⟨by omega, by omega⟩) (by first | assumption | omega | exact ⟨by omega, by omega⟩) (by first | assumption | omega | exact ⟨by omega, by omega⟩)) (hP.sub [1, 2] rfl) sf_X2_segmentLength tw254 2 rfl rfl ⟨Nat.le_of_ble_eq_true rfl, Nat.le_of_ble_eq_true rfl⟩ hl rfl (Nat.le_of_ble_eq_true rfl) dX3_readings_27 ⟨Nat.zero_le _, Nat.zero_le _⟩ ?_
    have q_27_0 := (seg_rng (n := n) (by omega) q k d)
    refine rr_if_le F (tgt := 54) dX3_readings_30 (by decide) ⟨by omega, by omega⟩ (fun c_30 => ?_) (fun c_30 => ?_)
    · refine lv_iinc (v := iI (k + 1)) (lv' := [(5, vI (k + 1)), (4, vI (cnt (fun p => 0 < seg n q p d) k)), (2, .long (lI (prd (fun p => 0 < seg n q p d) (fun p => fc n q nw bl bc p d) k))), (0, .ref st), (1, vI d)]) F.1 F.2.1 dX3_readings_54 hl (k := 0) rfl (iinc_ok (by first | rfl | omega)) (by decide) rfl (fun ls hl => ?_)
      refine lv_goto (tgt := 8) F.1 F.2.1 dX3_readings_57 (by decide) ?_
      exact ih_8 (k + 1) ⟨by omega, by omega⟩ (show ((n - (k + 1)).toNat) < ((n - k).toNat) by omega) ls (lv_cv (lv_sub hl [0, 1, 2, 3, 4] rfl) (by rw [← show (cnt (fun p => 0 < seg n q p d) k : Int) = cnt (fun u_p => 0 < seg n q u_p d) (k + 1) from by first | exact cnt_n (P := fun p => 0 < seg n q p d) k0 (by omega) | exact cnt_y (P := fun p => 0 < seg n q p d) k0 (by assumption), ← show (prd (fun p => 0 < seg n q p d) (fun p => fc n q nw bl bc p d) k : Int) = prd (fun u_p => 0 < seg n q u_p d) (fun u_p => fc n q nw bl bc u_p d) (k + 1) from by first | exact prd_n (G := fun p => 0 < seg n q p d) (f := fun p => fc n q nw bl bc p d) k0 (by omega) | rfl]; rfl))
    · refine lv_lload_n F.1 F.2.1 dX3_readings_33 rfl (lv_at hl 2 rfl) ?_
      refine lv_aload_n F.1 F.2.1 dX3_readings_34 rfl (lv_at hl 3 rfl) ?_
      refine gf3_1 F hK hP 0 rfl tw119 dX3_readings_35 ?_
      refine lv_aload_n F.1 F.2.1 dX3_readings_38 rfl (lv_at hl 3 rfl) ?_
      refine gf3_0 F hK hP 0 rfl tw117 dX3_readings_39 ?_
      refine lv_iload F.1 F.2.1 dX3_readings_42 (lv_at hl 0 rfl) ?_
      refine lv_iload_n F.1 F.2.1 dX3_readings_44 rfl (lv_at hl 4 rfl) ?_
      refine rr_rdV (rest := [.long (lI (prd (fun p => 0 < seg n q p d) (fun p => fc n q nw bl bc p d) k))]) F hK (c_X0_countFitting l D cy bk la na nw lt ln bl bc r sg n g q k d (by first | assumption | omega | exact ⟨by omega, by omega⟩) (by first | assumption | omega | exact ⟨by omega, by omega⟩) (by first | assumption | omega | exact ⟨by omega, by omega⟩) (by first | assumption | omega | exact ⟨by omega, by omega⟩)) (hP.sub [3, 4, 5, 1, 2] rfl) sf_X0_countFitting tw255 0 rfl rfl ⟨Nat.le_of_ble_eq_true rfl, Nat.le_of_ble_eq_true rfl⟩ hl rfl (Nat.le_of_ble_eq_true rfl) dX3_readings_45 ⟨Nat.zero_le _, Nat.zero_le _⟩ ?_
      have q_45_0 := (cnt_rng (fun u_w => ft n q (bl u_w) (bc u_w) k d) (n := nw) (by omega))
      refine rr_i2l F dX3_readings_48 ⟨by omega, by omega⟩ ?_
      refine rr_lmul F (z := prd (fun p => 0 < seg n q p d) (fun p => fc n q nw bl bc p d) (k + 1)) dX3_readings_49 (prd_y (G := fun p => 0 < seg n q p d) (f := fun p => fc n q nw bl bc p d) k0 (by assumption)) ?_
      refine lv_lstore_n (lv' := [(2, .long (lI (prd (fun p => 0 < seg n q p d) (fun p => fc n q nw bl bc p d) (k + 1)))), (5, vI k), (4, vI (cnt (fun p => 0 < seg n q p d) k)), (0, .ref st), (1, vI d)]) F.1 F.2.1 dX3_readings_50 rfl hl (by decide) rfl (fun ls hl => ?_)
      refine lv_iinc (v := iI ((cnt (fun p => 0 < seg n q p d) k) + 1)) (lv' := [(4, vI ((cnt (fun p => 0 < seg n q p d) k) + 1)), (2, .long (lI (prd (fun p => 0 < seg n q p d) (fun p => fc n q nw bl bc p d) (k + 1)))), (5, vI k), (0, .ref st), (1, vI d)]) F.1 F.2.1 dX3_readings_51 hl (k := 2) rfl (iinc_ok (by first | rfl | omega)) (by decide) rfl (fun ls hl => ?_)
      refine lv_iinc (v := iI (k + 1)) (lv' := [(5, vI (k + 1)), (4, vI ((cnt (fun p => 0 < seg n q p d) k) + 1)), (2, .long (lI (prd (fun p => 0 < seg n q p d) (fun p => fc n q nw bl bc p d) (k + 1)))), (0, .ref st), (1, vI d)]) F.1 F.2.1 dX3_readings_54 hl (k := 2) rfl (iinc_ok (by first | rfl | omega)) (by decide) rfl (fun ls hl => ?_)
      refine lv_goto (tgt := 8) F.1 F.2.1 dX3_readings_57 (by decide) ?_
      exact ih_8 (k + 1) ⟨by omega, by omega⟩ (show ((n - (k + 1)).toNat) < ((n - k).toNat) by omega) ls (lv_cv (lv_sub hl [0, 1, 2, 3, 4] rfl) (by rw [← show ((cnt (fun p => 0 < seg n q p d) k) + 1 : Int) = cnt (fun u_p => 0 < seg n q u_p d) (k + 1) from by first | exact cnt_n (P := fun p => 0 < seg n q p d) k0 (by omega) | exact cnt_y (P := fun p => 0 < seg n q p d) k0 (by assumption), ← show (prd (fun p => 0 < seg n q p d) (fun p => fc n q nw bl bc p d) (k + 1) : Int) = prd (fun u_p => 0 < seg n q u_p d) (fun u_p => fc n q nw bl bc u_p d) (k + 1) from by first | exact prd_n (G := fun p => 0 < seg n q p d) (f := fun p => fc n q nw bl bc p d) k0 (by omega) | rfl]; rfl))
set_option maxRecDepth 100000 in
set_option maxHeartbeats 4000000 in
theorem c_X3_knownBy (l : Launch) (D : va_G) (cy : Nat → ClassId) (st ws : Nat) (wk : Int → Nat) (wc sp : Int) (wp wd wq wi we : Int → Int) (r sg : Nat) (n : Int) (g q : Int → Int) (bk la na : Nat) (nw : Int) (lt ln : Int → Int) (bl : Int → Int) (bc : Int → Int → Int) (w fb : Int) (hG : RG n g q) (hB : BK nw lt ln bl bc) (hWS : WS n wc wp wd wq wi we) (hw : 0 ≤ w ∧ w < wc) (hfb : fb = 0 ∨ fb = 1) : Rd l yX3_knownBy cX3_knownBy 6 (some FieldType.int) 4 [.ref st, vI w, vI fb] D cy [(st, .inr (3, [.ref r, .ref bk, .ref ws, vI wc, vI sp])), (r, .inr (2, [.ref sg, vI n])), (sg, .inl (cy 0, 24, .inl (iA g))), (bk, .inr (0, [.ref la, .ref na, vI nw])), (la, .inl (cy 0, 60, .inl (iA lt))), (na, .inl (cy 1, 10, .inl (iA ln))), (ws, .inl (cy 4, 4, .inr (.inr (.inr (.inr (rA wk)))))), (wk 0, .inr (5, [vI (wp 0), vI (wd 0), vI (wq 0), vI (wi 0), vI (we 0)])), (wk 1, .inr (5, [vI (wp 1), vI (wd 1), vI (wq 1), vI (wi 1), vI (we 1)])), (wk 2, .inr (5, [vI (wp 2), vI (wd 2), vI (wq 2), vI (wi 2), vI (we 2)])), (wk 3, .inr (5, [vI (wp 3), vI (wd 3), vI (wq 3), vI (wi 3), vI (we 3)]))] (knb n q nw bl bc (wd w) (we w) fb) := by
  refine Rd.of RX3 rfl [(0, .ref st), (1, vI w), (2, vI fb)] rfl (by decide +kernel) (Nat.le_of_ble_eq_true rfl) ?_
  intro p e s m args below meth c F hr hlocks hK hP ls hl
  have hn0 := hG.1
  have hn1 := hG.2.1
  have hw0 := hB.1
  have hw1 := hB.2.1
  have hc0 := hWS.1
  have hc1 := hWS.2.1
  have hW := hWS.2.2 w hw.1 hw.2
  obtain ⟨v1, v2, v3, v4, v5⟩ := id hW
  refine lv_aload_n F.1 F.2.1 dX3_knownBy_0 rfl (lv_at hl 0 rfl) ?_
  refine lv_iload_n F.1 F.2.1 dX3_knownBy_1 rfl (lv_at hl 1 rfl) ?_
  refine rr_rdV (rest := []) F hK (c_X3_hasWalker l D cy st r bk ws wc sp w (by first | assumption | omega | exact ⟨by omega, by omega⟩) (by first | assumption | omega | exact ⟨by omega, by omega⟩)) (hP.sub [0] rfl) sf_X3_hasWalker tw519 3 rfl rfl ⟨Nat.le_of_ble_eq_true rfl, Nat.le_of_ble_eq_true rfl⟩ hl rfl (Nat.le_of_ble_eq_true rfl) dX3_knownBy_2 ⟨Nat.zero_le _, Nat.zero_le _⟩ ?_
  refine rr_ifP_ne F (tgt := 10) dX3_knownBy_5 (by decide) (fun c_5 => ?_) (fun c_5 => ?_)
  · refine lv_aload_n F.1 F.2.1 dX3_knownBy_10 rfl (lv_at hl 0 rfl) ?_
    refine gf3_2 F hK hP 0 rfl tw121 dX3_knownBy_11 ?_
    refine lv_iload_n F.1 F.2.1 dX3_knownBy_14 rfl (lv_at hl 1 rfl) ?_
    refine rr_aald4 F hK hP 6 rfl (by omega) (by omega) (by decide) dX3_knownBy_15 ?_
    have hP := wk_ext (wk := wk) (fun i => .inr (5, [vI (wp i), vI (wd i), vI (wq i), vI (wi i), vI (we i)])) w hP 7 8 9 10 rfl rfl rfl rfl (by omega)
    have hP : va_P D vwCl [(st, .inr (3, [.ref r, .ref bk, .ref ws, vI wc, vI sp])), (r, .inr (2, [.ref sg, vI n])), (sg, .inl (cy 0, 24, .inl (iA g))), (bk, .inr (0, [.ref la, .ref na, vI nw])), (la, .inl (cy 0, 60, .inl (iA lt))), (na, .inl (cy 1, 10, .inl (iA ln))), (ws, .inl (cy 4, 4, .inr (.inr (.inr (.inr (rA wk)))))), (wk 0, .inr (5, [vI (wp 0), vI (wd 0), vI (wq 0), vI (wi 0), vI (we 0)])), (wk 1, .inr (5, [vI (wp 1), vI (wd 1), vI (wq 1), vI (wi 1), vI (we 1)])), (wk 2, .inr (5, [vI (wp 2), vI (wd 2), vI (wq 2), vI (wi 2), vI (we 2)])), (wk 3, .inr (5, [vI (wp 3), vI (wd 3), vI (wq 3), vI (wi 3), vI (we 3)])), (wk w, .inr (5, [vI (wp w), vI (wd w), vI (wq w), vI (wi w), vI (we w)]))] _ := hP
    refine lv_astore_n (lv' := [(3, .ref (wk w)), (0, .ref st), (1, vI w), (2, vI fb)]) F.1 F.2.1 dX3_knownBy_16 rfl hl (by decide) rfl (fun ls hl => ?_)
    refine rr_iconst F dX3_knownBy_17 ?_
    refine lv_istore (lv' := [(4, vI 0), (3, .ref (wk w)), (0, .ref st), (1, vI w), (2, vI fb)]) F.1 F.2.1 dX3_knownBy_18 hl (by decide) rfl (fun ls hl => ?_)
    refine rr_iconst F dX3_knownBy_20 ?_
    refine lv_istore (lv' := [(5, vI 0), (4, vI 0), (3, .ref (wk w)), (0, .ref st), (1, vI w), (2, vI fb)]) F.1 F.2.1 dX3_knownBy_21 hl (by decide) rfl (fun ls hl => ?_)
    refine rr_loop1 (fun k => (0 ≤ k) ∧ (k ≤ n)) (fun k => (n - k).toNat) (fun k => [(5, vI k), (4, vI (cnt (fun p => kn n q p (wd w) (we w) ∧ (fb = 0 ∨ hf n q nw bl bc p (wd w))) k)), (3, .ref (wk w)), (0, .ref st), (1, vI w), (2, vI fb)]) ?_ 0 ⟨by omega, by omega⟩ (lv_sub hl [0, 1, 2, 3, 4, 5] rfl)
    intro k hI ih_23 ls hl
    obtain ⟨k0, k1⟩ := hI
    have hl : lv_has ls 6 [(5, vI k), (4, vI (cnt (fun p => kn n q p (wd w) (we w) ∧ (fb = 0 ∨ hf n q nw bl bc p (wd w))) k)), (3, .ref (wk w)), (0, .ref st), (1, vI w), (2, vI fb)] := hl
    refine lv_iload F.1 F.2.1 dX3_knownBy_23 (lv_at hl 0 rfl) ?_
    refine lv_aload_n F.1 F.2.1 dX3_knownBy_25 rfl (lv_at hl 3 rfl) ?_
    refine gf3_0 F hK hP 0 rfl tw117 dX3_knownBy_26 ?_
    refine gf2_1N F hK hP 1 rfl tn58 dX3_knownBy_29 ?_
    refine rr_icmp_ge F (tgt := 82) dX3_knownBy_32 (by decide) ⟨by omega, by omega⟩ ⟨by omega, by omega⟩ (fun c_32 => ?_) (fun c_32 => ?_)
    · refine lv_iload F.1 F.2.1 dX3_knownBy_82 (lv_at hl 1 rfl) ?_
      exact rr_iret F hr hlocks dX3_knownBy_84 (by rw [show k = n by omega]; rfl)
    · refine lv_aload_n F.1 F.2.1 dX3_knownBy_35 rfl (lv_at hl 2 rfl) ?_
      refine lv_aload_n F.1 F.2.1 dX3_knownBy_36 rfl (lv_at hl 3 rfl) ?_
      refine gf3_0 F hK hP 0 rfl tw117 dX3_knownBy_37 ?_
      refine lv_iload F.1 F.2.1 dX3_knownBy_40 (lv_at hl 0 rfl) ?_
      refine rr_rdV (rest := []) F hK (c_X5_knows l D cy (wk w) (wp w) (wd w) (wq w) (wi w) (we w) r sg n g q k (by first | assumption | omega | exact ⟨by omega, by omega⟩) (by first | assumption | omega | exact ⟨by omega, by omega⟩) (by first | assumption | omega | exact ⟨by omega, by omega⟩)) (hP.sub [11, 1, 2] rfl) sf_X5_knows tw520 5 rfl rfl ⟨Nat.le_of_ble_eq_true rfl, Nat.le_of_ble_eq_true rfl⟩ hl rfl (Nat.le_of_ble_eq_true rfl) dX3_knownBy_42 ⟨Nat.zero_le _, Nat.zero_le _⟩ ?_
      refine rr_ifP_eq F (tgt := 76) dX3_knownBy_45 (by decide) (fun c_45 => ?_) (fun c_45 => ?_)
      · refine lv_iinc (v := iI (k + 1)) (lv' := [(5, vI (k + 1)), (4, vI (cnt (fun p => kn n q p (wd w) (we w) ∧ (fb = 0 ∨ hf n q nw bl bc p (wd w))) k)), (3, .ref (wk w)), (0, .ref st), (1, vI w), (2, vI fb)]) F.1 F.2.1 dX3_knownBy_76 hl (k := 0) rfl (iinc_ok (by first | rfl | omega)) (by decide) rfl (fun ls hl => ?_)
        refine lv_goto (tgt := 23) F.1 F.2.1 dX3_knownBy_79 (by decide) ?_
        exact ih_23 (k + 1) ⟨by omega, by omega⟩ (show ((n - (k + 1)).toNat) < ((n - k).toNat) by omega) ls (lv_cv (lv_sub hl [0, 1, 2, 3, 4, 5] rfl) (by rw [← show (cnt (fun p => kn n q p (wd w) (we w) ∧ (fb = 0 ∨ hf n q nw bl bc p (wd w))) k : Int) = cnt (fun u_p => kn n q u_p (wd w) (we w) ∧ (fb = 0 ∨ hf n q nw bl bc u_p (wd w))) (k + 1) from by first | exact cnt_n (P := fun p => kn n q p (wd w) (we w) ∧ (fb = 0 ∨ hf n q nw bl bc p (wd w))) k0 (fun h => c_45 h.1) | exact cnt_n (P := fun p => kn n q p (wd w) (we w) ∧ (fb = 0 ∨ hf n q nw bl bc p (wd w))) k0 (fun h => h.2.elim (fun h => by omega) (fun h => (low_ne hw0).mp c_70 h)) | exact cnt_y (P := fun p => kn n q p (wd w) (we w) ∧ (fb = 0 ∨ hf n q nw bl bc p (wd w))) k0 ⟨c_45, Or.inl (by omega)⟩ | exact cnt_y (P := fun p => kn n q p (wd w) (we w) ∧ (fb = 0 ∨ hf n q nw bl bc p (wd w))) k0 ⟨c_45, Or.inr (Classical.byContradiction fun h => absurd ((low_ne hw0).mpr h) (by assumption))⟩]; rfl))
      · refine lv_iload_n F.1 F.2.1 dX3_knownBy_48 rfl (lv_at hl 5 rfl) ?_
        refine rr_if_eq F (tgt := 73) dX3_knownBy_49 (by decide) ⟨by omega, by omega⟩ (fun c_49 => ?_) (fun c_49 => ?_)
        · refine lv_iinc (v := iI ((cnt (fun p => kn n q p (wd w) (we w) ∧ (fb = 0 ∨ hf n q nw bl bc p (wd w))) k) + 1)) (lv' := [(4, vI ((cnt (fun p => kn n q p (wd w) (we w) ∧ (fb = 0 ∨ hf n q nw bl bc p (wd w))) k) + 1)), (5, vI k), (3, .ref (wk w)), (0, .ref st), (1, vI w), (2, vI fb)]) F.1 F.2.1 dX3_knownBy_73 hl (k := 1) rfl (iinc_ok (by first | rfl | omega)) (by decide) rfl (fun ls hl => ?_)
          refine lv_iinc (v := iI (k + 1)) (lv' := [(5, vI (k + 1)), (4, vI ((cnt (fun p => kn n q p (wd w) (we w) ∧ (fb = 0 ∨ hf n q nw bl bc p (wd w))) k) + 1)), (3, .ref (wk w)), (0, .ref st), (1, vI w), (2, vI fb)]) F.1 F.2.1 dX3_knownBy_76 hl (k := 1) rfl (iinc_ok (by first | rfl | omega)) (by decide) rfl (fun ls hl => ?_)
          refine lv_goto (tgt := 23) F.1 F.2.1 dX3_knownBy_79 (by decide) ?_
          exact ih_23 (k + 1) ⟨by omega, by omega⟩ (show ((n - (k + 1)).toNat) < ((n - k).toNat) by omega) ls (lv_cv (lv_sub hl [0, 1, 2, 3, 4, 5] rfl) (by rw [← show ((cnt (fun p => kn n q p (wd w) (we w) ∧ (fb = 0 ∨ hf n q nw bl bc p (wd w))) k) + 1 : Int) = cnt (fun u_p => kn n q u_p (wd w) (we w) ∧ (fb = 0 ∨ hf n q nw bl bc u_p (wd w))) (k + 1) from by first | exact cnt_n (P := fun p => kn n q p (wd w) (we w) ∧ (fb = 0 ∨ hf n q nw bl bc p (wd w))) k0 (fun h => c_45 h.1) | exact cnt_n (P := fun p => kn n q p (wd w) (we w) ∧ (fb = 0 ∨ hf n q nw bl bc p (wd w))) k0 (fun h => h.2.elim (fun h => by omega) (fun h => (low_ne hw0).mp c_70 h)) | exact cnt_y (P := fun p => kn n q p (wd w) (we w) ∧ (fb = 0 ∨ hf n q nw bl bc p (wd w))) k0 ⟨c_45, Or.inl (by omega)⟩ | exact cnt_y (P := fun p => kn n q p (wd w) (we w) ∧ (fb = 0 ∨ hf n q nw bl bc p (wd w))) k0 ⟨c_45, Or.inr (Classical.byContradiction fun h => absurd ((low_ne hw0).mpr h) (by assumption))⟩]; rfl))
        · refine lv_aload_n F.1 F.2.1 dX3_knownBy_52 rfl (lv_at hl 3 rfl) ?_
          refine gf3_1 F hK hP 0 rfl tw119 dX3_knownBy_53 ?_
          refine lv_aload_n F.1 F.2.1 dX3_knownBy_56 rfl (lv_at hl 3 rfl) ?_
          refine gf3_0 F hK hP 0 rfl tw117 dX3_knownBy_57 ?_
          refine lv_iload F.1 F.2.1 dX3_knownBy_60 (lv_at hl 0 rfl) ?_
          refine lv_aload_n F.1 F.2.1 dX3_knownBy_62 rfl (lv_at hl 2 rfl) ?_
          refine gf5_1N F hK hP 11 rfl tn96 dX3_knownBy_63 ?_
          refine rr_rdV (rest := []) F hK (c_X0_lowestFitting l D cy bk la na nw lt ln bl bc r sg n g q k (wd w) (by first | assumption | omega | exact ⟨by omega, by omega⟩) (by first | assumption | omega | exact ⟨by omega, by omega⟩) (by first | assumption | omega | exact ⟨by omega, by omega⟩) (by first | assumption | omega | exact ⟨by omega, by omega⟩)) (hP.sub [3, 4, 5, 1, 2] rfl) sf_X0_lowestFitting tw207 0 rfl rfl ⟨Nat.le_of_ble_eq_true rfl, Nat.le_of_ble_eq_true rfl⟩ hl rfl (Nat.le_of_ble_eq_true rfl) dX3_knownBy_66 ⟨Nat.zero_le _, Nat.zero_le _⟩ ?_
          have q_66_0 := (low_rng (fun u_w => ft n q (bl u_w) (bc u_w) k (wd w)) (n := nw) (by omega))
          refine rr_iconst F dX3_knownBy_69 ?_
          refine rr_icmp_eq F (tgt := 76) dX3_knownBy_70 (by decide) ⟨by omega, by omega⟩ ⟨by omega, by omega⟩ (fun c_70 => ?_) (fun c_70 => ?_)
          · refine lv_iinc (v := iI (k + 1)) (lv' := [(5, vI (k + 1)), (4, vI (cnt (fun p => kn n q p (wd w) (we w) ∧ (fb = 0 ∨ hf n q nw bl bc p (wd w))) k)), (3, .ref (wk w)), (0, .ref st), (1, vI w), (2, vI fb)]) F.1 F.2.1 dX3_knownBy_76 hl (k := 0) rfl (iinc_ok (by first | rfl | omega)) (by decide) rfl (fun ls hl => ?_)
            refine lv_goto (tgt := 23) F.1 F.2.1 dX3_knownBy_79 (by decide) ?_
            exact ih_23 (k + 1) ⟨by omega, by omega⟩ (show ((n - (k + 1)).toNat) < ((n - k).toNat) by omega) ls (lv_cv (lv_sub hl [0, 1, 2, 3, 4, 5] rfl) (by rw [← show (cnt (fun p => kn n q p (wd w) (we w) ∧ (fb = 0 ∨ hf n q nw bl bc p (wd w))) k : Int) = cnt (fun u_p => kn n q u_p (wd w) (we w) ∧ (fb = 0 ∨ hf n q nw bl bc u_p (wd w))) (k + 1) from by first | exact cnt_n (P := fun p => kn n q p (wd w) (we w) ∧ (fb = 0 ∨ hf n q nw bl bc p (wd w))) k0 (fun h => c_45 h.1) | exact cnt_n (P := fun p => kn n q p (wd w) (we w) ∧ (fb = 0 ∨ hf n q nw bl bc p (wd w))) k0 (fun h => h.2.elim (fun h => by omega) (fun h => (low_ne hw0).mp c_70 h)) | exact cnt_y (P := fun p => kn n q p (wd w) (we w) ∧ (fb = 0 ∨ hf n q nw bl bc p (wd w))) k0 ⟨c_45, Or.inl (by omega)⟩ | exact cnt_y (P := fun p => kn n q p (wd w) (we w) ∧ (fb = 0 ∨ hf n q nw bl bc p (wd w))) k0 ⟨c_45, Or.inr (Classical.byContradiction fun h => absurd ((low_ne hw0).mpr h) (by assumption))⟩]; rfl))
          · refine lv_iinc (v := iI ((cnt (fun p => kn n q p (wd w) (we w) ∧ (fb = 0 ∨ hf n q nw bl bc p (wd w))) k) + 1)) (lv' := [(4, vI ((cnt (fun p => kn n q p (wd w) (we w) ∧ (fb = 0 ∨ hf n q nw bl bc p (wd w))) k) + 1)), (5, vI k), (3, .ref (wk w)), (0, .ref st), (1, vI w), (2, vI fb)]) F.1 F.2.1 dX3_knownBy_73 hl (k := 1) rfl (iinc_ok (by first | rfl | omega)) (by decide) rfl (fun ls hl => ?_)
            refine lv_iinc (v := iI (k + 1)) (lv' := [(5, vI (k + 1)), (4, vI ((cnt (fun p => kn n q p (wd w) (we w) ∧ (fb = 0 ∨ hf n q nw bl bc p (wd w))) k) + 1)), (3, .ref (wk w)), (0, .ref st), (1, vI w), (2, vI fb)]) F.1 F.2.1 dX3_knownBy_76 hl (k := 1) rfl (iinc_ok (by first | rfl | omega)) (by decide) rfl (fun ls hl => ?_)
            refine lv_goto (tgt := 23) F.1 F.2.1 dX3_knownBy_79 (by decide) ?_
            exact ih_23 (k + 1) ⟨by omega, by omega⟩ (show ((n - (k + 1)).toNat) < ((n - k).toNat) by omega) ls (lv_cv (lv_sub hl [0, 1, 2, 3, 4, 5] rfl) (by rw [← show ((cnt (fun p => kn n q p (wd w) (we w) ∧ (fb = 0 ∨ hf n q nw bl bc p (wd w))) k) + 1 : Int) = cnt (fun u_p => kn n q u_p (wd w) (we w) ∧ (fb = 0 ∨ hf n q nw bl bc u_p (wd w))) (k + 1) from by first | exact cnt_n (P := fun p => kn n q p (wd w) (we w) ∧ (fb = 0 ∨ hf n q nw bl bc p (wd w))) k0 (fun h => c_45 h.1) | exact cnt_n (P := fun p => kn n q p (wd w) (we w) ∧ (fb = 0 ∨ hf n q nw bl bc p (wd w))) k0 (fun h => h.2.elim (fun h => by omega) (fun h => (low_ne hw0).mp c_70 h)) | exact cnt_y (P := fun p => kn n q p (wd w) (we w) ∧ (fb = 0 ∨ hf n q nw bl bc p (wd w))) k0 ⟨c_45, Or.inl (by omega)⟩ | exact cnt_y (P := fun p => kn n q p (wd w) (we w) ∧ (fb = 0 ∨ hf n q nw bl bc p (wd w))) k0 ⟨c_45, Or.inr (Classical.byContradiction fun h => absurd ((low_ne hw0).mpr h) (by assumption))⟩]; rfl))
  · exfalso; omega
set_option maxRecDepth 100000 in
set_option maxHeartbeats 4000000 in
theorem c_X3_knownByAll (l : Launch) (D : va_G) (cy : Nat → ClassId) (st ws : Nat) (wk : Int → Nat) (wc sp : Int) (wp wd wq wi we : Int → Int) (r sg : Nat) (n : Int) (g q : Int → Int) (bk la na : Nat) (nw : Int) (lt ln : Int → Int) (bl : Int → Int) (bc : Int → Int → Int) (hG : RG n g q) (hB : BK nw lt ln bl bc) (hWS : WS n wc wp wd wq wi we) : Rd l yX3_knownByAll cX3_knownByAll 3 (some FieldType.int) 5 [.ref st] D cy [(st, .inr (3, [.ref r, .ref bk, .ref ws, vI wc, vI sp])), (r, .inr (2, [.ref sg, vI n])), (sg, .inl (cy 0, 24, .inl (iA g))), (bk, .inr (0, [.ref la, .ref na, vI nw])), (la, .inl (cy 0, 60, .inl (iA lt))), (na, .inl (cy 1, 10, .inl (iA ln))), (ws, .inl (cy 4, 4, .inr (.inr (.inr (.inr (rA wk)))))), (wk 0, .inr (5, [vI (wp 0), vI (wd 0), vI (wq 0), vI (wi 0), vI (we 0)])), (wk 1, .inr (5, [vI (wp 1), vI (wd 1), vI (wq 1), vI (wi 1), vI (we 1)])), (wk 2, .inr (5, [vI (wp 2), vI (wd 2), vI (wq 2), vI (wi 2), vI (we 2)])), (wk 3, .inr (5, [vI (wp 3), vI (wd 3), vI (wq 3), vI (wi 3), vI (we 3)]))] (sm (fun w => knb n q nw bl bc (wd w) (we w) 0) wc) := by
  refine Rd.of RX3 rfl [(0, .ref st)] rfl (by decide +kernel) (Nat.le_of_ble_eq_true rfl) ?_
  intro p e s m args below meth c F hr hlocks hK hP ls hl
  have hn0 := hG.1
  have hn1 := hG.2.1
  have hw0 := hB.1
  have hw1 := hB.2.1
  have hc0 := hWS.1
  have hc1 := hWS.2.1
  refine rr_iconst F dX3_knownByAll_0 ?_
  refine lv_istore_n (lv' := [(1, vI 0), (0, .ref st)]) F.1 F.2.1 dX3_knownByAll_1 rfl hl (by decide) rfl (fun ls hl => ?_)
  refine rr_iconst F dX3_knownByAll_2 ?_
  refine lv_istore_n (lv' := [(2, vI 0), (1, vI 0), (0, .ref st)]) F.1 F.2.1 dX3_knownByAll_3 rfl hl (by decide) rfl (fun ls hl => ?_)
  refine rr_loop1 (fun k => (0 ≤ k) ∧ (k ≤ wc)) (fun k => (wc - k).toNat) (fun k => [(2, vI k), (1, vI (sm (fun w => knb n q nw bl bc (wd w) (we w) 0) k)), (0, .ref st)]) ?_ 0 ⟨by omega, by omega⟩ (lv_cv (lv_sub hl [0, 1, 2] rfl) (by rw [← show (0 : Int) = sm (fun u_w => knb n q nw bl bc (wd u_w) (we u_w) 0) 0 from by rfl]; rfl))
  intro k hI ih_4 ls hl
  obtain ⟨k0, k1⟩ := hI
  have hl : lv_has ls 3 [(2, vI k), (1, vI (sm (fun w => knb n q nw bl bc (wd w) (we w) 0) k)), (0, .ref st)] := hl
  refine lv_iload_n F.1 F.2.1 dX3_knownByAll_4 rfl (lv_at hl 0 rfl) ?_
  refine lv_aload_n F.1 F.2.1 dX3_knownByAll_5 rfl (lv_at hl 2 rfl) ?_
  refine gf3_3 F hK hP 0 rfl tw123 dX3_knownByAll_6 ?_
  refine rr_icmp_ge F (tgt := 27) dX3_knownByAll_9 (by decide) ⟨by omega, by omega⟩ ⟨by omega, by omega⟩ (fun c_9 => ?_) (fun c_9 => ?_)
  · refine lv_iload_n F.1 F.2.1 dX3_knownByAll_27 rfl (lv_at hl 1 rfl) ?_
    exact rr_iret F hr hlocks dX3_knownByAll_28 (by rw [show k = wc by omega])
  · refine lv_iload_n F.1 F.2.1 dX3_knownByAll_12 rfl (lv_at hl 1 rfl) ?_
    refine lv_aload_n F.1 F.2.1 dX3_knownByAll_13 rfl (lv_at hl 2 rfl) ?_
    refine lv_iload_n F.1 F.2.1 dX3_knownByAll_14 rfl (lv_at hl 0 rfl) ?_
    refine rr_iconst F dX3_knownByAll_15 ?_
    refine rr_rdV (rest := [vI (sm (fun w => knb n q nw bl bc (wd w) (we w) 0) k)]) F hK (c_X3_knownBy l D cy st ws wk wc sp wp wd wq wi we r sg n g q bk la na nw lt ln bl bc k 0 (by first | assumption | omega | exact ⟨by omega, by omega⟩) (by first | assumption | omega | exact ⟨by omega, by omega⟩) (by first | assumption | omega | exact ⟨by omega, by omega⟩) (by first | assumption | omega | exact ⟨by omega, by omega⟩) (by first | assumption | omega | exact ⟨by omega, by omega⟩)) hP sf_X3_knownBy tw745 3 rfl rfl ⟨Nat.le_of_ble_eq_true rfl, Nat.le_of_ble_eq_true rfl⟩ hl rfl (Nat.le_of_ble_eq_true rfl) dX3_knownByAll_16 ⟨Nat.zero_le _, Nat.zero_le _⟩ ?_
    have q_16_0 := (show 0 ≤ knb n q nw bl bc (wd k) (we k) 0 ∧ knb n q nw bl bc (wd k) (we k) 0 ≤ n from cnt_rng _ (by omega))
    refine rr_iadd F (z := sm (fun w => knb n q nw bl bc (wd w) (we w) 0) (k + 1)) dX3_knownByAll_19 (sm_s _ k0) ?_
    refine lv_istore_n (lv' := [(1, vI (sm (fun w => knb n q nw bl bc (wd w) (we w) 0) (k + 1))), (2, vI k), (0, .ref st)]) F.1 F.2.1 dX3_knownByAll_20 rfl hl (by decide) rfl (fun ls hl => ?_)
    refine lv_iinc (v := iI (k + 1)) (lv' := [(2, vI (k + 1)), (1, vI (sm (fun w => knb n q nw bl bc (wd w) (we w) 0) (k + 1))), (0, .ref st)]) F.1 F.2.1 dX3_knownByAll_21 hl (k := 1) rfl (iinc_ok (by first | rfl | omega)) (by decide) rfl (fun ls hl => ?_)
    refine lv_goto (tgt := 4) F.1 F.2.1 dX3_knownByAll_24 (by decide) ?_
    exact ih_4 (k + 1) ⟨by omega, by omega⟩ (show ((wc - (k + 1)).toNat) < ((wc - k).toNat) by omega) ls (lv_sub hl [0, 1, 2] rfl)
set_option maxRecDepth 100000 in
set_option maxHeartbeats 4000000 in
theorem c_X3_stepsToMeet (l : Launch) (D : va_G) (cy : Nat → ClassId) (st ws : Nat) (wk : Int → Nat) (wc sp : Int) (wp wd wq wi we : Int → Int) (r sg : Nat) (n : Int) (g q : Int → Int) (bk la na : Nat) (nw : Int) (lt ln : Int → Int) (bl : Int → Int) (bc : Int → Int → Int) (w v : Int) (hG : RG n g q) (hB : BK nw lt ln bl bc) (hWS : WS n wc wp wd wq wi we) (hw : 0 ≤ w ∧ w < wc) (hv : 0 ≤ v ∧ v < wc) : Rd l yX3_stepsToMeet cX3_stepsToMeet 4 (some FieldType.int) 2 [.ref st, vI w, vI v] D cy [(st, .inr (3, [.ref r, .ref bk, .ref ws, vI wc, vI sp])), (r, .inr (2, [.ref sg, vI n])), (sg, .inl (cy 0, 24, .inl (iA g))), (bk, .inr (0, [.ref la, .ref na, vI nw])), (la, .inl (cy 0, 60, .inl (iA lt))), (na, .inl (cy 1, 10, .inl (iA ln))), (ws, .inl (cy 4, 4, .inr (.inr (.inr (.inr (rA wk)))))), (wk 0, .inr (5, [vI (wp 0), vI (wd 0), vI (wq 0), vI (wi 0), vI (we 0)])), (wk 1, .inr (5, [vI (wp 1), vI (wd 1), vI (wq 1), vI (wi 1), vI (we 1)])), (wk 2, .inr (5, [vI (wp 2), vI (wd 2), vI (wq 2), vI (wi 2), vI (we 2)])), (wk 3, .inr (5, [vI (wp 3), vI (wd 3), vI (wq 3), vI (wi 3), vI (we 3)]))] (low (fun t => off n (wp w) (wd w) (t * wq w) = off n (wp v) (wd v) (t * wq v)) n) := by
  refine Rd.of RX3 rfl [(0, .ref st), (1, vI w), (2, vI v)] rfl (by decide +kernel) (Nat.le_of_ble_eq_true rfl) ?_
  intro p e s m args below meth c F hr hlocks hK hP ls hl
  have hn0 := hG.1
  have hn1 := hG.2.1
  have hw0 := hB.1
  have hw1 := hB.2.1
  have hc0 := hWS.1
  have hc1 := hWS.2.1
  have hW := hWS.2.2 w hw.1 hw.2
  have hV := hWS.2.2 v hv.1 hv.2
  refine lv_aload_n F.1 F.2.1 dX3_stepsToMeet_0 rfl (lv_at hl 0 rfl) ?_
  refine lv_iload_n F.1 F.2.1 dX3_stepsToMeet_1 rfl (lv_at hl 1 rfl) ?_
  refine rr_rdV (rest := []) F hK (c_X3_hasWalker l D cy st r bk ws wc sp w (by first | assumption | omega | exact ⟨by omega, by omega⟩) (by first | assumption | omega | exact ⟨by omega, by omega⟩)) (hP.sub [0] rfl) sf_X3_hasWalker tw519 3 rfl rfl ⟨Nat.le_of_ble_eq_true rfl, Nat.le_of_ble_eq_true rfl⟩ hl rfl (Nat.le_of_ble_eq_true rfl) dX3_stepsToMeet_2 ⟨Nat.zero_le _, Nat.zero_le _⟩ ?_
  refine rr_ifP_eq F (tgt := 16) dX3_stepsToMeet_5 (by decide) (fun c_5 => ?_) (fun c_5 => ?_)
  · exfalso; omega
  · refine lv_aload_n F.1 F.2.1 dX3_stepsToMeet_8 rfl (lv_at hl 0 rfl) ?_
    refine lv_iload_n F.1 F.2.1 dX3_stepsToMeet_9 rfl (lv_at hl 2 rfl) ?_
    refine rr_rdV (rest := []) F hK (c_X3_hasWalker l D cy st r bk ws wc sp v (by first | assumption | omega | exact ⟨by omega, by omega⟩) (by first | assumption | omega | exact ⟨by omega, by omega⟩)) (hP.sub [0] rfl) sf_X3_hasWalker tw519 3 rfl rfl ⟨Nat.le_of_ble_eq_true rfl, Nat.le_of_ble_eq_true rfl⟩ hl rfl (Nat.le_of_ble_eq_true rfl) dX3_stepsToMeet_10 ⟨Nat.zero_le _, Nat.zero_le _⟩ ?_
    refine rr_ifP_ne F (tgt := 18) dX3_stepsToMeet_13 (by decide) (fun c_13 => ?_) (fun c_13 => ?_)
    · refine rr_iconst F dX3_stepsToMeet_18 ?_
      refine lv_istore_n (lv' := [(3, vI 0), (0, .ref st), (1, vI w), (2, vI v)]) F.1 F.2.1 dX3_stepsToMeet_19 rfl hl (by decide) rfl (fun ls hl => ?_)
      refine rr_loop1 (fun k => (0 ≤ k) ∧ (k ≤ n) ∧ (∀ j, 0 ≤ j → j < k → ¬ off n (wp w) (wd w) (j * wq w) = off n (wp v) (wd v) (j * wq v))) (fun k => (n - k).toNat) (fun k => [(3, vI k), (0, .ref st), (1, vI w), (2, vI v)]) ?_ 0 ⟨by omega, by omega, fun j x y => by omega⟩ (lv_sub hl [0, 1, 2, 3] rfl)
      intro k hI ih_20 ls hl
      obtain ⟨k0, k1, kq⟩ := hI
      have hl : lv_has ls 4 [(3, vI k), (0, .ref st), (1, vI w), (2, vI v)] := hl
      refine lv_iload_n F.1 F.2.1 dX3_stepsToMeet_20 rfl (lv_at hl 0 rfl) ?_
      refine lv_aload_n F.1 F.2.1 dX3_stepsToMeet_21 rfl (lv_at hl 1 rfl) ?_
      refine gf3_0 F hK hP 0 rfl tw117 dX3_stepsToMeet_22 ?_
      refine gf2_1N F hK hP 1 rfl tn58 dX3_stepsToMeet_25 ?_
      refine rr_icmp_ge F (tgt := 70) dX3_stepsToMeet_28 (by decide) ⟨by omega, by omega⟩ ⟨by omega, by omega⟩ (fun c_28 => ?_) (fun c_28 => ?_)
      · refine rr_iconst F dX3_stepsToMeet_70 ?_
        exact rr_iret F hr hlocks dX3_stepsToMeet_71 (low_miss hn0 (fun j x y => kq j x (by omega)))
      · refine lv_aload_n F.1 F.2.1 dX3_stepsToMeet_31 rfl (lv_at hl 1 rfl) ?_
        refine gf3_2 F hK hP 0 rfl tw121 dX3_stepsToMeet_32 ?_
        refine lv_iload_n F.1 F.2.1 dX3_stepsToMeet_35 rfl (lv_at hl 2 rfl) ?_
        refine rr_aald4 F hK hP 6 rfl (by omega) (by omega) (by decide) dX3_stepsToMeet_36 ?_
        have hP := wk_ext (wk := wk) (fun i => .inr (5, [vI (wp i), vI (wd i), vI (wq i), vI (wi i), vI (we i)])) w hP 7 8 9 10 rfl rfl rfl rfl (by omega)
        have hP : va_P D vwCl [(st, .inr (3, [.ref r, .ref bk, .ref ws, vI wc, vI sp])), (r, .inr (2, [.ref sg, vI n])), (sg, .inl (cy 0, 24, .inl (iA g))), (bk, .inr (0, [.ref la, .ref na, vI nw])), (la, .inl (cy 0, 60, .inl (iA lt))), (na, .inl (cy 1, 10, .inl (iA ln))), (ws, .inl (cy 4, 4, .inr (.inr (.inr (.inr (rA wk)))))), (wk 0, .inr (5, [vI (wp 0), vI (wd 0), vI (wq 0), vI (wi 0), vI (we 0)])), (wk 1, .inr (5, [vI (wp 1), vI (wd 1), vI (wq 1), vI (wi 1), vI (we 1)])), (wk 2, .inr (5, [vI (wp 2), vI (wd 2), vI (wq 2), vI (wi 2), vI (we 2)])), (wk 3, .inr (5, [vI (wp 3), vI (wd 3), vI (wq 3), vI (wi 3), vI (we 3)])), (wk w, .inr (5, [vI (wp w), vI (wd w), vI (wq w), vI (wi w), vI (we w)]))] _ := hP
        refine lv_iload_n F.1 F.2.1 dX3_stepsToMeet_37 rfl (lv_at hl 0 rfl) ?_
        refine lv_aload_n F.1 F.2.1 dX3_stepsToMeet_38 rfl (lv_at hl 1 rfl) ?_
        refine gf3_0 F hK hP 0 rfl tw117 dX3_stepsToMeet_39 ?_
        refine rr_rdV (rest := []) F hK (c_X5_placeAfter l D cy (wk w) (wp w) (wd w) (wq w) (wi w) (we w) r sg n g q k (by first | assumption | omega | exact ⟨by omega, by omega⟩) (by first | assumption | omega | exact ⟨by omega, by omega⟩) (by first | assumption | omega | exact ⟨by omega, by omega⟩)) (hP.sub [11, 1, 2] rfl) sf_X5_placeAfter tw774 5 rfl rfl ⟨Nat.le_of_ble_eq_true rfl, Nat.le_of_ble_eq_true rfl⟩ hl rfl (Nat.le_of_ble_eq_true rfl) dX3_stepsToMeet_42 ⟨Nat.zero_le _, Nat.zero_le _⟩ ?_
        have q_42_0 := (off_rng (show 0 < n by omega) (wp w) (wd w) (k * (wq w)))
        refine lv_aload_n F.1 F.2.1 dX3_stepsToMeet_45 rfl (lv_at hl 1 rfl) ?_
        refine gf3_2 F hK hP 0 rfl tw121 dX3_stepsToMeet_46 ?_
        refine lv_iload_n F.1 F.2.1 dX3_stepsToMeet_49 rfl (lv_at hl 3 rfl) ?_
        refine rr_aald4 F hK hP 6 rfl (by omega) (by omega) (by decide) dX3_stepsToMeet_50 ?_
        have hP := wk_ext (wk := wk) (fun i => .inr (5, [vI (wp i), vI (wd i), vI (wq i), vI (wi i), vI (we i)])) v hP 7 8 9 10 rfl rfl rfl rfl (by omega)
        have hP : va_P D vwCl [(st, .inr (3, [.ref r, .ref bk, .ref ws, vI wc, vI sp])), (r, .inr (2, [.ref sg, vI n])), (sg, .inl (cy 0, 24, .inl (iA g))), (bk, .inr (0, [.ref la, .ref na, vI nw])), (la, .inl (cy 0, 60, .inl (iA lt))), (na, .inl (cy 1, 10, .inl (iA ln))), (ws, .inl (cy 4, 4, .inr (.inr (.inr (.inr (rA wk)))))), (wk 0, .inr (5, [vI (wp 0), vI (wd 0), vI (wq 0), vI (wi 0), vI (we 0)])), (wk 1, .inr (5, [vI (wp 1), vI (wd 1), vI (wq 1), vI (wi 1), vI (we 1)])), (wk 2, .inr (5, [vI (wp 2), vI (wd 2), vI (wq 2), vI (wi 2), vI (we 2)])), (wk 3, .inr (5, [vI (wp 3), vI (wd 3), vI (wq 3), vI (wi 3), vI (we 3)])), (wk w, .inr (5, [vI (wp w), vI (wd w), vI (wq w), vI (wi w), vI (we w)])), (wk v, .inr (5, [vI (wp v), vI (wd v), vI (wq v), vI (wi v), vI (we v)]))] _ := hP
        refine lv_iload_n F.1 F.2.1 dX3_stepsToMeet_51 rfl (lv_at hl 0 rfl) ?_
        refine lv_aload_n F.1 F.2.1 dX3_stepsToMeet_52 rfl (lv_at hl 1 rfl) ?_
        refine gf3_0 F hK hP 0 rfl tw117 dX3_stepsToMeet_53 ?_
        refine rr_rdV (rest := [vI (off n (wp w) (wd w) (k * (wq w)))]) F hK (c_X5_placeAfter l D cy (wk v) (wp v) (wd v) (wq v) (wi v) (we v) r sg n g q k (by first | assumption | omega | exact ⟨by omega, by omega⟩) (by first | assumption | omega | exact ⟨by omega, by omega⟩) (by first | assumption | omega | exact ⟨by omega, by omega⟩)) (hP.sub [12, 1, 2] rfl) sf_X5_placeAfter tw774 5 rfl rfl ⟨Nat.le_of_ble_eq_true rfl, Nat.le_of_ble_eq_true rfl⟩ hl rfl (Nat.le_of_ble_eq_true rfl) dX3_stepsToMeet_56 ⟨Nat.zero_le _, Nat.zero_le _⟩ ?_
        have q_56_0 := (off_rng (show 0 < n by omega) (wp v) (wd v) (k * (wq v)))
        refine rr_icmp_ne F (tgt := 64) dX3_stepsToMeet_59 (by decide) ⟨by omega, by omega⟩ ⟨by omega, by omega⟩ (fun c_59 => ?_) (fun c_59 => ?_)
        · refine lv_iinc (v := iI (k + 1)) (lv' := [(3, vI (k + 1)), (0, .ref st), (1, vI w), (2, vI v)]) F.1 F.2.1 dX3_stepsToMeet_64 hl (k := 0) rfl (iinc_ok (by first | rfl | omega)) (by decide) rfl (fun ls hl => ?_)
          refine lv_goto (tgt := 20) F.1 F.2.1 dX3_stepsToMeet_67 (by decide) ?_
          exact ih_20 (k + 1) ⟨by omega, by omega, fun j x y => (if hj : j = k then by subst hj; exact c_59 else kq j x (by omega))⟩ (show ((n - (k + 1)).toNat) < ((n - k).toNat) by omega) ls (lv_sub hl [0, 1, 2, 3] rfl)
        · refine lv_iload_n F.1 F.2.1 dX3_stepsToMeet_62 rfl (lv_at hl 0 rfl) ?_
          exact rr_iret F hr hlocks dX3_stepsToMeet_63 (low_hit k0 (by omega) (by assumption) kq)
    · exfalso; omega
