set_option maxRecDepth 100000 in
set_option maxHeartbeats 4000000 in
theorem c_X7_ofReading (l : Launch) (D : va_G) (cy : Nat → ClassId) (mo no th pa sl sv tx : Nat) (tr ss ty : Int) (a : Int → Int) (d x : Int) (hM : MR a) (hd : 0 ≤ d ∧ d ≤ 1) (hx : 0 ≤ x ∧ x ≤ 3) : Rd l yX7_ofReading cX7_ofReading 3 (some FieldType.int) 5 [.ref mo, vI d, vI x] D cy [(mo, .inr (7, [vI tr, .ref no, .ref th, .ref pa, vI ss, .ref sl, .ref sv, .ref tx, vI ty])), (no, .inl (cy 1, 118, .inl (iA a)))] (rdv (a 0) (rq a) (a 25) (rbl a) (rbc a) d x) := by
  refine Rd.of RX7 rfl [(0, .ref mo), (1, vI d), (2, vI x)] rfl (by decide +kernel) (Nat.le_of_ble_eq_true rfl) ?_
  intro p e s m args below meth c F hr hlocks hK hP ls hl
  have hn0 := hM.n
  have hw0 := hM.nw
  have hc0 := hM.wc
  refine lv_iload_n F.1 F.2.1 dX7_ofReading_0 rfl (lv_at hl 2 rfl) ?_
  refine rr_if_ne F (tgt := 15) dX7_ofReading_1 (by decide) ⟨by omega, by omega⟩ (fun c_1 => ?_) (fun c_1 => ?_)
  · refine lv_iload_n F.1 F.2.1 dX7_ofReading_15 rfl (lv_at hl 2 rfl) ?_
    refine rr_iconst F dX7_ofReading_16 ?_
    refine rr_icmp_ne F (tgt := 31) dX7_ofReading_17 (by decide) ⟨by omega, by omega⟩ ⟨by omega, by omega⟩ (fun c_17 => ?_) (fun c_17 => ?_)
    · refine lv_iload_n F.1 F.2.1 dX7_ofReading_31 rfl (lv_at hl 2 rfl) ?_
      refine rr_iconst F dX7_ofReading_32 ?_
      refine rr_icmp_ne F (tgt := 47) dX7_ofReading_33 (by decide) ⟨by omega, by omega⟩ ⟨by omega, by omega⟩ (fun c_33 => ?_) (fun c_33 => ?_)
      · refine lv_aload_n F.1 F.2.1 dX7_ofReading_47 rfl (lv_at hl 0 rfl) ?_
        refine lv_iload_n F.1 F.2.1 dX7_ofReading_48 rfl (lv_at hl 1 rfl) ?_
        refine rr_rdV (rest := []) F hK (c_X7_longest l D cy mo no th pa sl sv tx tr ss ty a d (by first | assumption | omega | exact ⟨by omega, by omega⟩) (by first | assumption | omega | exact ⟨by omega, by omega⟩)) hP sf_X7_longest tw1033 7 rfl rfl ⟨Nat.le_of_ble_eq_true rfl, Nat.le_of_ble_eq_true rfl⟩ hl rfl (Nat.le_of_ble_eq_true rfl) dX7_ofReading_49 ⟨Nat.zero_le _, Nat.zero_le _⟩ ?_
        have q_49_0 := (mx_rng (f := fun u_j => seg (a 0) (rq a) u_j d) (c := 24) (n := a 0) (by omega) (by omega) (fun u_j x y => by have := seg_rng (n := a 0) (by omega) (rq a) u_j d; omega))
        exact rr_iret F hr hlocks dX7_ofReading_52 (by unfold rdv; (repeat' (first | rfl | split)) <;> omega)
      · refine lv_aload_n F.1 F.2.1 dX7_ofReading_36 rfl (lv_at hl 0 rfl) ?_
        refine gf7_1 F hK hP 0 rfl tw875 dX7_ofReading_37 ?_
        refine lv_iload_n F.1 F.2.1 dX7_ofReading_40 rfl (lv_at hl 1 rfl) ?_
        refine rr_rdS (rest := []) F hK (c_X7_readings l D cy no a d (by first | assumption | omega | exact ⟨by omega, by omega⟩) (by first | assumption | omega | exact ⟨by omega, by omega⟩)) (hP.sub [1] rfl) sf_X7_readings tw1029 ⟨Nat.le_of_ble_eq_true rfl, Nat.le_of_ble_eq_true rfl⟩ hl rfl (Nat.le_of_ble_eq_true rfl) dX7_ofReading_41 ⟨Nat.zero_le _, Nat.zero_le _⟩ ?_
        have q_41_0 := (show 0 ≤ rdg (a 0) (rq a) (a 25) (rbl a) (rbc a) d ∧ rdg (a 0) (rq a) (a 25) (rbl a) (rbc a) d ≤ 1000000 by have pf := prd_fit (q := rq a) (bl := rbl a) (bc := rbc a) (d := d) (n := a 0) (nw := a 25) ⟨by omega, by omega⟩ ⟨by omega, by omega⟩ (show 0 ≤ a 0 by omega) (Int.le_refl (a 0)); unfold rdg; split <;> (try split) <;> omega)
        refine lv_goto (tgt := 52) F.1 F.2.1 dX7_ofReading_44 (by decide) ?_
        exact rr_iret F hr hlocks dX7_ofReading_52 (by unfold rdv; (repeat' (first | rfl | split)) <;> omega)
    · refine lv_aload_n F.1 F.2.1 dX7_ofReading_20 rfl (lv_at hl 0 rfl) ?_
      refine gf7_1 F hK hP 0 rfl tw875 dX7_ofReading_21 ?_
      refine lv_iload_n F.1 F.2.1 dX7_ofReading_24 rfl (lv_at hl 1 rfl) ?_
      refine rr_rdS (rest := []) F hK (c_X7_sense l D cy no a d (by first | assumption | omega | exact ⟨by omega, by omega⟩) (by first | assumption | omega | exact ⟨by omega, by omega⟩)) (hP.sub [1] rfl) sf_X7_sense tw1017 ⟨Nat.le_of_ble_eq_true rfl, Nat.le_of_ble_eq_true rfl⟩ hl rfl (Nat.le_of_ble_eq_true rfl) dX7_ofReading_25 ⟨Nat.zero_le _, Nat.zero_le _⟩ ?_
      have q_25_0 := (show 0 ≤ sns (a 0) (rq a) (a 25) (rbl a) (rbc a) d ∧ sns (a 0) (rq a) (a 25) (rbl a) (rbc a) d ≤ a 0 from cnt_rng _ (by omega))
      refine lv_goto (tgt := 52) F.1 F.2.1 dX7_ofReading_28 (by decide) ?_
      exact rr_iret F hr hlocks dX7_ofReading_52 (by unfold rdv; (repeat' (first | rfl | split)) <;> omega)
  · refine lv_aload_n F.1 F.2.1 dX7_ofReading_4 rfl (lv_at hl 0 rfl) ?_
    refine gf7_1 F hK hP 0 rfl tw875 dX7_ofReading_5 ?_
    refine lv_iload_n F.1 F.2.1 dX7_ofReading_8 rfl (lv_at hl 1 rfl) ?_
    refine rr_rdS (rest := []) F hK (c_X7_segments l D cy no a d (by first | assumption | omega | exact ⟨by omega, by omega⟩) (by first | assumption | omega | exact ⟨by omega, by omega⟩)) (hP.sub [1] rfl) sf_X7_segments tw1011 ⟨Nat.le_of_ble_eq_true rfl, Nat.le_of_ble_eq_true rfl⟩ hl rfl (Nat.le_of_ble_eq_true rfl) dX7_ofReading_9 ⟨Nat.zero_le _, Nat.zero_le _⟩ ?_
    have q_9_0 := (cnt_rng (fun u_p => 0 < seg (a 0) (rq a) u_p d) (n := a 0) (by omega))
    refine lv_goto (tgt := 52) F.1 F.2.1 dX7_ofReading_12 (by decide) ?_
    exact rr_iret F hr hlocks dX7_ofReading_52 (by unfold rdv; (repeat' (first | rfl | split)) <;> omega)
set_option maxRecDepth 100000 in
set_option maxHeartbeats 4000000 in
theorem c_X7_ofWalker (l : Launch) (D : va_G) (cy : Nat → ClassId) (mo no th pa sl sv tx : Nat) (tr ss ty : Int) (a : Int → Int) (w x : Int) (hM : MR a) (hw : 0 ≤ w ∧ w < a 96) (hx : 0 ≤ x ∧ x ≤ 6) : Rd l yX7_ofWalker cX7_ofWalker 3 (some FieldType.int) 5 [.ref mo, vI w, vI x] D cy [(mo, .inr (7, [vI tr, .ref no, .ref th, .ref pa, vI ss, .ref sl, .ref sv, .ref tx, vI ty])), (no, .inl (cy 1, 118, .inl (iA a)))] (wkv (a 0) (rq a) (a 25) (rbl a) (rbc a) (a (97 + 5 * w + 0)) (a (97 + 5 * w + 1)) (a (97 + 5 * w + 2)) (a (97 + 5 * w + 3)) (a (97 + 5 * w + 4)) x) := by
  refine Rd.of RX7 rfl [(0, .ref mo), (1, vI w), (2, vI x)] rfl (by decide +kernel) (Nat.le_of_ble_eq_true rfl) ?_
  intro p e s m args below meth c F hr hlocks hK hP ls hl
  have hn0 := hM.n
  have hw0 := hM.nw
  have hc0 := hM.wc
  have hW := hM.w hw.1 hw.2
  obtain ⟨v1, v2, v3, v4, v5⟩ := id hW
  have v6 := p2_24 hn0.1 hn0.2
  refine lv_iload_n F.1 F.2.1 dX7_ofWalker_0 rfl (lv_at hl 2 rfl) ?_
  refine rr_iconst F dX7_ofWalker_1 ?_
  refine rr_icmp_ge F (tgt := 17) dX7_ofWalker_2 (by decide) ⟨by omega, by omega⟩ ⟨by omega, by omega⟩ (fun c_2 => ?_) (fun c_2 => ?_)
  · refine lv_iload_n F.1 F.2.1 dX7_ofWalker_17 rfl (lv_at hl 2 rfl) ?_
    refine rr_iconst F dX7_ofWalker_18 ?_
    refine rr_icmp_ne F (tgt := 37) dX7_ofWalker_19 (by decide) ⟨by omega, by omega⟩ ⟨by omega, by omega⟩ (fun c_19 => ?_) (fun c_19 => ?_)
    · refine lv_aload_n F.1 F.2.1 dX7_ofWalker_37 rfl (lv_at hl 0 rfl) ?_
      refine gf7_1 F hK hP 0 rfl tw875 dX7_ofWalker_38 ?_
      refine lv_iload_n F.1 F.2.1 dX7_ofWalker_41 rfl (lv_at hl 1 rfl) ?_
      refine lv_iload_n F.1 F.2.1 dX7_ofWalker_42 rfl (lv_at hl 2 rfl) ?_
      refine rr_bipush F dX7_ofWalker_43 (by decide) ?_
      refine rr_icmp_ne F (tgt := 52) dX7_ofWalker_45 (by decide) ⟨by omega, by omega⟩ ⟨by omega, by omega⟩ (fun c_45 => ?_) (fun c_45 => ?_)
      · refine rr_iconst F dX7_ofWalker_52 ?_
        refine rr_rdS (rest := []) F hK (c_X7_known l D cy no a w 0 (by first | assumption | omega | exact ⟨by omega, by omega⟩) (by first | assumption | omega | exact ⟨by omega, by omega⟩) (by first | assumption | omega | exact ⟨by omega, by omega⟩)) (hP.sub [1] rfl) sf_X7_known tw1082 ⟨Nat.le_of_ble_eq_true rfl, Nat.le_of_ble_eq_true rfl⟩ hl rfl (Nat.le_of_ble_eq_true rfl) dX7_ofWalker_53 ⟨Nat.zero_le _, Nat.zero_le _⟩ ?_
        have q_53_0 := (show 0 ≤ knb (a 0) (rq a) (a 25) (rbl a) (rbc a) (a (97 + 5 * w + 1)) (a (97 + 5 * w + 4)) 0 ∧ knb (a 0) (rq a) (a 25) (rbl a) (rbc a) (a (97 + 5 * w + 1)) (a (97 + 5 * w + 4)) 0 ≤ a 0 from cnt_rng _ (by omega))
        exact rr_iret F hr hlocks dX7_ofWalker_56 (by unfold wkv; first | (rcases (show x = 0 ∨ x = 1 ∨ x = 2 ∨ x = 3 by omega) with rfl | rfl | rfl | rfl <;> rfl) | ((repeat' (first | rfl | split)) <;> omega))
      · refine rr_iconst F dX7_ofWalker_48 ?_
        refine lv_goto (tgt := 53) F.1 F.2.1 dX7_ofWalker_49 (by decide) ?_
        refine rr_rdS (rest := []) F hK (c_X7_known l D cy no a w 1 (by first | assumption | omega | exact ⟨by omega, by omega⟩) (by first | assumption | omega | exact ⟨by omega, by omega⟩) (by first | assumption | omega | exact ⟨by omega, by omega⟩)) (hP.sub [1] rfl) sf_X7_known tw1082 ⟨Nat.le_of_ble_eq_true rfl, Nat.le_of_ble_eq_true rfl⟩ hl rfl (Nat.le_of_ble_eq_true rfl) dX7_ofWalker_53 ⟨Nat.zero_le _, Nat.zero_le _⟩ ?_
        have q_53_0 := (show 0 ≤ knb (a 0) (rq a) (a 25) (rbl a) (rbc a) (a (97 + 5 * w + 1)) (a (97 + 5 * w + 4)) 1 ∧ knb (a 0) (rq a) (a 25) (rbl a) (rbc a) (a (97 + 5 * w + 1)) (a (97 + 5 * w + 4)) 1 ≤ a 0 from cnt_rng _ (by omega))
        exact rr_iret F hr hlocks dX7_ofWalker_56 (by unfold wkv; first | (rcases (show x = 0 ∨ x = 1 ∨ x = 2 ∨ x = 3 by omega) with rfl | rfl | rfl | rfl <;> rfl) | ((repeat' (first | rfl | split)) <;> omega))
    · refine lv_aload_n F.1 F.2.1 dX7_ofWalker_22 rfl (lv_at hl 0 rfl) ?_
      refine gf7_1 F hK hP 0 rfl tw875 dX7_ofWalker_23 ?_
      refine lv_iload_n F.1 F.2.1 dX7_ofWalker_26 rfl (lv_at hl 1 rfl) ?_
      refine rr_iconst F dX7_ofWalker_27 ?_
      refine rr_rdS (rest := []) F hK (c_X7_of l D cy no a w 4 (by first | assumption | omega | exact ⟨by omega, by omega⟩) (by first | assumption | omega | exact ⟨by omega, by omega⟩)) (hP.sub [1] rfl) sf_X7_of tw1076 ⟨Nat.le_of_ble_eq_true rfl, Nat.le_of_ble_eq_true rfl⟩ hl rfl (Nat.le_of_ble_eq_true rfl) dX7_ofWalker_28 ⟨Nat.zero_le _, Nat.zero_le _⟩ ?_
      refine rr_rdS (rest := []) F hK (c_X7_ones l D cy (a (97 + 5 * w + 4)) (by first | assumption | omega | exact ⟨by omega, by omega⟩)) (hP.sub [] rfl) sf_X7_ones tw1079 ⟨Nat.le_of_ble_eq_true rfl, Nat.le_of_ble_eq_true rfl⟩ hl rfl (Nat.le_of_ble_eq_true rfl) dX7_ofWalker_31 ⟨Nat.zero_le _, Nat.zero_le _⟩ ?_
      refine lv_goto (tgt := 56) F.1 F.2.1 dX7_ofWalker_34 (by decide) ?_
      exact rr_iret F hr hlocks dX7_ofWalker_56 (by unfold wkv; first | (rcases (show x = 0 ∨ x = 1 ∨ x = 2 ∨ x = 3 by omega) with rfl | rfl | rfl | rfl <;> rfl) | ((repeat' (first | rfl | split)) <;> omega))
  · refine lv_aload_n F.1 F.2.1 dX7_ofWalker_5 rfl (lv_at hl 0 rfl) ?_
    refine gf7_1 F hK hP 0 rfl tw875 dX7_ofWalker_6 ?_
    refine lv_iload_n F.1 F.2.1 dX7_ofWalker_9 rfl (lv_at hl 1 rfl) ?_
    refine lv_iload_n F.1 F.2.1 dX7_ofWalker_10 rfl (lv_at hl 2 rfl) ?_
    refine rr_rdS (rest := []) F hK (c_X7_of l D cy no a w x (by first | assumption | omega | exact ⟨by omega, by omega⟩) (by first | assumption | omega | exact ⟨by omega, by omega⟩)) (hP.sub [1] rfl) sf_X7_of tw1076 ⟨Nat.le_of_ble_eq_true rfl, Nat.le_of_ble_eq_true rfl⟩ hl rfl (Nat.le_of_ble_eq_true rfl) dX7_ofWalker_11 ⟨Nat.zero_le _, Nat.zero_le _⟩ ?_
    refine lv_goto (tgt := 56) F.1 F.2.1 dX7_ofWalker_14 (by decide) ?_
    exact rr_iret F hr hlocks dX7_ofWalker_56 (by unfold wkv; first | (rcases (show x = 0 ∨ x = 1 ∨ x = 2 ∨ x = 3 by omega) with rfl | rfl | rfl | rfl <;> rfl) | ((repeat' (first | rfl | split)) <;> omega))
set_option maxRecDepth 100000 in
set_option maxHeartbeats 4000000 in
theorem c_X7_ofSegment (l : Launch) (D : va_G) (cy : Nat → ClassId) (mo no th pa sl sv tx : Nat) (tr ss ty : Int) (a : Int → Int) (dv d x : Int) (hM : MR a) (hp : 0 ≤ dv ∧ dv < a 0) (hd : 0 ≤ d ∧ d ≤ 1) (hq : a (1 + dv) = 0) (hx : 0 ≤ x ∧ x ≤ 4) : Rd l yX7_ofSegment cX7_ofSegment 4 (some FieldType.int) 4 [.ref mo, vI dv, vI d, vI x] D cy [(mo, .inr (7, [vI tr, .ref no, .ref th, .ref pa, vI ss, .ref sl, .ref sv, .ref tx, vI ty])), (no, .inl (cy 1, 118, .inl (iA a)))] (sgv (a 0) (rq a) (a 25) (rbl a) (rbc a) dv d x) := by
  refine Rd.of RX7 rfl [(0, .ref mo), (1, vI dv), (2, vI d), (3, vI x)] rfl (by decide +kernel) (Nat.le_of_ble_eq_true rfl) ?_
  intro p e s m args below meth c F hr hlocks hK hP ls hl
  have hn0 := hM.n
  have hw0 := hM.nw
  have hc0 := hM.wc
  refine lv_iload_n F.1 F.2.1 dX7_ofSegment_0 rfl (lv_at hl 3 rfl) ?_
  rcases (show (x < 0 ∨ 3 < x) ∨ x = 0 ∨ x = 1 ∨ x = 2 ∨ x = 3 by omega) with c_1 | c_1 | c_1 | c_1 | c_1
  · refine rr_tabOut F (tgt := 61) dX7_ofSegment_1 ⟨by omega, by omega⟩ c_1 rfl ?_
    refine lv_aload_n F.1 F.2.1 dX7_ofSegment_61 rfl (lv_at hl 0 rfl) ?_
    refine lv_iload_n F.1 F.2.1 dX7_ofSegment_62 rfl (lv_at hl 1 rfl) ?_
    refine lv_iload_n F.1 F.2.1 dX7_ofSegment_63 rfl (lv_at hl 2 rfl) ?_
    refine rr_rdV (rest := []) F hK (c_X7_wornIn l D cy mo no th pa sl sv tx tr ss ty a dv d (by first | assumption | omega | exact ⟨by omega, by omega⟩) (by first | assumption | omega | exact ⟨by omega, by omega⟩) (by first | assumption | omega | exact ⟨by omega, by omega⟩) (by first | assumption | omega | exact ⟨by omega, by omega⟩)) hP sf_X7_wornIn tw1052 7 rfl rfl ⟨Nat.le_of_ble_eq_true rfl, Nat.le_of_ble_eq_true rfl⟩ hl rfl (Nat.le_of_ble_eq_true rfl) dX7_ofSegment_64 ⟨Nat.zero_le _, Nat.zero_le _⟩ ?_
    exact rr_iret F hr hlocks dX7_ofSegment_67 (by unfold sgv; (repeat' (first | rfl | split)) <;> omega)
  · refine rr_tabIn F (tgt := 32) 0 dX7_ofSegment_1 ⟨by omega, by omega⟩ (by omega) (by omega) rfl rfl ?_
    refine lv_iload_n F.1 F.2.1 dX7_ofSegment_32 rfl (lv_at hl 1 rfl) ?_
    exact rr_iret F hr hlocks dX7_ofSegment_33 (by unfold sgv; (repeat' (first | rfl | split)) <;> omega)
  · refine rr_tabIn F (tgt := 34) 1 dX7_ofSegment_1 ⟨by omega, by omega⟩ (by omega) (by omega) rfl rfl ?_
    refine lv_aload_n F.1 F.2.1 dX7_ofSegment_34 rfl (lv_at hl 0 rfl) ?_
    refine gf7_1 F hK hP 0 rfl tw875 dX7_ofSegment_35 ?_
    refine lv_iload_n F.1 F.2.1 dX7_ofSegment_38 rfl (lv_at hl 1 rfl) ?_
    refine lv_iload_n F.1 F.2.1 dX7_ofSegment_39 rfl (lv_at hl 2 rfl) ?_
    refine rr_rdS (rest := []) F hK (c_X7_longOf l D cy no a dv d (by first | assumption | omega | exact ⟨by omega, by omega⟩) (by first | assumption | omega | exact ⟨by omega, by omega⟩) (by first | assumption | omega | exact ⟨by omega, by omega⟩) (by first | assumption | omega | exact ⟨by omega, by omega⟩)) (hP.sub [1] rfl) sf_X7_longOf tw1014 ⟨Nat.le_of_ble_eq_true rfl, Nat.le_of_ble_eq_true rfl⟩ hl rfl (Nat.le_of_ble_eq_true rfl) dX7_ofSegment_40 ⟨Nat.zero_le _, Nat.zero_le _⟩ ?_
    have q_40_0 := (seg_rng (n := a 0) (by omega) (rq a) dv d)
    exact rr_iret F hr hlocks dX7_ofSegment_43 (by unfold sgv; (repeat' (first | rfl | split)) <;> omega)
  · refine rr_tabIn F (tgt := 44) 2 dX7_ofSegment_1 ⟨by omega, by omega⟩ (by omega) (by omega) rfl rfl ?_
    refine lv_aload_n F.1 F.2.1 dX7_ofSegment_44 rfl (lv_at hl 0 rfl) ?_
    refine gf7_1 F hK hP 0 rfl tw875 dX7_ofSegment_45 ?_
    refine lv_iload_n F.1 F.2.1 dX7_ofSegment_48 rfl (lv_at hl 1 rfl) ?_
    refine lv_iload_n F.1 F.2.1 dX7_ofSegment_49 rfl (lv_at hl 2 rfl) ?_
    refine rr_rdS (rest := []) F hK (c_X7_fits l D cy no a dv d (by first | assumption | omega | exact ⟨by omega, by omega⟩) (by first | assumption | omega | exact ⟨by omega, by omega⟩) (by first | assumption | omega | exact ⟨by omega, by omega⟩) (by first | assumption | omega | exact ⟨by omega, by omega⟩)) (hP.sub [1] rfl) sf_X7_fits tw1020 ⟨Nat.le_of_ble_eq_true rfl, Nat.le_of_ble_eq_true rfl⟩ hl rfl (Nat.le_of_ble_eq_true rfl) dX7_ofSegment_50 ⟨Nat.zero_le _, Nat.zero_le _⟩ ?_
    have q_50_0 := (show 0 ≤ fc (a 0) (rq a) (a 25) (rbl a) (rbc a) dv d ∧ fc (a 0) (rq a) (a 25) (rbl a) (rbc a) dv d ≤ a 25 from cnt_rng _ (by omega))
    exact rr_iret F hr hlocks dX7_ofSegment_53 (by unfold sgv; (repeat' (first | rfl | split)) <;> omega)
  · refine rr_tabIn F (tgt := 54) 3 dX7_ofSegment_1 ⟨by omega, by omega⟩ (by omega) (by omega) rfl rfl ?_
    refine lv_aload_n F.1 F.2.1 dX7_ofSegment_54 rfl (lv_at hl 0 rfl) ?_
    refine lv_iload_n F.1 F.2.1 dX7_ofSegment_55 rfl (lv_at hl 1 rfl) ?_
    refine lv_iload_n F.1 F.2.1 dX7_ofSegment_56 rfl (lv_at hl 2 rfl) ?_
    refine rr_rdV (rest := []) F hK (c_X7_lowestFit l D cy mo no th pa sl sv tx tr ss ty a dv d (by first | assumption | omega | exact ⟨by omega, by omega⟩) (by first | assumption | omega | exact ⟨by omega, by omega⟩) (by first | assumption | omega | exact ⟨by omega, by omega⟩) (by first | assumption | omega | exact ⟨by omega, by omega⟩)) hP sf_X7_lowestFit tw1048 7 rfl rfl ⟨Nat.le_of_ble_eq_true rfl, Nat.le_of_ble_eq_true rfl⟩ hl rfl (Nat.le_of_ble_eq_true rfl) dX7_ofSegment_57 ⟨Nat.zero_le _, Nat.zero_le _⟩ ?_
    exact rr_iret F hr hlocks dX7_ofSegment_60 (by unfold sgv; (repeat' (first | rfl | split)) <;> omega)
set_option maxRecDepth 100000 in
set_option maxHeartbeats 4000000 in
theorem c_X7_signOf (l : Launch) (D : va_G) (cy : Nat → ClassId) (mo no th pa sl sv tx : Nat) (tr ss ty : Int) (tc : Int → Int) (i : Int) (hi : 0 ≤ i ∧ i < 40) (hc : 0 ≤ tc i ∧ tc i < 65536) : Rd l yX7_signOf cX7_signOf 2 (some FieldType.int) 0 [.ref mo, vI i] D cy [(mo, .inr (7, [vI tr, .ref no, .ref th, .ref pa, vI ss, .ref sl, .ref sv, .ref tx, vI ty])), (tx, .inl (cy 0, 40, .inl (iA tc)))] (sgc (tc i)) := by
  refine Rd.of RX7 rfl [(0, .ref mo), (1, vI i)] rfl (by decide +kernel) (Nat.le_of_ble_eq_true rfl) ?_
  intro p e s m args below meth c F hr hlocks hK hP ls hl
  refine lv_aload_n F.1 F.2.1 dX7_signOf_0 rfl (lv_at hl 0 rfl) ?_
  refine gf7_7 F hK hP 0 rfl tw881 dX7_signOf_1 ?_
  refine lv_iload_n F.1 F.2.1 dX7_signOf_4 rfl (lv_at hl 1 rfl) ?_
  refine rr_cald F hK hP 1 rfl (by omega) (by omega) (by decide) dX7_signOf_5 ?_
  refine rr_bipush F dX7_signOf_6 (by decide) ?_
  refine rr_icmp_ne F (tgt := 15) dX7_signOf_8 (by decide) ⟨by omega, by omega⟩ ⟨by omega, by omega⟩ (fun c_8 => ?_) (fun c_8 => ?_)
  · refine lv_aload_n F.1 F.2.1 dX7_signOf_15 rfl (lv_at hl 0 rfl) ?_
    refine gf7_7 F hK hP 0 rfl tw881 dX7_signOf_16 ?_
    refine lv_iload_n F.1 F.2.1 dX7_signOf_19 rfl (lv_at hl 1 rfl) ?_
    refine rr_cald F hK hP 1 rfl (by omega) (by omega) (by decide) dX7_signOf_20 ?_
    refine rr_bipush F dX7_signOf_21 (by decide) ?_
    refine rr_icmp_ne F (tgt := 31) dX7_signOf_23 (by decide) ⟨by omega, by omega⟩ ⟨by omega, by omega⟩ (fun c_23 => ?_) (fun c_23 => ?_)
    · refine lv_aload_n F.1 F.2.1 dX7_signOf_31 rfl (lv_at hl 0 rfl) ?_
      refine gf7_7 F hK hP 0 rfl tw881 dX7_signOf_32 ?_
      refine lv_iload_n F.1 F.2.1 dX7_signOf_35 rfl (lv_at hl 1 rfl) ?_
      refine rr_cald F hK hP 1 rfl (by omega) (by omega) (by decide) dX7_signOf_36 ?_
      refine rr_bipush F dX7_signOf_37 (by decide) ?_
      refine rr_isub F (z := (tc i) - 97) dX7_signOf_39 (by first | rfl | omega) ?_
      refine rr_iconst F dX7_signOf_40 ?_
      refine rr_iadd F (z := ((tc i) - 97) + 1) dX7_signOf_41 (by first | rfl | omega) ?_
      exact rr_iret F hr hlocks dX7_signOf_42 (by unfold sgc; (repeat' (first | rfl | split)) <;> omega)
    · refine rr_bipush F dX7_signOf_26 (by decide) ?_
      refine lv_goto (tgt := 42) F.1 F.2.1 dX7_signOf_28 (by decide) ?_
      exact rr_iret F hr hlocks dX7_signOf_42 (by unfold sgc; (repeat' (first | rfl | split)) <;> omega)
  · refine rr_iconst F dX7_signOf_11 ?_
    refine lv_goto (tgt := 42) F.1 F.2.1 dX7_signOf_12 (by decide) ?_
    exact rr_iret F hr hlocks dX7_signOf_42 (by unfold sgc; (repeat' (first | rfl | split)) <;> omega)
set_option maxRecDepth 100000 in
set_option maxHeartbeats 4000000 in
theorem c_X7_error (l : Launch) (D : va_G) (cy : Nat → ClassId) (mo no th pa sl sv tx : Nat) (tr ss ty : Int) (tc : Int → Int) (fb : Int) (hT : (0 ≤ ty ∧ ty ≤ 40) ∧ CH 40 tc) (hf : fb = 0 ∨ fb = 1) : Rd l yX7_error cX7_error 4 (some FieldType.int) 1 [.ref mo, vI fb] D cy [(mo, .inr (7, [vI tr, .ref no, .ref th, .ref pa, vI ss, .ref sl, .ref sv, .ref tx, vI ty])), (tx, .inl (cy 0, 40, .inl (iA tc)))] (ferr ty tc fb) := by
  refine Rd.of RX7 rfl [(0, .ref mo), (1, vI fb)] rfl (by decide +kernel) (Nat.le_of_ble_eq_true rfl) ?_
  intro p e s m args below meth c F hr hlocks hK hP ls hl
  obtain ⟨ht0, ht1⟩ := id hT
  refine rr_iconst F dX7_error_0 ?_
  refine lv_istore_n (lv' := [(2, vI 0), (0, .ref mo), (1, vI fb)]) F.1 F.2.1 dX7_error_1 rfl hl (by decide) rfl (fun ls hl => ?_)
  refine lv_iload_n F.1 F.2.1 dX7_error_2 rfl (lv_at hl 2 rfl) ?_
  refine rr_if_eq F (tgt := 11) dX7_error_3 (by decide) ⟨by omega, by omega⟩ (fun c_3 => ?_) (fun c_3 => ?_)
  · refine rr_bipush F dX7_error_11 (by decide) ?_
    refine lv_istore_n (lv' := [(3, vI 24), (2, vI 0), (0, .ref mo), (1, vI fb)]) F.1 F.2.1 dX7_error_13 rfl hl (by decide) rfl (fun ls hl => ?_)
    refine rr_loop1 (fun k => (0 ≤ k) ∧ (k ≤ ty) ∧ (∀ j, 0 ≤ j → j < k → ferok tc fb j)) (fun k => (41 - k).toNat) (fun k => [(3, vI (if fb = 0 then 24 else 6)), (2, vI k), (0, .ref mo), (1, vI fb)]) ?_ 0 ⟨by omega, by omega, fun j x y => by omega⟩ (lv_cv (lv_sub hl [0, 1, 2, 3] rfl) (by rw [← show (24 : Int) = if fb = 0 then 24 else 6 from by split <;> omega]; rfl))
    intro k hI ih_14 ls hl
    obtain ⟨k0, k1, kq⟩ := hI
    have hl : lv_has ls 4 [(3, vI (if fb = 0 then 24 else 6)), (2, vI k), (0, .ref mo), (1, vI fb)] := hl
    refine lv_iload_n F.1 F.2.1 dX7_error_14 rfl (lv_at hl 1 rfl) ?_
    refine lv_aload_n F.1 F.2.1 dX7_error_15 rfl (lv_at hl 2 rfl) ?_
    refine gf7_8 F hK hP 0 rfl tw882 dX7_error_16 ?_
    refine rr_icmp_ge F (tgt := 75) dX7_error_19 (by decide) ⟨by omega, by omega⟩ ⟨by omega, by omega⟩ (fun c_19 => ?_) (fun c_19 => ?_)
    · refine lv_iload_n F.1 F.2.1 dX7_error_75 rfl (lv_at hl 1 rfl) ?_
      refine lv_aload_n F.1 F.2.1 dX7_error_76 rfl (lv_at hl 2 rfl) ?_
      refine gf7_8 F hK hP 0 rfl tw882 dX7_error_77 ?_
      refine rr_icmp_ne F (tgt := 94) dX7_error_80 (by decide) ⟨by omega, by omega⟩ ⟨by omega, by omega⟩ (fun c_80 => ?_) (fun c_80 => ?_)
      · refine lv_iload_n F.1 F.2.1 dX7_error_94 rfl (lv_at hl 1 rfl) ?_
        exact rr_iret F hr hlocks dX7_error_95 (by first | exact ferr_hit k0 (by omega) (fun h => by have h1 := h.1; have h2 := h.2; omega) kq | exact ferr_0 (by omega) | exact ferr_miss (by omega) (fun j x y => kq j x (by omega)) | (rw [show k = 0 by omega]; exact ferr_0 (by omega)))
      · refine lv_aload_n F.1 F.2.1 dX7_error_83 rfl (lv_at hl 2 rfl) ?_
        refine gf7_8 F hK hP 0 rfl tw882 dX7_error_84 ?_
        refine rr_if_le F (tgt := 94) dX7_error_87 (by decide) ⟨by omega, by omega⟩ (fun c_87 => ?_) (fun c_87 => ?_)
        · refine lv_iload_n F.1 F.2.1 dX7_error_94 rfl (lv_at hl 1 rfl) ?_
          exact rr_iret F hr hlocks dX7_error_95 (by first | exact ferr_hit k0 (by omega) (fun h => by have h1 := h.1; have h2 := h.2; omega) kq | exact ferr_0 (by omega) | exact ferr_miss (by omega) (fun j x y => kq j x (by omega)) | (rw [show k = 0 by omega]; exact ferr_0 (by omega)))
        · refine rr_iconst F dX7_error_90 ?_
          refine lv_goto (tgt := 95) F.1 F.2.1 dX7_error_91 (by decide) ?_
          exact rr_iret F hr hlocks dX7_error_95 (by first | exact ferr_hit k0 (by omega) (fun h => by have h1 := h.1; have h2 := h.2; omega) kq | exact ferr_0 (by omega) | exact ferr_miss (by omega) (fun j x y => kq j x (by omega)) | (rw [show k = 0 by omega]; exact ferr_0 (by omega)))
    · refine lv_iload_n F.1 F.2.1 dX7_error_22 rfl (lv_at hl 1 rfl) ?_
      refine lv_iload_n F.1 F.2.1 dX7_error_23 rfl (lv_at hl 0 rfl) ?_
      refine rr_icmp_ge F (tgt := 75) dX7_error_24 (by decide) ⟨by omega, by omega⟩ (by split <;> exact ⟨by omega, by omega⟩) (fun c_24 => ?_) (fun c_24 => ?_)
      · refine lv_iload_n F.1 F.2.1 dX7_error_75 rfl (lv_at hl 1 rfl) ?_
        refine lv_aload_n F.1 F.2.1 dX7_error_76 rfl (lv_at hl 2 rfl) ?_
        refine gf7_8 F hK hP 0 rfl tw882 dX7_error_77 ?_
        refine rr_icmp_ne F (tgt := 94) dX7_error_80 (by decide) ⟨by omega, by omega⟩ ⟨by omega, by omega⟩ (fun c_80 => ?_) (fun c_80 => ?_)
        · refine lv_iload_n F.1 F.2.1 dX7_error_94 rfl (lv_at hl 1 rfl) ?_
          exact rr_iret F hr hlocks dX7_error_95 (by first | exact ferr_hit k0 (by omega) (fun h => by have h1 := h.1; have h2 := h.2; omega) kq | exact ferr_0 (by omega) | exact ferr_miss (by omega) (fun j x y => kq j x (by omega)) | (rw [show k = 0 by omega]; exact ferr_0 (by omega)))
        · refine lv_aload_n F.1 F.2.1 dX7_error_83 rfl (lv_at hl 2 rfl) ?_
          refine gf7_8 F hK hP 0 rfl tw882 dX7_error_84 ?_
          refine rr_if_le F (tgt := 94) dX7_error_87 (by decide) ⟨by omega, by omega⟩ (fun c_87 => ?_) (fun c_87 => ?_)
          · refine lv_iload_n F.1 F.2.1 dX7_error_94 rfl (lv_at hl 1 rfl) ?_
            exact rr_iret F hr hlocks dX7_error_95 (by first | exact ferr_hit k0 (by omega) (fun h => by have h1 := h.1; have h2 := h.2; omega) kq | exact ferr_0 (by omega) | exact ferr_miss (by omega) (fun j x y => kq j x (by omega)) | (rw [show k = 0 by omega]; exact ferr_0 (by omega)))
          · refine rr_iconst F dX7_error_90 ?_
            refine lv_goto (tgt := 95) F.1 F.2.1 dX7_error_91 (by decide) ?_
            exact rr_iret F hr hlocks dX7_error_95 (by first | exact ferr_hit k0 (by omega) (fun h => by have h1 := h.1; have h2 := h.2; omega) kq | exact ferr_0 (by omega) | exact ferr_miss (by omega) (fun j x y => kq j x (by omega)) | (rw [show k = 0 by omega]; exact ferr_0 (by omega)))
      · refine lv_aload_n F.1 F.2.1 dX7_error_27 rfl (lv_at hl 2 rfl) ?_
        refine gf7_7 F hK hP 0 rfl tw881 dX7_error_28 ?_
        refine lv_iload_n F.1 F.2.1 dX7_error_31 rfl (lv_at hl 1 rfl) ?_
        refine rr_cald F hK hP 1 rfl (by omega) (by omega) (by decide) dX7_error_32 ?_
        have hc := ht1 k k0 (by omega)
        refine rr_bipush F dX7_error_33 (by decide) ?_
        refine rr_bipush F dX7_error_35 (by decide) ?_
        refine rr_rdS (rest := []) F hK (c_X7_in l D cy (tc k) 97 104 (by first | assumption | omega | exact ⟨by omega, by omega⟩) (by first | assumption | omega | exact ⟨by omega, by omega⟩) (by first | assumption | omega | exact ⟨by omega, by omega⟩)) (hP.sub [] rfl) sf_X7_in tw921 ⟨Nat.le_of_ble_eq_true rfl, Nat.le_of_ble_eq_true rfl⟩ hl rfl (Nat.le_of_ble_eq_true rfl) dX7_error_37 ⟨Nat.zero_le _, Nat.zero_le _⟩ ?_
        refine rr_ifP_ne F (tgt := 69) dX7_error_40 (by decide) (fun c_40 => ?_) (fun c_40 => ?_)
        · refine lv_iinc (v := iI (k + 1)) (lv' := [(2, vI (k + 1)), (3, vI (if fb = 0 then 24 else 6)), (0, .ref mo), (1, vI fb)]) F.1 F.2.1 dX7_error_69 hl (k := 1) rfl (iinc_ok (by first | rfl | omega)) (by decide) rfl (fun ls hl => ?_)
          refine lv_goto (tgt := 14) F.1 F.2.1 dX7_error_72 (by decide) ?_
          exact ih_14 (k + 1) ⟨by omega, by omega, fun j x y => (if hj : j = k then by subst hj; exact ⟨c_24, by omega⟩ else kq j x (by omega))⟩ (show ((41 - (k + 1)).toNat) < ((41 - k).toNat) by omega) ls (lv_sub hl [1, 0, 2, 3] rfl)
        · refine lv_iload_n F.1 F.2.1 dX7_error_43 rfl (lv_at hl 3 rfl) ?_
          refine rr_if_ne F (tgt := 75) dX7_error_44 (by decide) ⟨by omega, by omega⟩ (fun c_44 => ?_) (fun c_44 => ?_)
          · refine lv_iload_n F.1 F.2.1 dX7_error_75 rfl (lv_at hl 1 rfl) ?_
            refine lv_aload_n F.1 F.2.1 dX7_error_76 rfl (lv_at hl 2 rfl) ?_
            refine gf7_8 F hK hP 0 rfl tw882 dX7_error_77 ?_
            refine rr_icmp_ne F (tgt := 94) dX7_error_80 (by decide) ⟨by omega, by omega⟩ ⟨by omega, by omega⟩ (fun c_80 => ?_) (fun c_80 => ?_)
            · refine lv_iload_n F.1 F.2.1 dX7_error_94 rfl (lv_at hl 1 rfl) ?_
              exact rr_iret F hr hlocks dX7_error_95 (by first | exact ferr_hit k0 (by omega) (fun h => by have h1 := h.1; have h2 := h.2; omega) kq | exact ferr_0 (by omega) | exact ferr_miss (by omega) (fun j x y => kq j x (by omega)) | (rw [show k = 0 by omega]; exact ferr_0 (by omega)))
            · refine lv_aload_n F.1 F.2.1 dX7_error_83 rfl (lv_at hl 2 rfl) ?_
              refine gf7_8 F hK hP 0 rfl tw882 dX7_error_84 ?_
              refine rr_if_le F (tgt := 94) dX7_error_87 (by decide) ⟨by omega, by omega⟩ (fun c_87 => ?_) (fun c_87 => ?_)
              · refine lv_iload_n F.1 F.2.1 dX7_error_94 rfl (lv_at hl 1 rfl) ?_
                exact rr_iret F hr hlocks dX7_error_95 (by first | exact ferr_hit k0 (by omega) (fun h => by have h1 := h.1; have h2 := h.2; omega) kq | exact ferr_0 (by omega) | exact ferr_miss (by omega) (fun j x y => kq j x (by omega)) | (rw [show k = 0 by omega]; exact ferr_0 (by omega)))
              · refine rr_iconst F dX7_error_90 ?_
                refine lv_goto (tgt := 95) F.1 F.2.1 dX7_error_91 (by decide) ?_
                exact rr_iret F hr hlocks dX7_error_95 (by first | exact ferr_hit k0 (by omega) (fun h => by have h1 := h.1; have h2 := h.2; omega) kq | exact ferr_0 (by omega) | exact ferr_miss (by omega) (fun j x y => kq j x (by omega)) | (rw [show k = 0 by omega]; exact ferr_0 (by omega)))
          · refine lv_aload_n F.1 F.2.1 dX7_error_47 rfl (lv_at hl 2 rfl) ?_
            refine gf7_7 F hK hP 0 rfl tw881 dX7_error_48 ?_
            refine lv_iload_n F.1 F.2.1 dX7_error_51 rfl (lv_at hl 1 rfl) ?_
            refine rr_cald F hK hP 1 rfl (by omega) (by omega) (by decide) dX7_error_52 ?_
            have hc := ht1 k k0 (by omega)
            refine rr_bipush F dX7_error_53 (by decide) ?_
            refine rr_icmp_eq F (tgt := 69) dX7_error_55 (by decide) ⟨by omega, by omega⟩ ⟨by omega, by omega⟩ (fun c_55 => ?_) (fun c_55 => ?_)
            · refine lv_iinc (v := iI (k + 1)) (lv' := [(2, vI (k + 1)), (3, vI (if fb = 0 then 24 else 6)), (0, .ref mo), (1, vI fb)]) F.1 F.2.1 dX7_error_69 hl (k := 1) rfl (iinc_ok (by first | rfl | omega)) (by decide) rfl (fun ls hl => ?_)
              refine lv_goto (tgt := 14) F.1 F.2.1 dX7_error_72 (by decide) ?_
              exact ih_14 (k + 1) ⟨by omega, by omega, fun j x y => (if hj : j = k then by subst hj; exact ⟨c_24, by omega⟩ else kq j x (by omega))⟩ (show ((41 - (k + 1)).toNat) < ((41 - k).toNat) by omega) ls (lv_sub hl [1, 0, 2, 3] rfl)
            · refine lv_aload_n F.1 F.2.1 dX7_error_58 rfl (lv_at hl 2 rfl) ?_
              refine gf7_7 F hK hP 0 rfl tw881 dX7_error_59 ?_
              refine lv_iload_n F.1 F.2.1 dX7_error_62 rfl (lv_at hl 1 rfl) ?_
              refine rr_cald F hK hP 1 rfl (by omega) (by omega) (by decide) dX7_error_63 ?_
              have hc := ht1 k k0 (by omega)
              refine rr_bipush F dX7_error_64 (by decide) ?_
              refine rr_icmp_ne F (tgt := 75) dX7_error_66 (by decide) ⟨by omega, by omega⟩ ⟨by omega, by omega⟩ (fun c_66 => ?_) (fun c_66 => ?_)
              · refine lv_iload_n F.1 F.2.1 dX7_error_75 rfl (lv_at hl 1 rfl) ?_
                refine lv_aload_n F.1 F.2.1 dX7_error_76 rfl (lv_at hl 2 rfl) ?_
                refine gf7_8 F hK hP 0 rfl tw882 dX7_error_77 ?_
                refine rr_icmp_ne F (tgt := 94) dX7_error_80 (by decide) ⟨by omega, by omega⟩ ⟨by omega, by omega⟩ (fun c_80 => ?_) (fun c_80 => ?_)
                · refine lv_iload_n F.1 F.2.1 dX7_error_94 rfl (lv_at hl 1 rfl) ?_
                  exact rr_iret F hr hlocks dX7_error_95 (by first | exact ferr_hit k0 (by omega) (fun h => by have h1 := h.1; have h2 := h.2; omega) kq | exact ferr_0 (by omega) | exact ferr_miss (by omega) (fun j x y => kq j x (by omega)) | (rw [show k = 0 by omega]; exact ferr_0 (by omega)))
                · refine lv_aload_n F.1 F.2.1 dX7_error_83 rfl (lv_at hl 2 rfl) ?_
                  refine gf7_8 F hK hP 0 rfl tw882 dX7_error_84 ?_
                  refine rr_if_le F (tgt := 94) dX7_error_87 (by decide) ⟨by omega, by omega⟩ (fun c_87 => ?_) (fun c_87 => ?_)
                  · refine lv_iload_n F.1 F.2.1 dX7_error_94 rfl (lv_at hl 1 rfl) ?_
                    exact rr_iret F hr hlocks dX7_error_95 (by first | exact ferr_hit k0 (by omega) (fun h => by have h1 := h.1; have h2 := h.2; omega) kq | exact ferr_0 (by omega) | exact ferr_miss (by omega) (fun j x y => kq j x (by omega)) | (rw [show k = 0 by omega]; exact ferr_0 (by omega)))
                  · refine rr_iconst F dX7_error_90 ?_
                    refine lv_goto (tgt := 95) F.1 F.2.1 dX7_error_91 (by decide) ?_
                    exact rr_iret F hr hlocks dX7_error_95 (by first | exact ferr_hit k0 (by omega) (fun h => by have h1 := h.1; have h2 := h.2; omega) kq | exact ferr_0 (by omega) | exact ferr_miss (by omega) (fun j x y => kq j x (by omega)) | (rw [show k = 0 by omega]; exact ferr_0 (by omega)))
              · refine lv_iinc (v := iI (k + 1)) (lv' := [(2, vI (k + 1)), (3, vI (if fb = 0 then 24 else 6)), (0, .ref mo), (1, vI fb)]) F.1 F.2.1 dX7_error_69 hl (k := 1) rfl (iinc_ok (by first | rfl | omega)) (by decide) rfl (fun ls hl => ?_)
                refine lv_goto (tgt := 14) F.1 F.2.1 dX7_error_72 (by decide) ?_
                exact ih_14 (k + 1) ⟨by omega, by omega, fun j x y => (if hj : j = k then by subst hj; exact ⟨c_24, by omega⟩ else kq j x (by omega))⟩ (show ((41 - (k + 1)).toNat) < ((41 - k).toNat) by omega) ls (lv_sub hl [1, 0, 2, 3] rfl)
  · refine rr_bipush F dX7_error_6 (by decide) ?_
    refine lv_goto (tgt := 13) F.1 F.2.1 dX7_error_8 (by decide) ?_
    refine lv_istore_n (lv' := [(3, vI 6), (2, vI 0), (0, .ref mo), (1, vI fb)]) F.1 F.2.1 dX7_error_13 rfl hl (by decide) rfl (fun ls hl => ?_)
    refine rr_loop1 (fun k => (0 ≤ k) ∧ (k ≤ ty) ∧ (∀ j, 0 ≤ j → j < k → ferok tc fb j)) (fun k => (41 - k).toNat) (fun k => [(3, vI (if fb = 0 then 24 else 6)), (2, vI k), (0, .ref mo), (1, vI fb)]) ?_ 0 ⟨by omega, by omega, fun j x y => by omega⟩ (lv_cv (lv_sub hl [0, 1, 2, 3] rfl) (by rw [← show (6 : Int) = if fb = 0 then 24 else 6 from by split <;> omega]; rfl))
    intro k hI ih_14 ls hl
    obtain ⟨k0, k1, kq⟩ := hI
    have hl : lv_has ls 4 [(3, vI (if fb = 0 then 24 else 6)), (2, vI k), (0, .ref mo), (1, vI fb)] := hl
    refine lv_iload_n F.1 F.2.1 dX7_error_14 rfl (lv_at hl 1 rfl) ?_
    refine lv_aload_n F.1 F.2.1 dX7_error_15 rfl (lv_at hl 2 rfl) ?_
    refine gf7_8 F hK hP 0 rfl tw882 dX7_error_16 ?_
    refine rr_icmp_ge F (tgt := 75) dX7_error_19 (by decide) ⟨by omega, by omega⟩ ⟨by omega, by omega⟩ (fun c_19 => ?_) (fun c_19 => ?_)
    · refine lv_iload_n F.1 F.2.1 dX7_error_75 rfl (lv_at hl 1 rfl) ?_
      refine lv_aload_n F.1 F.2.1 dX7_error_76 rfl (lv_at hl 2 rfl) ?_
      refine gf7_8 F hK hP 0 rfl tw882 dX7_error_77 ?_
      refine rr_icmp_ne F (tgt := 94) dX7_error_80 (by decide) ⟨by omega, by omega⟩ ⟨by omega, by omega⟩ (fun c_80 => ?_) (fun c_80 => ?_)
      · refine lv_iload_n F.1 F.2.1 dX7_error_94 rfl (lv_at hl 1 rfl) ?_
        exact rr_iret F hr hlocks dX7_error_95 (by first | exact ferr_hit k0 (by omega) (fun h => by have h1 := h.1; have h2 := h.2; omega) kq | exact ferr_0 (by omega) | exact ferr_miss (by omega) (fun j x y => kq j x (by omega)) | (rw [show k = 0 by omega]; exact ferr_0 (by omega)))
      · refine lv_aload_n F.1 F.2.1 dX7_error_83 rfl (lv_at hl 2 rfl) ?_
        refine gf7_8 F hK hP 0 rfl tw882 dX7_error_84 ?_
        refine rr_if_le F (tgt := 94) dX7_error_87 (by decide) ⟨by omega, by omega⟩ (fun c_87 => ?_) (fun c_87 => ?_)
        · refine lv_iload_n F.1 F.2.1 dX7_error_94 rfl (lv_at hl 1 rfl) ?_
          exact rr_iret F hr hlocks dX7_error_95 (by first | exact ferr_hit k0 (by omega) (fun h => by have h1 := h.1; have h2 := h.2; omega) kq | exact ferr_0 (by omega) | exact ferr_miss (by omega) (fun j x y => kq j x (by omega)) | (rw [show k = 0 by omega]; exact ferr_0 (by omega)))
        · refine rr_iconst F dX7_error_90 ?_
          refine lv_goto (tgt := 95) F.1 F.2.1 dX7_error_91 (by decide) ?_
          exact rr_iret F hr hlocks dX7_error_95 (by first | exact ferr_hit k0 (by omega) (fun h => by have h1 := h.1; have h2 := h.2; omega) kq | exact ferr_0 (by omega) | exact ferr_miss (by omega) (fun j x y => kq j x (by omega)) | (rw [show k = 0 by omega]; exact ferr_0 (by omega)))
    · refine lv_iload_n F.1 F.2.1 dX7_error_22 rfl (lv_at hl 1 rfl) ?_
      refine lv_iload_n F.1 F.2.1 dX7_error_23 rfl (lv_at hl 0 rfl) ?_
      refine rr_icmp_ge F (tgt := 75) dX7_error_24 (by decide) ⟨by omega, by omega⟩ (by split <;> exact ⟨by omega, by omega⟩) (fun c_24 => ?_) (fun c_24 => ?_)
      · refine lv_iload_n F.1 F.2.1 dX7_error_75 rfl (lv_at hl 1 rfl) ?_
        refine lv_aload_n F.1 F.2.1 dX7_error_76 rfl (lv_at hl 2 rfl) ?_
        refine gf7_8 F hK hP 0 rfl tw882 dX7_error_77 ?_
        refine rr_icmp_ne F (tgt := 94) dX7_error_80 (by decide) ⟨by omega, by omega⟩ ⟨by omega, by omega⟩ (fun c_80 => ?_) (fun c_80 => ?_)
        · refine lv_iload_n F.1 F.2.1 dX7_error_94 rfl (lv_at hl 1 rfl) ?_
          exact rr_iret F hr hlocks dX7_error_95 (by first | exact ferr_hit k0 (by omega) (fun h => by have h1 := h.1; have h2 := h.2; omega) kq | exact ferr_0 (by omega) | exact ferr_miss (by omega) (fun j x y => kq j x (by omega)) | (rw [show k = 0 by omega]; exact ferr_0 (by omega)))
        · refine lv_aload_n F.1 F.2.1 dX7_error_83 rfl (lv_at hl 2 rfl) ?_
          refine gf7_8 F hK hP 0 rfl tw882 dX7_error_84 ?_
          refine rr_if_le F (tgt := 94) dX7_error_87 (by decide) ⟨by omega, by omega⟩ (fun c_87 => ?_) (fun c_87 => ?_)
          · refine lv_iload_n F.1 F.2.1 dX7_error_94 rfl (lv_at hl 1 rfl) ?_
            exact rr_iret F hr hlocks dX7_error_95 (by first | exact ferr_hit k0 (by omega) (fun h => by have h1 := h.1; have h2 := h.2; omega) kq | exact ferr_0 (by omega) | exact ferr_miss (by omega) (fun j x y => kq j x (by omega)) | (rw [show k = 0 by omega]; exact ferr_0 (by omega)))
          · refine rr_iconst F dX7_error_90 ?_
            refine lv_goto (tgt := 95) F.1 F.2.1 dX7_error_91 (by decide) ?_
            exact rr_iret F hr hlocks dX7_error_95 (by first | exact ferr_hit k0 (by omega) (fun h => by have h1 := h.1; have h2 := h.2; omega) kq | exact ferr_0 (by omega) | exact ferr_miss (by omega) (fun j x y => kq j x (by omega)) | (rw [show k = 0 by omega]; exact ferr_0 (by omega)))
      · refine lv_aload_n F.1 F.2.1 dX7_error_27 rfl (lv_at hl 2 rfl) ?_
        refine gf7_7 F hK hP 0 rfl tw881 dX7_error_28 ?_
        refine lv_iload_n F.1 F.2.1 dX7_error_31 rfl (lv_at hl 1 rfl) ?_
        refine rr_cald F hK hP 1 rfl (by omega) (by omega) (by decide) dX7_error_32 ?_
        have hc := ht1 k k0 (by omega)
        refine rr_bipush F dX7_error_33 (by decide) ?_
        refine rr_bipush F dX7_error_35 (by decide) ?_
        refine rr_rdS (rest := []) F hK (c_X7_in l D cy (tc k) 97 104 (by first | assumption | omega | exact ⟨by omega, by omega⟩) (by first | assumption | omega | exact ⟨by omega, by omega⟩) (by first | assumption | omega | exact ⟨by omega, by omega⟩)) (hP.sub [] rfl) sf_X7_in tw921 ⟨Nat.le_of_ble_eq_true rfl, Nat.le_of_ble_eq_true rfl⟩ hl rfl (Nat.le_of_ble_eq_true rfl) dX7_error_37 ⟨Nat.zero_le _, Nat.zero_le _⟩ ?_
        refine rr_ifP_ne F (tgt := 69) dX7_error_40 (by decide) (fun c_40 => ?_) (fun c_40 => ?_)
        · refine lv_iinc (v := iI (k + 1)) (lv' := [(2, vI (k + 1)), (3, vI (if fb = 0 then 24 else 6)), (0, .ref mo), (1, vI fb)]) F.1 F.2.1 dX7_error_69 hl (k := 1) rfl (iinc_ok (by first | rfl | omega)) (by decide) rfl (fun ls hl => ?_)
          refine lv_goto (tgt := 14) F.1 F.2.1 dX7_error_72 (by decide) ?_
          exact ih_14 (k + 1) ⟨by omega, by omega, fun j x y => (if hj : j = k then by subst hj; exact ⟨c_24, by omega⟩ else kq j x (by omega))⟩ (show ((41 - (k + 1)).toNat) < ((41 - k).toNat) by omega) ls (lv_sub hl [1, 0, 2, 3] rfl)
        · refine lv_iload_n F.1 F.2.1 dX7_error_43 rfl (lv_at hl 3 rfl) ?_
          refine rr_if_ne F (tgt := 75) dX7_error_44 (by decide) ⟨by omega, by omega⟩ (fun c_44 => ?_) (fun c_44 => ?_)
          · refine lv_iload_n F.1 F.2.1 dX7_error_75 rfl (lv_at hl 1 rfl) ?_
            refine lv_aload_n F.1 F.2.1 dX7_error_76 rfl (lv_at hl 2 rfl) ?_
            refine gf7_8 F hK hP 0 rfl tw882 dX7_error_77 ?_
            refine rr_icmp_ne F (tgt := 94) dX7_error_80 (by decide) ⟨by omega, by omega⟩ ⟨by omega, by omega⟩ (fun c_80 => ?_) (fun c_80 => ?_)
            · refine lv_iload_n F.1 F.2.1 dX7_error_94 rfl (lv_at hl 1 rfl) ?_
              exact rr_iret F hr hlocks dX7_error_95 (by first | exact ferr_hit k0 (by omega) (fun h => by have h1 := h.1; have h2 := h.2; omega) kq | exact ferr_0 (by omega) | exact ferr_miss (by omega) (fun j x y => kq j x (by omega)) | (rw [show k = 0 by omega]; exact ferr_0 (by omega)))
            · refine lv_aload_n F.1 F.2.1 dX7_error_83 rfl (lv_at hl 2 rfl) ?_
              refine gf7_8 F hK hP 0 rfl tw882 dX7_error_84 ?_
              refine rr_if_le F (tgt := 94) dX7_error_87 (by decide) ⟨by omega, by omega⟩ (fun c_87 => ?_) (fun c_87 => ?_)
              · refine lv_iload_n F.1 F.2.1 dX7_error_94 rfl (lv_at hl 1 rfl) ?_
                exact rr_iret F hr hlocks dX7_error_95 (by first | exact ferr_hit k0 (by omega) (fun h => by have h1 := h.1; have h2 := h.2; omega) kq | exact ferr_0 (by omega) | exact ferr_miss (by omega) (fun j x y => kq j x (by omega)) | (rw [show k = 0 by omega]; exact ferr_0 (by omega)))
              · refine rr_iconst F dX7_error_90 ?_
                refine lv_goto (tgt := 95) F.1 F.2.1 dX7_error_91 (by decide) ?_
                exact rr_iret F hr hlocks dX7_error_95 (by first | exact ferr_hit k0 (by omega) (fun h => by have h1 := h.1; have h2 := h.2; omega) kq | exact ferr_0 (by omega) | exact ferr_miss (by omega) (fun j x y => kq j x (by omega)) | (rw [show k = 0 by omega]; exact ferr_0 (by omega)))
          · refine lv_aload_n F.1 F.2.1 dX7_error_47 rfl (lv_at hl 2 rfl) ?_
            refine gf7_7 F hK hP 0 rfl tw881 dX7_error_48 ?_
            refine lv_iload_n F.1 F.2.1 dX7_error_51 rfl (lv_at hl 1 rfl) ?_
            refine rr_cald F hK hP 1 rfl (by omega) (by omega) (by decide) dX7_error_52 ?_
            have hc := ht1 k k0 (by omega)
            refine rr_bipush F dX7_error_53 (by decide) ?_
            refine rr_icmp_eq F (tgt := 69) dX7_error_55 (by decide) ⟨by omega, by omega⟩ ⟨by omega, by omega⟩ (fun c_55 => ?_) (fun c_55 => ?_)
            · refine lv_iinc (v := iI (k + 1)) (lv' := [(2, vI (k + 1)), (3, vI (if fb = 0 then 24 else 6)), (0, .ref mo), (1, vI fb)]) F.1 F.2.1 dX7_error_69 hl (k := 1) rfl (iinc_ok (by first | rfl | omega)) (by decide) rfl (fun ls hl => ?_)
              refine lv_goto (tgt := 14) F.1 F.2.1 dX7_error_72 (by decide) ?_
              exact ih_14 (k + 1) ⟨by omega, by omega, fun j x y => (if hj : j = k then by subst hj; exact ⟨c_24, by omega⟩ else kq j x (by omega))⟩ (show ((41 - (k + 1)).toNat) < ((41 - k).toNat) by omega) ls (lv_sub hl [1, 0, 2, 3] rfl)
            · refine lv_aload_n F.1 F.2.1 dX7_error_58 rfl (lv_at hl 2 rfl) ?_
              refine gf7_7 F hK hP 0 rfl tw881 dX7_error_59 ?_
              refine lv_iload_n F.1 F.2.1 dX7_error_62 rfl (lv_at hl 1 rfl) ?_
              refine rr_cald F hK hP 1 rfl (by omega) (by omega) (by decide) dX7_error_63 ?_
              have hc := ht1 k k0 (by omega)
              refine rr_bipush F dX7_error_64 (by decide) ?_
              refine rr_icmp_ne F (tgt := 75) dX7_error_66 (by decide) ⟨by omega, by omega⟩ ⟨by omega, by omega⟩ (fun c_66 => ?_) (fun c_66 => ?_)
              · refine lv_iload_n F.1 F.2.1 dX7_error_75 rfl (lv_at hl 1 rfl) ?_
                refine lv_aload_n F.1 F.2.1 dX7_error_76 rfl (lv_at hl 2 rfl) ?_
                refine gf7_8 F hK hP 0 rfl tw882 dX7_error_77 ?_
                refine rr_icmp_ne F (tgt := 94) dX7_error_80 (by decide) ⟨by omega, by omega⟩ ⟨by omega, by omega⟩ (fun c_80 => ?_) (fun c_80 => ?_)
                · refine lv_iload_n F.1 F.2.1 dX7_error_94 rfl (lv_at hl 1 rfl) ?_
                  exact rr_iret F hr hlocks dX7_error_95 (by first | exact ferr_hit k0 (by omega) (fun h => by have h1 := h.1; have h2 := h.2; omega) kq | exact ferr_0 (by omega) | exact ferr_miss (by omega) (fun j x y => kq j x (by omega)) | (rw [show k = 0 by omega]; exact ferr_0 (by omega)))
                · refine lv_aload_n F.1 F.2.1 dX7_error_83 rfl (lv_at hl 2 rfl) ?_
                  refine gf7_8 F hK hP 0 rfl tw882 dX7_error_84 ?_
                  refine rr_if_le F (tgt := 94) dX7_error_87 (by decide) ⟨by omega, by omega⟩ (fun c_87 => ?_) (fun c_87 => ?_)
                  · refine lv_iload_n F.1 F.2.1 dX7_error_94 rfl (lv_at hl 1 rfl) ?_
                    exact rr_iret F hr hlocks dX7_error_95 (by first | exact ferr_hit k0 (by omega) (fun h => by have h1 := h.1; have h2 := h.2; omega) kq | exact ferr_0 (by omega) | exact ferr_miss (by omega) (fun j x y => kq j x (by omega)) | (rw [show k = 0 by omega]; exact ferr_0 (by omega)))
                  · refine rr_iconst F dX7_error_90 ?_
                    refine lv_goto (tgt := 95) F.1 F.2.1 dX7_error_91 (by decide) ?_
                    exact rr_iret F hr hlocks dX7_error_95 (by first | exact ferr_hit k0 (by omega) (fun h => by have h1 := h.1; have h2 := h.2; omega) kq | exact ferr_0 (by omega) | exact ferr_miss (by omega) (fun j x y => kq j x (by omega)) | (rw [show k = 0 by omega]; exact ferr_0 (by omega)))
              · refine lv_iinc (v := iI (k + 1)) (lv' := [(2, vI (k + 1)), (3, vI (if fb = 0 then 24 else 6)), (0, .ref mo), (1, vI fb)]) F.1 F.2.1 dX7_error_69 hl (k := 1) rfl (iinc_ok (by first | rfl | omega)) (by decide) rfl (fun ls hl => ?_)
                refine lv_goto (tgt := 14) F.1 F.2.1 dX7_error_72 (by decide) ?_
                exact ih_14 (k + 1) ⟨by omega, by omega, fun j x y => (if hj : j = k then by subst hj; exact ⟨c_24, by omega⟩ else kq j x (by omega))⟩ (show ((41 - (k + 1)).toNat) < ((41 - k).toNat) by omega) ls (lv_sub hl [1, 0, 2, 3] rfl)
set_option maxRecDepth 100000 in
set_option maxHeartbeats 4000000 in
theorem c_X7_wornReadings (l : Launch) (D : va_G) (cy : Nat → ClassId) (mo no th pa sl sv tx : Nat) (tr ss ty : Int) (a a2 : Int → Int) (i0 d : Int) (hM : MR a) (hi : 0 ≤ i0 ∧ i0 < a 0) (hd : 0 ≤ d ∧ d ≤ 1) : Wr l yX7_wornReadings cX7_wornReadings 4 (some FieldType.int) 5 [.ref mo, vI i0, vI d] D cy [(mo, .inr (7, [vI tr, .ref no, .ref th, .ref pa, vI ss, .ref sl, .ref sv, .ref tx, vI ty])), (no, .inl (cy 1, 118, .inl (iA a))), (th, .inl (cy 1, 118, .inl (iA a2)))] [(mo, .inr (7, [vI tr, .ref no, .ref th, .ref pa, vI ss, .ref sl, .ref sv, .ref tx, vI ty])), (no, .inl (cy 1, 118, .inl (iA a))), (th, .inl (cy 1, 118, .inl (iA (updZ a (1 + i0) (if a (1 + i0) = 0 then 0 else 9)))))] (some (vI (rdg ((updZ a (1 + i0) (if a (1 + i0) = 0 then 0 else 9)) 0) (rq (updZ a (1 + i0) (if a (1 + i0) = 0 then 0 else 9))) ((updZ a (1 + i0) (if a (1 + i0) = 0 then 0 else 9)) 25) (rbl (updZ a (1 + i0) (if a (1 + i0) = 0 then 0 else 9))) (rbc (updZ a (1 + i0) (if a (1 + i0) = 0 then 0 else 9))) d))) := by
  refine Wr.of RX7 rfl [(0, .ref mo), (1, vI i0), (2, vI d)] rfl (by decide +kernel) (Nat.le_of_ble_eq_true rfl) ?_
  intro p e s m args below meth c F hr hlocks hK hP hD hS hA ls hl
  have hn0 := hM.n
  have hw0 := hM.nw
  have hc0 := hM.wc
  have hM2 := MR_wear hM hi.1 hi.2
  refine lv_aload_n F.1 F.2.1 dX7_wornReadings_0 rfl (lv_at hl 0 rfl) ?_
  refine gf7_1 F hK hP 0 rfl tw875 dX7_wornReadings_1 ?_
  refine rr_iconst F dX7_wornReadings_4 ?_
  refine lv_aload_n F.1 F.2.1 dX7_wornReadings_5 rfl (lv_at hl 0 rfl) ?_
  refine gf7_2 F hK hP 0 rfl tw876 dX7_wornReadings_6 ?_
  refine rr_iconst F dX7_wornReadings_9 ?_
  refine rr_wrS (rest := []) (wr := [(mo, .inr (7, [vI tr, .ref no, .ref th, .ref pa, vI ss, .ref sl, .ref sv, .ref tx, vI ty]))]) (ws2 := [(mo, .inr (7, [vI tr, .ref no, .ref th, .ref pa, vI ss, .ref sl, .ref sv, .ref tx, vI ty])), (no, .inl (cy 1, 118, .inl (iA a))), (th, .inl (cy 1, 118, .inl (iA (cpZ a a2 0 0 118))))]) F hK (c_X7_lays l D cy no th 118 118 a a2 0 0 (by first | assumption | omega | exact ⟨by omega, by omega⟩) (by first | assumption | omega | exact ⟨by omega, by omega⟩) (by first | assumption | omega | exact ⟨by omega, by omega⟩) (by first | assumption | omega | exact ⟨by omega, by omega⟩)) hP hD hS hA sf_X7_lays tw914 ⟨Nat.le_of_ble_eq_true rfl, Nat.le_of_ble_eq_true rfl⟩ hl rfl (Nat.le_of_ble_eq_true rfl) dX7_wornReadings_10 ⟨Nat.zero_le _, Nat.zero_le _⟩ [1, 2] [0] [0, 1, 2] rfl rfl (by decide) (by decide) (by decide) rfl rfl (by decide) (fun H locs hP hD hS => ?_)
  have hP : va_P D vwCl [(mo, .inr (7, [vI tr, .ref no, .ref th, .ref pa, vI ss, .ref sl, .ref sv, .ref tx, vI ty])), (no, .inl (cy 1, 118, .inl (iA a))), (th, .inl (cy 1, 118, .inl (iA (cpZ a a2 0 0 118))))] H := hP
  have hD : va_D _ [(mo, .inr (7, [vI tr, .ref no, .ref th, .ref pa, vI ss, .ref sl, .ref sv, .ref tx, vI ty])), (no, .inl (cy 1, 118, .inl (iA a))), (th, .inl (cy 1, 118, .inl (iA (cpZ a a2 0 0 118))))] := hD
  have hP : va_P D vwCl [(mo, .inr (7, [vI tr, .ref no, .ref th, .ref pa, vI ss, .ref sl, .ref sv, .ref tx, vI ty])), (no, .inl (cy 1, 118, .inl (iA a))), (th, .inl (cy 1, 118, .inl (iA a)))] H := va_P_row (ws := [(mo, .inr (7, [vI tr, .ref no, .ref th, .ref pa, vI ss, .ref sl, .ref sv, .ref tx, vI ty])), (no, .inl (cy 1, 118, .inl (iA a))), (th, .inl (cy 1, 118, .inl (iA (cpZ a a2 0 0 118))))]) (q1 := 2) (f := (cpZ a a2 0 0 118)) (g := a) (fun j h0 h1 => cpZ_full j h0 (by omega)) hP
  have hD : va_D _ [(mo, .inr (7, [vI tr, .ref no, .ref th, .ref pa, vI ss, .ref sl, .ref sv, .ref tx, vI ty])), (no, .inl (cy 1, 118, .inl (iA a))), (th, .inl (cy 1, 118, .inl (iA a)))] := va_D_row (ws := [(mo, .inr (7, [vI tr, .ref no, .ref th, .ref pa, vI ss, .ref sl, .ref sv, .ref tx, vI ty])), (no, .inl (cy 1, 118, .inl (iA a))), (th, .inl (cy 1, 118, .inl (iA (cpZ a a2 0 0 118))))]) (q1 := 2) (x := (th, .inl (cy 1, 118, .inl (iA (cpZ a a2 0 0 118)))).2) hD
  refine lv_aload_n F.1 F.2.1 dX7_wornReadings_13 rfl (lv_at hl 0 rfl) ?_
  refine gf7_2 F hK hP 0 rfl tw876 dX7_wornReadings_14 ?_
  refine lv_iload_n F.1 F.2.1 dX7_wornReadings_17 rfl (lv_at hl 1 rfl) ?_
  refine rr_wrS (rest := []) (wr := [(mo, .inr (7, [vI tr, .ref no, .ref th, .ref pa, vI ss, .ref sl, .ref sv, .ref tx, vI ty])), (no, .inl (cy 1, 118, .inl (iA a)))]) (ws2 := [(mo, .inr (7, [vI tr, .ref no, .ref th, .ref pa, vI ss, .ref sl, .ref sv, .ref tx, vI ty])), (no, .inl (cy 1, 118, .inl (iA a))), (th, .inl (cy 1, 118, .inl (iA (updZ a (1 + i0) (if a (1 + i0) = 0 then 0 else 9)))))]) F hK (c_X7_wears l D cy th a i0 (by first | assumption | omega | exact ⟨by omega, by omega⟩) (by first | assumption | omega | exact ⟨by omega, by omega⟩)) hP hD hS hA sf_X7_wears tw1125 ⟨Nat.le_of_ble_eq_true rfl, Nat.le_of_ble_eq_true rfl⟩ hl rfl (Nat.le_of_ble_eq_true rfl) dX7_wornReadings_18 ⟨Nat.zero_le _, Nat.zero_le _⟩ [2] [0, 1] [0, 1, 2] rfl rfl (by decide) (by decide) (by decide) rfl rfl (by decide) (fun H locs hP hD hS => ?_)
  have hP : va_P D vwCl [(mo, .inr (7, [vI tr, .ref no, .ref th, .ref pa, vI ss, .ref sl, .ref sv, .ref tx, vI ty])), (no, .inl (cy 1, 118, .inl (iA a))), (th, .inl (cy 1, 118, .inl (iA (updZ a (1 + i0) (if a (1 + i0) = 0 then 0 else 9)))))] H := hP
  have hD : va_D _ [(mo, .inr (7, [vI tr, .ref no, .ref th, .ref pa, vI ss, .ref sl, .ref sv, .ref tx, vI ty])), (no, .inl (cy 1, 118, .inl (iA a))), (th, .inl (cy 1, 118, .inl (iA (updZ a (1 + i0) (if a (1 + i0) = 0 then 0 else 9)))))] := hD
  refine lv_istore_n (lv' := [(3, vI (cnt (fun u_j => (updZ a (1 + i0) (if a (1 + i0) = 0 then 0 else 9)) (1 + u_j) = 9) (a 0))), (0, .ref mo), (1, vI i0), (2, vI d)]) F.1 F.2.1 dX7_wornReadings_21 rfl hl (by decide) rfl (fun ls hl => ?_)
  refine lv_iload_n F.1 F.2.1 dX7_wornReadings_22 rfl (lv_at hl 0 rfl) ?_
  refine rr_if_ge F (tgt := 30) dX7_wornReadings_23 (by decide) (by have := cnt_rng (fun j => (updZ a (1 + i0) (if a (1 + i0) = 0 then 0 else 9)) (1 + j) = 9) (n := a 0) (by omega); exact ⟨by omega, by omega⟩) (fun c_23 => ?_) (fun c_23 => ?_)
  · refine lv_aload_n F.1 F.2.1 dX7_wornReadings_30 rfl (lv_at hl 1 rfl) ?_
    refine gf7_2 F hK hP 0 rfl tw876 dX7_wornReadings_31 ?_
    refine lv_iload_n F.1 F.2.1 dX7_wornReadings_34 rfl (lv_at hl 3 rfl) ?_
    refine rr_rdS (rest := []) F hK (c_X7_readings l D cy th (updZ a (1 + i0) (if a (1 + i0) = 0 then 0 else 9)) d hM2 (by first | assumption | omega | exact ⟨by omega, by omega⟩)) (hP.sub [2] rfl) sf_X7_readings tw1029 ⟨Nat.le_of_ble_eq_true rfl, Nat.le_of_ble_eq_true rfl⟩ hl rfl (Nat.le_of_ble_eq_true rfl) dX7_wornReadings_35 ⟨Nat.zero_le _, Nat.zero_le _⟩ ?_
    exact rr_wiret F hr hlocks dX7_wornReadings_38 hP hS (rfl) (by first | rfl | omega)
  · exfalso; (have := cnt_rng (fun j => (updZ a (1 + i0) (if a (1 + i0) = 0 then 0 else 9)) (1 + j) = 9) (n := a 0) (by omega); omega)
