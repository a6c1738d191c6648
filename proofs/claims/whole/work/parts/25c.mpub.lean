set_option maxRecDepth 100000 in
set_option maxHeartbeats 4000000 in
theorem c_X7_segment (l : Launch) (D : va_G) (cy : Nat → ClassId) (mo no th pa sl sv tx : Nat) (tr ss ty : Int) (a : Int → Int) (d s0 x : Int) (hM : MR a) (hd : inR d) (hs : inR s0) (hx : inR x) (h1 : 0 ≤ d ∧ d ≤ 1) (h2 : 0 ≤ s0 ∧ s0 < cnt (fun p => 0 < seg (a 0) (rq a) p d) (a 0)) (h3 : 0 ≤ x ∧ x ≤ 4) : Wr l yX7_segment cX7_segment 5 (some FieldType.int) 5 [.ref mo, vI d, vI s0, vI x] D cy [(mo, .inr (7, [vI tr, .ref no, .ref th, .ref pa, vI ss, .ref sl, .ref sv, .ref tx, vI ty])), (no, .inl (cy 1, 118, .inl (iA a)))] [(mo, .inr (7, [vI 0, .ref no, .ref th, .ref pa, vI ss, .ref sl, .ref sv, .ref tx, vI ty])), (no, .inl (cy 1, 118, .inl (iA a)))] (some (vI (sgv (a 0) (rq a) (a 25) (rbl a) (rbc a) (dva (a 0) (rq a) d s0) d x))) := by
  refine Wr.of RX7 rfl [(0, .ref mo), (1, vI d), (2, vI s0), (3, vI x)] rfl (by decide +kernel) (Nat.le_of_ble_eq_true rfl) ?_
  intro p e s m args below meth c F hr hlocks hK hP hD hS hA ls hl
  have hn0 := hM.n
  have hw0 := hM.nw
  have hc0 := hM.wc
  refine lv_iload_n F.1 F.2.1 dX7_segment_0 rfl (lv_at hl 1 rfl) ?_
  refine rr_rdS (rest := []) F hK (c_X7_isWay l D cy d (by first | assumption | omega | exact ⟨by omega, by omega⟩)) (hP.sub [] rfl) sf_X7_isWay tw1004 ⟨Nat.le_of_ble_eq_true rfl, Nat.le_of_ble_eq_true rfl⟩ hl rfl (Nat.le_of_ble_eq_true rfl) dX7_segment_1 ⟨Nat.zero_le _, Nat.zero_le _⟩ ?_
  refine rr_ifP_eq F (tgt := 29) dX7_segment_4 (by decide) (fun c_4 => ?_) (fun c_4 => ?_)
  · refine rr_iconst F dX7_segment_29 ?_
    refine lv_istore (lv' := [(4, vI 0), (0, .ref mo), (1, vI d), (2, vI s0), (3, vI x)]) F.1 F.2.1 dX7_segment_30 hl (by decide) rfl (fun ls hl => ?_)
    refine lv_aload_n F.1 F.2.1 dX7_segment_32 rfl (lv_at hl 1 rfl) ?_
    refine lv_iload F.1 F.2.1 dX7_segment_33 (lv_at hl 0 rfl) ?_
    refine rr_if_ne F (tgt := 42) dX7_segment_35 (by decide) ⟨by omega, by omega⟩ (fun c_35 => ?_) (fun c_35 => ?_)
    · exfalso; omega
    · refine rr_iconst F dX7_segment_38 ?_
      refine lv_goto (tgt := 56) F.1 F.2.1 dX7_segment_39 (by decide) ?_
      refine rr_wrV (rest := []) (wr := [(no, .inl (cy 1, 118, .inl (iA a)))]) (ws2 := [(mo, .inr (7, [vI 1, .ref no, .ref th, .ref pa, vI ss, .ref sl, .ref sv, .ref tx, vI ty])), (no, .inl (cy 1, 118, .inl (iA a)))]) F hK (c_X7_refuses l D cy mo no th pa sl sv tx tr ss ty 1 (by first | assumption | omega | exact ⟨by omega, by omega⟩)) hP hD hS hA sf_X7_refuses tw910 7 rfl rfl ⟨Nat.le_of_ble_eq_true rfl, Nat.le_of_ble_eq_true rfl⟩ hl rfl (Nat.le_of_ble_eq_true rfl) dX7_segment_56 ⟨Nat.zero_le _, Nat.zero_le _⟩ [0] [1] [1, 0] rfl rfl (by decide) (by decide) (by decide) rfl rfl (by decide) (fun H locs hP hD hS => ?_)
      have hP : va_P D vwCl [(mo, .inr (7, [vI 1, .ref no, .ref th, .ref pa, vI ss, .ref sl, .ref sv, .ref tx, vI ty])), (no, .inl (cy 1, 118, .inl (iA a)))] H := hP
      have hD : va_D _ [(mo, .inr (7, [vI 1, .ref no, .ref th, .ref pa, vI ss, .ref sl, .ref sv, .ref tx, vI ty])), (no, .inl (cy 1, 118, .inl (iA a)))] := hD
      refine rr_ifP_eq F (tgt := 66) dX7_segment_59 (by decide) (fun c_59 => ?_) (fun c_59 => ?_)
      · exfalso; omega
      · exfalso; omega
  · refine lv_iload_n F.1 F.2.1 dX7_segment_7 rfl (lv_at hl 2 rfl) ?_
    refine rr_iconst F dX7_segment_8 ?_
    refine lv_aload_n F.1 F.2.1 dX7_segment_9 rfl (lv_at hl 0 rfl) ?_
    refine gf7_1 F hK hP 0 rfl tw875 dX7_segment_10 ?_
    refine lv_iload_n F.1 F.2.1 dX7_segment_13 rfl (lv_at hl 1 rfl) ?_
    refine rr_rdS (rest := [vI 0, vI s0]) F hK (c_X7_segments l D cy no a d (by first | assumption | omega | exact ⟨by omega, by omega⟩) (by first | assumption | omega | exact ⟨by omega, by omega⟩)) (hP.sub [1] rfl) sf_X7_segments tw1011 ⟨Nat.le_of_ble_eq_true rfl, Nat.le_of_ble_eq_true rfl⟩ hl rfl (Nat.le_of_ble_eq_true rfl) dX7_segment_14 ⟨Nat.zero_le _, Nat.zero_le _⟩ ?_
    have q_14_0 := (cnt_rng (fun u_p => 0 < seg (a 0) (rq a) u_p d) (n := a 0) (by omega))
    refine rr_iconst F dX7_segment_17 ?_
    refine rr_isub F (z := (cnt (fun u_p => 0 < seg (a 0) (rq a) u_p d) (a 0)) - 1) dX7_segment_18 (by first | rfl | omega) ?_
    refine rr_rdS (rest := []) F hK (c_X7_in l D cy s0 0 ((cnt (fun u_p => 0 < seg (a 0) (rq a) u_p d) (a 0)) - 1) (by first | assumption | omega | exact ⟨by omega, by omega⟩) (by first | assumption | omega | exact ⟨by omega, by omega⟩) (by first | assumption | omega | exact ⟨by omega, by omega⟩)) (hP.sub [] rfl) sf_X7_in tw921 ⟨Nat.le_of_ble_eq_true rfl, Nat.le_of_ble_eq_true rfl⟩ hl rfl (Nat.le_of_ble_eq_true rfl) dX7_segment_19 ⟨Nat.zero_le _, Nat.zero_le _⟩ ?_
    refine rr_ifP_eq F (tgt := 29) dX7_segment_22 (by decide) (fun c_22 => ?_) (fun c_22 => ?_)
    · refine rr_iconst F dX7_segment_29 ?_
      refine lv_istore (lv' := [(4, vI 0), (0, .ref mo), (1, vI d), (2, vI s0), (3, vI x)]) F.1 F.2.1 dX7_segment_30 hl (by decide) rfl (fun ls hl => ?_)
      refine lv_aload_n F.1 F.2.1 dX7_segment_32 rfl (lv_at hl 1 rfl) ?_
      refine lv_iload F.1 F.2.1 dX7_segment_33 (lv_at hl 0 rfl) ?_
      refine rr_if_ne F (tgt := 42) dX7_segment_35 (by decide) ⟨by omega, by omega⟩ (fun c_35 => ?_) (fun c_35 => ?_)
      · exfalso; omega
      · refine rr_iconst F dX7_segment_38 ?_
        refine lv_goto (tgt := 56) F.1 F.2.1 dX7_segment_39 (by decide) ?_
        refine rr_wrV (rest := []) (wr := [(no, .inl (cy 1, 118, .inl (iA a)))]) (ws2 := [(mo, .inr (7, [vI 1, .ref no, .ref th, .ref pa, vI ss, .ref sl, .ref sv, .ref tx, vI ty])), (no, .inl (cy 1, 118, .inl (iA a)))]) F hK (c_X7_refuses l D cy mo no th pa sl sv tx tr ss ty 1 (by first | assumption | omega | exact ⟨by omega, by omega⟩)) hP hD hS hA sf_X7_refuses tw910 7 rfl rfl ⟨Nat.le_of_ble_eq_true rfl, Nat.le_of_ble_eq_true rfl⟩ hl rfl (Nat.le_of_ble_eq_true rfl) dX7_segment_56 ⟨Nat.zero_le _, Nat.zero_le _⟩ [0] [1] [1, 0] rfl rfl (by decide) (by decide) (by decide) rfl rfl (by decide) (fun H locs hP hD hS => ?_)
        have hP : va_P D vwCl [(mo, .inr (7, [vI 1, .ref no, .ref th, .ref pa, vI ss, .ref sl, .ref sv, .ref tx, vI ty])), (no, .inl (cy 1, 118, .inl (iA a)))] H := hP
        have hD : va_D _ [(mo, .inr (7, [vI 1, .ref no, .ref th, .ref pa, vI ss, .ref sl, .ref sv, .ref tx, vI ty])), (no, .inl (cy 1, 118, .inl (iA a)))] := hD
        refine rr_ifP_eq F (tgt := 66) dX7_segment_59 (by decide) (fun c_59 => ?_) (fun c_59 => ?_)
        · exfalso; omega
        · exfalso; omega
    · refine rr_iconst F dX7_segment_25 ?_
      refine lv_goto (tgt := 30) F.1 F.2.1 dX7_segment_26 (by decide) ?_
      refine lv_istore (lv' := [(4, vI 1), (0, .ref mo), (1, vI d), (2, vI s0), (3, vI x)]) F.1 F.2.1 dX7_segment_30 hl (by decide) rfl (fun ls hl => ?_)
      refine lv_aload_n F.1 F.2.1 dX7_segment_32 rfl (lv_at hl 1 rfl) ?_
      refine lv_iload F.1 F.2.1 dX7_segment_33 (lv_at hl 0 rfl) ?_
      refine rr_if_ne F (tgt := 42) dX7_segment_35 (by decide) ⟨by omega, by omega⟩ (fun c_35 => ?_) (fun c_35 => ?_)
      · refine lv_iload_n F.1 F.2.1 dX7_segment_42 rfl (lv_at hl 4 rfl) ?_
        refine rr_iconst F dX7_segment_43 ?_
        refine rr_iconst F dX7_segment_44 ?_
        refine rr_rdS (rest := [.ref mo]) F hK (c_X7_in l D cy x 0 4 (by first | assumption | omega | exact ⟨by omega, by omega⟩) (by first | assumption | omega | exact ⟨by omega, by omega⟩) (by first | assumption | omega | exact ⟨by omega, by omega⟩)) (hP.sub [] rfl) sf_X7_in tw921 ⟨Nat.le_of_ble_eq_true rfl, Nat.le_of_ble_eq_true rfl⟩ hl rfl (Nat.le_of_ble_eq_true rfl) dX7_segment_45 ⟨Nat.zero_le _, Nat.zero_le _⟩ ?_
        refine rr_ifP_eq F (tgt := 55) dX7_segment_48 (by decide) (fun c_48 => ?_) (fun c_48 => ?_)
        · refine rr_iconst F dX7_segment_55 ?_
          refine rr_wrV (rest := []) (wr := [(no, .inl (cy 1, 118, .inl (iA a)))]) (ws2 := [(mo, .inr (7, [vI 2, .ref no, .ref th, .ref pa, vI ss, .ref sl, .ref sv, .ref tx, vI ty])), (no, .inl (cy 1, 118, .inl (iA a)))]) F hK (c_X7_refuses l D cy mo no th pa sl sv tx tr ss ty 2 (by first | assumption | omega | exact ⟨by omega, by omega⟩)) hP hD hS hA sf_X7_refuses tw910 7 rfl rfl ⟨Nat.le_of_ble_eq_true rfl, Nat.le_of_ble_eq_true rfl⟩ hl rfl (Nat.le_of_ble_eq_true rfl) dX7_segment_56 ⟨Nat.zero_le _, Nat.zero_le _⟩ [0] [1] [1, 0] rfl rfl (by decide) (by decide) (by decide) rfl rfl (by decide) (fun H locs hP hD hS => ?_)
          have hP : va_P D vwCl [(mo, .inr (7, [vI 2, .ref no, .ref th, .ref pa, vI ss, .ref sl, .ref sv, .ref tx, vI ty])), (no, .inl (cy 1, 118, .inl (iA a)))] H := hP
          have hD : va_D _ [(mo, .inr (7, [vI 2, .ref no, .ref th, .ref pa, vI ss, .ref sl, .ref sv, .ref tx, vI ty])), (no, .inl (cy 1, 118, .inl (iA a)))] := hD
          refine rr_ifP_eq F (tgt := 66) dX7_segment_59 (by decide) (fun c_59 => ?_) (fun c_59 => ?_)
          · exfalso; omega
          · exfalso; omega
        · refine rr_iconst F dX7_segment_51 ?_
          refine lv_goto (tgt := 56) F.1 F.2.1 dX7_segment_52 (by decide) ?_
          refine rr_wrV (rest := []) (wr := [(no, .inl (cy 1, 118, .inl (iA a)))]) (ws2 := [(mo, .inr (7, [vI 0, .ref no, .ref th, .ref pa, vI ss, .ref sl, .ref sv, .ref tx, vI ty])), (no, .inl (cy 1, 118, .inl (iA a)))]) F hK (c_X7_refuses l D cy mo no th pa sl sv tx tr ss ty 0 (by first | assumption | omega | exact ⟨by omega, by omega⟩)) hP hD hS hA sf_X7_refuses tw910 7 rfl rfl ⟨Nat.le_of_ble_eq_true rfl, Nat.le_of_ble_eq_true rfl⟩ hl rfl (Nat.le_of_ble_eq_true rfl) dX7_segment_56 ⟨Nat.zero_le _, Nat.zero_le _⟩ [0] [1] [1, 0] rfl rfl (by decide) (by decide) (by decide) rfl rfl (by decide) (fun H locs hP hD hS => ?_)
          have hP : va_P D vwCl [(mo, .inr (7, [vI 0, .ref no, .ref th, .ref pa, vI ss, .ref sl, .ref sv, .ref tx, vI ty])), (no, .inl (cy 1, 118, .inl (iA a)))] H := hP
          have hD : va_D _ [(mo, .inr (7, [vI 0, .ref no, .ref th, .ref pa, vI ss, .ref sl, .ref sv, .ref tx, vI ty])), (no, .inl (cy 1, 118, .inl (iA a)))] := hD
          refine rr_ifP_eq F (tgt := 66) dX7_segment_59 (by decide) (fun c_59 => ?_) (fun c_59 => ?_)
          · have cr := cnt_rng (fun p => 0 < seg (a 0) (rq a) p d) (n := a 0) (by omega)
            have dv := dva_ok (q := rq a) hn0.1 h1 h2
            refine lv_aload_n F.1 F.2.1 dX7_segment_66 rfl (lv_at hl 1 rfl) ?_
            refine lv_aload_n F.1 F.2.1 dX7_segment_67 rfl (lv_at hl 1 rfl) ?_
            refine gf7_1 F hK hP 0 rfl tw875 dX7_segment_68 ?_
            refine lv_iload_n F.1 F.2.1 dX7_segment_71 rfl (lv_at hl 2 rfl) ?_
            refine lv_iload_n F.1 F.2.1 dX7_segment_72 rfl (lv_at hl 3 rfl) ?_
            refine rr_rdS (rest := [.ref mo]) F hK (c_X7_dividerOf l D cy no a d s0 (by first | assumption | omega | exact ⟨by omega, by omega⟩) (by first | assumption | omega | exact ⟨by omega, by omega⟩) (by first | assumption | omega | exact ⟨by omega, by omega⟩)) (hP.sub [1] rfl) sf_X7_dividerOf tw1041 ⟨Nat.le_of_ble_eq_true rfl, Nat.le_of_ble_eq_true rfl⟩ hl rfl (Nat.le_of_ble_eq_true rfl) dX7_segment_73 ⟨Nat.zero_le _, Nat.zero_le _⟩ ?_
            refine lv_iload_n F.1 F.2.1 dX7_segment_76 rfl (lv_at hl 2 rfl) ?_
            refine lv_iload_n F.1 F.2.1 dX7_segment_77 rfl (lv_at hl 4 rfl) ?_
            refine rr_rdV (rest := []) F hK (c_X7_ofSegment l D cy mo no th pa sl sv tx 0 ss ty a (dva (a 0) (rq a) d s0) d x (by first | assumption | omega | exact ⟨by omega, by omega⟩) dv.1 (by first | assumption | omega | exact ⟨by omega, by omega⟩) (rseg_div dv.2) (by first | assumption | omega | exact ⟨by omega, by omega⟩)) hP sf_X7_ofSegment tw1044 7 rfl rfl ⟨Nat.le_of_ble_eq_true rfl, Nat.le_of_ble_eq_true rfl⟩ hl rfl (Nat.le_of_ble_eq_true rfl) dX7_segment_78 ⟨Nat.zero_le _, Nat.zero_le _⟩ ?_
            exact rr_wiret F hr hlocks dX7_segment_81 hP hS (rfl) (by first | rfl | omega)
          · exfalso; omega
      · exfalso; omega
set_option maxRecDepth 100000 in
set_option maxHeartbeats 4000000 in
theorem n_X7_segment (l : Launch) (D : va_G) (cy : Nat → ClassId) (mo no th pa sl sv tx : Nat) (tr ss ty : Int) (a : Int → Int) (d s0 x : Int) (hM : MR a) (hd : inR d) (hs : inR s0) (hx : inR x) (hbad : ¬ ((0 ≤ d ∧ d ≤ 1) ∧ (0 ≤ s0 ∧ s0 < cnt (fun p => 0 < seg (a 0) (rq a) p d) (a 0)) ∧ 0 ≤ x ∧ x ≤ 4)) : Wr l yX7_segment cX7_segment 5 (some FieldType.int) 3 [.ref mo, vI d, vI s0, vI x] D cy [(mo, .inr (7, [vI tr, .ref no, .ref th, .ref pa, vI ss, .ref sl, .ref sv, .ref tx, vI ty])), (no, .inl (cy 1, 118, .inl (iA a)))] [(mo, .inr (7, [vI (if (0 ≤ d ∧ d ≤ 1) ∧ (0 ≤ s0 ∧ s0 < cnt (fun p => 0 < seg (a 0) (rq a) p d) (a 0)) then 2 else 1), .ref no, .ref th, .ref pa, vI ss, .ref sl, .ref sv, .ref tx, vI ty])), (no, .inl (cy 1, 118, .inl (iA a)))] (some (vI 0)) := by
  refine Wr.of RX7 rfl [(0, .ref mo), (1, vI d), (2, vI s0), (3, vI x)] rfl (by decide +kernel) (Nat.le_of_ble_eq_true rfl) ?_
  intro p e s m args below meth c F hr hlocks hK hP hD hS hA ls hl
  have hn0 := hM.n
  have hw0 := hM.nw
  have hc0 := hM.wc
  refine lv_iload_n F.1 F.2.1 dX7_segment_0 rfl (lv_at hl 1 rfl) ?_
  refine rr_rdS (rest := []) F hK (c_X7_isWay l D cy d (by first | assumption | omega | exact ⟨by omega, by omega⟩)) (hP.sub [] rfl) sf_X7_isWay tw1004 ⟨Nat.le_of_ble_eq_true rfl, Nat.le_of_ble_eq_true rfl⟩ hl rfl (Nat.le_of_ble_eq_true rfl) dX7_segment_1 ⟨Nat.zero_le _, Nat.zero_le _⟩ ?_
  refine rr_ifP_eq F (tgt := 29) dX7_segment_4 (by decide) (fun c_4 => ?_) (fun c_4 => ?_)
  · refine rr_iconst F dX7_segment_29 ?_
    refine lv_istore (lv' := [(4, vI 0), (0, .ref mo), (1, vI d), (2, vI s0), (3, vI x)]) F.1 F.2.1 dX7_segment_30 hl (by decide) rfl (fun ls hl => ?_)
    refine lv_aload_n F.1 F.2.1 dX7_segment_32 rfl (lv_at hl 1 rfl) ?_
    refine lv_iload F.1 F.2.1 dX7_segment_33 (lv_at hl 0 rfl) ?_
    refine rr_if_ne F (tgt := 42) dX7_segment_35 (by decide) ⟨by omega, by omega⟩ (fun c_35 => ?_) (fun c_35 => ?_)
    · exfalso; omega
    · refine rr_iconst F dX7_segment_38 ?_
      refine lv_goto (tgt := 56) F.1 F.2.1 dX7_segment_39 (by decide) ?_
      refine rr_wrV (rest := []) (wr := [(no, .inl (cy 1, 118, .inl (iA a)))]) (ws2 := [(mo, .inr (7, [vI 1, .ref no, .ref th, .ref pa, vI ss, .ref sl, .ref sv, .ref tx, vI ty])), (no, .inl (cy 1, 118, .inl (iA a)))]) F hK (c_X7_refuses l D cy mo no th pa sl sv tx tr ss ty 1 (by first | assumption | omega | exact ⟨by omega, by omega⟩)) hP hD hS hA sf_X7_refuses tw910 7 rfl rfl ⟨Nat.le_of_ble_eq_true rfl, Nat.le_of_ble_eq_true rfl⟩ hl rfl (Nat.le_of_ble_eq_true rfl) dX7_segment_56 ⟨Nat.zero_le _, Nat.zero_le _⟩ [0] [1] [1, 0] rfl rfl (by decide) (by decide) (by decide) rfl rfl (by decide) (fun H locs hP hD hS => ?_)
      have hP : va_P D vwCl [(mo, .inr (7, [vI 1, .ref no, .ref th, .ref pa, vI ss, .ref sl, .ref sv, .ref tx, vI ty])), (no, .inl (cy 1, 118, .inl (iA a)))] H := hP
      have hD : va_D _ [(mo, .inr (7, [vI 1, .ref no, .ref th, .ref pa, vI ss, .ref sl, .ref sv, .ref tx, vI ty])), (no, .inl (cy 1, 118, .inl (iA a)))] := hD
      refine rr_ifP_eq F (tgt := 66) dX7_segment_59 (by decide) (fun c_59 => ?_) (fun c_59 => ?_)
      · exfalso; omega
      · refine rr_iconst F dX7_segment_62 ?_
        refine lv_goto (tgt := 81) F.1 F.2.1 dX7_segment_63 (by decide) ?_
        exact rr_wiret F hr hlocks dX7_segment_81 hP hS (by repeat' (first | rfl | split | omega)) (rfl)
  · refine lv_iload_n F.1 F.2.1 dX7_segment_7 rfl (lv_at hl 2 rfl) ?_
    refine rr_iconst F dX7_segment_8 ?_
    refine lv_aload_n F.1 F.2.1 dX7_segment_9 rfl (lv_at hl 0 rfl) ?_
    refine gf7_1 F hK hP 0 rfl tw875 dX7_segment_10 ?_
    refine lv_iload_n F.1 F.2.1 dX7_segment_13 rfl (lv_at hl 1 rfl) ?_
    refine rr_rdS (rest := [vI 0, vI s0]) F hK (c_X7_segments l D cy no a d (by first | assumption | omega | exact ⟨by omega, by omega⟩) (by first | assumption | omega | exact ⟨by omega, by omega⟩)) (hP.sub [1] rfl) sf_X7_segments tw1011 ⟨Nat.le_of_ble_eq_true rfl, Nat.le_of_ble_eq_true rfl⟩ hl rfl (Nat.le_of_ble_eq_true rfl) dX7_segment_14 ⟨Nat.zero_le _, Nat.zero_le _⟩ ?_
    have q_14_0 := (cnt_rng (fun u_p => 0 < seg (a 0) (rq a) u_p d) (n := a 0) (by omega))
    refine rr_iconst F dX7_segment_17 ?_
    refine rr_isub F (z := (cnt (fun u_p => 0 < seg (a 0) (rq a) u_p d) (a 0)) - 1) dX7_segment_18 (by first | rfl | omega) ?_
    refine rr_rdS (rest := []) F hK (c_X7_in l D cy s0 0 ((cnt (fun u_p => 0 < seg (a 0) (rq a) u_p d) (a 0)) - 1) (by first | assumption | omega | exact ⟨by omega, by omega⟩) (by first | assumption | omega | exact ⟨by omega, by omega⟩) (by first | assumption | omega | exact ⟨by omega, by omega⟩)) (hP.sub [] rfl) sf_X7_in tw921 ⟨Nat.le_of_ble_eq_true rfl, Nat.le_of_ble_eq_true rfl⟩ hl rfl (Nat.le_of_ble_eq_true rfl) dX7_segment_19 ⟨Nat.zero_le _, Nat.zero_le _⟩ ?_
    refine rr_ifP_eq F (tgt := 29) dX7_segment_22 (by decide) (fun c_22 => ?_) (fun c_22 => ?_)
    · refine rr_iconst F dX7_segment_29 ?_
      refine lv_istore (lv' := [(4, vI 0), (0, .ref mo), (1, vI d), (2, vI s0), (3, vI x)]) F.1 F.2.1 dX7_segment_30 hl (by decide) rfl (fun ls hl => ?_)
      refine lv_aload_n F.1 F.2.1 dX7_segment_32 rfl (lv_at hl 1 rfl) ?_
      refine lv_iload F.1 F.2.1 dX7_segment_33 (lv_at hl 0 rfl) ?_
      refine rr_if_ne F (tgt := 42) dX7_segment_35 (by decide) ⟨by omega, by omega⟩ (fun c_35 => ?_) (fun c_35 => ?_)
      · exfalso; omega
      · refine rr_iconst F dX7_segment_38 ?_
        refine lv_goto (tgt := 56) F.1 F.2.1 dX7_segment_39 (by decide) ?_
        refine rr_wrV (rest := []) (wr := [(no, .inl (cy 1, 118, .inl (iA a)))]) (ws2 := [(mo, .inr (7, [vI 1, .ref no, .ref th, .ref pa, vI ss, .ref sl, .ref sv, .ref tx, vI ty])), (no, .inl (cy 1, 118, .inl (iA a)))]) F hK (c_X7_refuses l D cy mo no th pa sl sv tx tr ss ty 1 (by first | assumption | omega | exact ⟨by omega, by omega⟩)) hP hD hS hA sf_X7_refuses tw910 7 rfl rfl ⟨Nat.le_of_ble_eq_true rfl, Nat.le_of_ble_eq_true rfl⟩ hl rfl (Nat.le_of_ble_eq_true rfl) dX7_segment_56 ⟨Nat.zero_le _, Nat.zero_le _⟩ [0] [1] [1, 0] rfl rfl (by decide) (by decide) (by decide) rfl rfl (by decide) (fun H locs hP hD hS => ?_)
        have hP : va_P D vwCl [(mo, .inr (7, [vI 1, .ref no, .ref th, .ref pa, vI ss, .ref sl, .ref sv, .ref tx, vI ty])), (no, .inl (cy 1, 118, .inl (iA a)))] H := hP
        have hD : va_D _ [(mo, .inr (7, [vI 1, .ref no, .ref th, .ref pa, vI ss, .ref sl, .ref sv, .ref tx, vI ty])), (no, .inl (cy 1, 118, .inl (iA a)))] := hD
        refine rr_ifP_eq F (tgt := 66) dX7_segment_59 (by decide) (fun c_59 => ?_) (fun c_59 => ?_)
        · exfalso; omega
        · refine rr_iconst F dX7_segment_62 ?_
          refine lv_goto (tgt := 81) F.1 F.2.1 dX7_segment_63 (by decide) ?_
          exact rr_wiret F hr hlocks dX7_segment_81 hP hS (by repeat' (first | rfl | split | omega)) (rfl)
    · refine rr_iconst F dX7_segment_25 ?_
      refine lv_goto (tgt := 30) F.1 F.2.1 dX7_segment_26 (by decide) ?_
      refine lv_istore (lv' := [(4, vI 1), (0, .ref mo), (1, vI d), (2, vI s0), (3, vI x)]) F.1 F.2.1 dX7_segment_30 hl (by decide) rfl (fun ls hl => ?_)
      refine lv_aload_n F.1 F.2.1 dX7_segment_32 rfl (lv_at hl 1 rfl) ?_
      refine lv_iload F.1 F.2.1 dX7_segment_33 (lv_at hl 0 rfl) ?_
      refine rr_if_ne F (tgt := 42) dX7_segment_35 (by decide) ⟨by omega, by omega⟩ (fun c_35 => ?_) (fun c_35 => ?_)
      · refine lv_iload_n F.1 F.2.1 dX7_segment_42 rfl (lv_at hl 4 rfl) ?_
        refine rr_iconst F dX7_segment_43 ?_
        refine rr_iconst F dX7_segment_44 ?_
        refine rr_rdS (rest := [.ref mo]) F hK (c_X7_in l D cy x 0 4 (by first | assumption | omega | exact ⟨by omega, by omega⟩) (by first | assumption | omega | exact ⟨by omega, by omega⟩) (by first | assumption | omega | exact ⟨by omega, by omega⟩)) (hP.sub [] rfl) sf_X7_in tw921 ⟨Nat.le_of_ble_eq_true rfl, Nat.le_of_ble_eq_true rfl⟩ hl rfl (Nat.le_of_ble_eq_true rfl) dX7_segment_45 ⟨Nat.zero_le _, Nat.zero_le _⟩ ?_
        refine rr_ifP_eq F (tgt := 55) dX7_segment_48 (by decide) (fun c_48 => ?_) (fun c_48 => ?_)
        · refine rr_iconst F dX7_segment_55 ?_
          refine rr_wrV (rest := []) (wr := [(no, .inl (cy 1, 118, .inl (iA a)))]) (ws2 := [(mo, .inr (7, [vI 2, .ref no, .ref th, .ref pa, vI ss, .ref sl, .ref sv, .ref tx, vI ty])), (no, .inl (cy 1, 118, .inl (iA a)))]) F hK (c_X7_refuses l D cy mo no th pa sl sv tx tr ss ty 2 (by first | assumption | omega | exact ⟨by omega, by omega⟩)) hP hD hS hA sf_X7_refuses tw910 7 rfl rfl ⟨Nat.le_of_ble_eq_true rfl, Nat.le_of_ble_eq_true rfl⟩ hl rfl (Nat.le_of_ble_eq_true rfl) dX7_segment_56 ⟨Nat.zero_le _, Nat.zero_le _⟩ [0] [1] [1, 0] rfl rfl (by decide) (by decide) (by decide) rfl rfl (by decide) (fun H locs hP hD hS => ?_)
          have hP : va_P D vwCl [(mo, .inr (7, [vI 2, .ref no, .ref th, .ref pa, vI ss, .ref sl, .ref sv, .ref tx, vI ty])), (no, .inl (cy 1, 118, .inl (iA a)))] H := hP
          have hD : va_D _ [(mo, .inr (7, [vI 2, .ref no, .ref th, .ref pa, vI ss, .ref sl, .ref sv, .ref tx, vI ty])), (no, .inl (cy 1, 118, .inl (iA a)))] := hD
          refine rr_ifP_eq F (tgt := 66) dX7_segment_59 (by decide) (fun c_59 => ?_) (fun c_59 => ?_)
          · exfalso; omega
          · refine rr_iconst F dX7_segment_62 ?_
            refine lv_goto (tgt := 81) F.1 F.2.1 dX7_segment_63 (by decide) ?_
            exact rr_wiret F hr hlocks dX7_segment_81 hP hS (by repeat' (first | rfl | split | omega)) (rfl)
        · refine rr_iconst F dX7_segment_51 ?_
          refine lv_goto (tgt := 56) F.1 F.2.1 dX7_segment_52 (by decide) ?_
          refine rr_wrV (rest := []) (wr := [(no, .inl (cy 1, 118, .inl (iA a)))]) (ws2 := [(mo, .inr (7, [vI 0, .ref no, .ref th, .ref pa, vI ss, .ref sl, .ref sv, .ref tx, vI ty])), (no, .inl (cy 1, 118, .inl (iA a)))]) F hK (c_X7_refuses l D cy mo no th pa sl sv tx tr ss ty 0 (by first | assumption | omega | exact ⟨by omega, by omega⟩)) hP hD hS hA sf_X7_refuses tw910 7 rfl rfl ⟨Nat.le_of_ble_eq_true rfl, Nat.le_of_ble_eq_true rfl⟩ hl rfl (Nat.le_of_ble_eq_true rfl) dX7_segment_56 ⟨Nat.zero_le _, Nat.zero_le _⟩ [0] [1] [1, 0] rfl rfl (by decide) (by decide) (by decide) rfl rfl (by decide) (fun H locs hP hD hS => ?_)
          have hP : va_P D vwCl [(mo, .inr (7, [vI 0, .ref no, .ref th, .ref pa, vI ss, .ref sl, .ref sv, .ref tx, vI ty])), (no, .inl (cy 1, 118, .inl (iA a)))] H := hP
          have hD : va_D _ [(mo, .inr (7, [vI 0, .ref no, .ref th, .ref pa, vI ss, .ref sl, .ref sv, .ref tx, vI ty])), (no, .inl (cy 1, 118, .inl (iA a)))] := hD
          refine rr_ifP_eq F (tgt := 66) dX7_segment_59 (by decide) (fun c_59 => ?_) (fun c_59 => ?_)
          · exfalso; omega
          · exfalso; omega
      · exfalso; omega
set_option maxRecDepth 100000 in
set_option maxHeartbeats 4000000 in
theorem c_X7_removeWord (l : Launch) (D : va_G) (cy : Nat → ClassId) (mo no th pa sl sv tx : Nat) (tr ss ty : Int) (a ap : Int → Int) (w : Int) (hM : MR a) (hs : 0 ≤ ss ∧ ss ≤ 14) (hw : inR w) (h1 : 0 ≤ w ∧ w < a 25) : Wr l yX7_removeWord cX7_removeWord 3 (some FieldType.int) 2 [.ref mo, vI w] D cy [(mo, .inr (7, [vI tr, .ref no, .ref th, .ref pa, vI ss, .ref sl, .ref sv, .ref tx, vI ty])), (no, .inl (cy 1, 118, .inl (iA a))), (pa, .inl (cy 1, 1652, .inl (iA ap)))] [(mo, .inr (7, [vI 0, .ref no, .ref th, .ref pa, vI (remN ss), .ref sl, .ref sv, .ref tx, vI ty])), (no, .inl (cy 1, 118, .inl (iA (rmvR a w)))), (pa, .inl (cy 1, 1652, .inl (iA (remA a ap ss))))] (some (vI (a 25 - 1))) := by
  refine Wr.of RX7 rfl [(0, .ref mo), (1, vI w)] rfl (by decide +kernel) (Nat.le_of_ble_eq_true rfl) ?_
  intro p e s m args below meth c F hr hlocks hK hP hD hS hA ls hl
  have hn0 := hM.n
  have hw0 := hM.nw
  have hc0 := hM.wc
  refine lv_aload_n F.1 F.2.1 dX7_removeWord_0 rfl (lv_at hl 0 rfl) ?_
  refine lv_aload_n F.1 F.2.1 dX7_removeWord_1 rfl (lv_at hl 0 rfl) ?_
  refine lv_iload_n F.1 F.2.1 dX7_removeWord_2 rfl (lv_at hl 1 rfl) ?_
  refine rr_rdV (rest := [.ref mo]) F hK (c_X7_isWord l D cy mo no th pa sl sv tx tr ss ty a w (by first | assumption | omega | exact ⟨by omega, by omega⟩) (by first | assumption | omega | exact ⟨by omega, by omega⟩)) (hP.sub [0, 1] rfl) sf_X7_isWord tw996 7 rfl rfl ⟨Nat.le_of_ble_eq_true rfl, Nat.le_of_ble_eq_true rfl⟩ hl rfl (Nat.le_of_ble_eq_true rfl) dX7_removeWord_3 ⟨Nat.zero_le _, Nat.zero_le _⟩ ?_
  refine rr_ifP_eq F (tgt := 13) dX7_removeWord_6 (by decide) (fun c_6 => ?_) (fun c_6 => ?_)
  · refine rr_iconst F dX7_removeWord_13 ?_
    refine rr_wrV (rest := []) (wr := [(no, .inl (cy 1, 118, .inl (iA a))), (pa, .inl (cy 1, 1652, .inl (iA ap)))]) (ws2 := [(mo, .inr (7, [vI 1, .ref no, .ref th, .ref pa, vI ss, .ref sl, .ref sv, .ref tx, vI ty])), (no, .inl (cy 1, 118, .inl (iA a))), (pa, .inl (cy 1, 1652, .inl (iA ap)))]) F hK (c_X7_refuses l D cy mo no th pa sl sv tx tr ss ty 1 (by first | assumption | omega | exact ⟨by omega, by omega⟩)) hP hD hS hA sf_X7_refuses tw910 7 rfl rfl ⟨Nat.le_of_ble_eq_true rfl, Nat.le_of_ble_eq_true rfl⟩ hl rfl (Nat.le_of_ble_eq_true rfl) dX7_removeWord_14 ⟨Nat.zero_le _, Nat.zero_le _⟩ [0] [1, 2] [2, 0, 1] rfl rfl (by decide) (by decide) (by decide) rfl rfl (by decide) (fun H locs hP hD hS => ?_)
    have hP : va_P D vwCl [(mo, .inr (7, [vI 1, .ref no, .ref th, .ref pa, vI ss, .ref sl, .ref sv, .ref tx, vI ty])), (no, .inl (cy 1, 118, .inl (iA a))), (pa, .inl (cy 1, 1652, .inl (iA ap)))] H := hP
    have hD : va_D _ [(mo, .inr (7, [vI 1, .ref no, .ref th, .ref pa, vI ss, .ref sl, .ref sv, .ref tx, vI ty])), (no, .inl (cy 1, 118, .inl (iA a))), (pa, .inl (cy 1, 1652, .inl (iA ap)))] := hD
    refine rr_ifP_eq F (tgt := 22) dX7_removeWord_17 (by decide) (fun c_17 => ?_) (fun c_17 => ?_)
    · exfalso; omega
    · exfalso; omega
  · refine rr_iconst F dX7_removeWord_9 ?_
    refine lv_goto (tgt := 14) F.1 F.2.1 dX7_removeWord_10 (by decide) ?_
    refine rr_wrV (rest := []) (wr := [(no, .inl (cy 1, 118, .inl (iA a))), (pa, .inl (cy 1, 1652, .inl (iA ap)))]) (ws2 := [(mo, .inr (7, [vI 0, .ref no, .ref th, .ref pa, vI ss, .ref sl, .ref sv, .ref tx, vI ty])), (no, .inl (cy 1, 118, .inl (iA a))), (pa, .inl (cy 1, 1652, .inl (iA ap)))]) F hK (c_X7_refuses l D cy mo no th pa sl sv tx tr ss ty 0 (by first | assumption | omega | exact ⟨by omega, by omega⟩)) hP hD hS hA sf_X7_refuses tw910 7 rfl rfl ⟨Nat.le_of_ble_eq_true rfl, Nat.le_of_ble_eq_true rfl⟩ hl rfl (Nat.le_of_ble_eq_true rfl) dX7_removeWord_14 ⟨Nat.zero_le _, Nat.zero_le _⟩ [0] [1, 2] [2, 0, 1] rfl rfl (by decide) (by decide) (by decide) rfl rfl (by decide) (fun H locs hP hD hS => ?_)
    have hP : va_P D vwCl [(mo, .inr (7, [vI 0, .ref no, .ref th, .ref pa, vI ss, .ref sl, .ref sv, .ref tx, vI ty])), (no, .inl (cy 1, 118, .inl (iA a))), (pa, .inl (cy 1, 1652, .inl (iA ap)))] H := hP
    have hD : va_D _ [(mo, .inr (7, [vI 0, .ref no, .ref th, .ref pa, vI ss, .ref sl, .ref sv, .ref tx, vI ty])), (no, .inl (cy 1, 118, .inl (iA a))), (pa, .inl (cy 1, 1652, .inl (iA ap)))] := hD
    refine rr_ifP_eq F (tgt := 22) dX7_removeWord_17 (by decide) (fun c_17 => ?_) (fun c_17 => ?_)
    · refine lv_aload_n F.1 F.2.1 dX7_removeWord_22 rfl (lv_at hl 0 rfl) ?_
      refine rr_wrV (rest := []) (wr := []) (ws2 := [(mo, .inr (7, [vI 0, .ref no, .ref th, .ref pa, vI (remN ss), .ref sl, .ref sv, .ref tx, vI ty])), (no, .inl (cy 1, 118, .inl (iA a))), (pa, .inl (cy 1, 1652, .inl (iA (remA a ap ss))))]) F hK (c_X7_remembers l D cy mo no th pa sl sv tx 0 ss ty a ap (by first | assumption | omega | exact ⟨by omega, by omega⟩)) hP hD hS hA sf_X7_remembers tw1092 7 rfl rfl ⟨Nat.le_of_ble_eq_true rfl, Nat.le_of_ble_eq_true rfl⟩ hl rfl (Nat.le_of_ble_eq_true rfl) dX7_removeWord_23 ⟨Nat.zero_le _, Nat.zero_le _⟩ [0, 1, 2] [] [0, 1, 2] rfl rfl (by decide) (by decide) (by decide) rfl rfl (by decide) (fun H locs hP hD hS => ?_)
      have hP : va_P D vwCl [(mo, .inr (7, [vI 0, .ref no, .ref th, .ref pa, vI (remN ss), .ref sl, .ref sv, .ref tx, vI ty])), (no, .inl (cy 1, 118, .inl (iA a))), (pa, .inl (cy 1, 1652, .inl (iA (remA a ap ss))))] H := hP
      have hD : va_D _ [(mo, .inr (7, [vI 0, .ref no, .ref th, .ref pa, vI (remN ss), .ref sl, .ref sv, .ref tx, vI ty])), (no, .inl (cy 1, 118, .inl (iA a))), (pa, .inl (cy 1, 1652, .inl (iA (remA a ap ss))))] := hD
      refine lv_aload_n F.1 F.2.1 dX7_removeWord_26 rfl (lv_at hl 0 rfl) ?_
      refine gf7_1 F hK hP 0 rfl tw875 dX7_removeWord_27 ?_
      refine rr_bipush F dX7_removeWord_30 (by decide) ?_
      refine lv_dup2_11 F.1 F.2.1 dX7_removeWord_32 rfl rfl ?_
      refine rr_iald F hK hP 1 rfl (by omega) (by omega) (by decide) dX7_removeWord_33 ?_
      refine rr_iconst F dX7_removeWord_34 ?_
      refine rr_isub F (z := (a 25) - 1) dX7_removeWord_35 (by first | rfl | omega) ?_
      refine rr_iast F hK hP hD hS 1 rfl (by omega) (by omega) (by decide) dX7_removeWord_36 (fun H locs hP hD hS => ?_)
      have hP : va_P D vwCl [(mo, .inr (7, [vI 0, .ref no, .ref th, .ref pa, vI (remN ss), .ref sl, .ref sv, .ref tx, vI ty])), (no, .inl (cy 1, 118, .inl (iA (updZ a 25 ((a 25) - 1))))), (pa, .inl (cy 1, 1652, .inl (iA (remA a ap ss))))] H := hP
      have hD : va_D _ [(mo, .inr (7, [vI 0, .ref no, .ref th, .ref pa, vI (remN ss), .ref sl, .ref sv, .ref tx, vI ty])), (no, .inl (cy 1, 118, .inl (iA (updZ a 25 ((a 25) - 1))))), (pa, .inl (cy 1, 1652, .inl (iA (remA a ap ss))))] := hD
      refine rr_bipush F dX7_removeWord_37 (by decide) ?_
      refine lv_iload_n F.1 F.2.1 dX7_removeWord_39 rfl (lv_at hl 1 rfl) ?_
      refine rr_imul F (z := 7 * w) dX7_removeWord_40 (by first | rfl | omega) ?_
      refine lv_istore_n (lv' := [(2, vI (7 * w)), (0, .ref mo), (1, vI w)]) F.1 F.2.1 dX7_removeWord_41 rfl hl (by decide) rfl (fun ls hl => ?_)
      refine rr_loopW1 (fun k => (7 * w ≤ k) ∧ (k ≤ 7 * (a 25 - 1))) (fun k => (100 - k).toNat) (fun k => [(2, vI k), (0, .ref mo), (1, vI w)]) (fun k => [(mo, .inr (7, [vI 0, .ref no, .ref th, .ref pa, vI (remN ss), .ref sl, .ref sv, .ref tx, vI ty])), (no, .inl (cy 1, 118, .inl (iA (rmvK a w k)))), (pa, .inl (cy 1, 1652, .inl (iA (remA a ap ss))))]) ?_ (7 * w) ⟨by omega, by omega⟩ (by rw [rmvK_0]; exact hP) (hD.like rfl) hS (lv_sub hl [0, 1, 2] rfl)
      intro k hI ih_42 H locs ls hP hD hS hl
      obtain ⟨k0, k1⟩ := hI
      have hl : lv_has ls 3 [(2, vI k), (0, .ref mo), (1, vI w)] := hl
      have hP : va_P D vwCl [(mo, .inr (7, [vI 0, .ref no, .ref th, .ref pa, vI (remN ss), .ref sl, .ref sv, .ref tx, vI ty])), (no, .inl (cy 1, 118, .inl (iA (rmvK a w k)))), (pa, .inl (cy 1, 1652, .inl (iA (remA a ap ss))))] H := hP
      have hD : va_D _ [(mo, .inr (7, [vI 0, .ref no, .ref th, .ref pa, vI (remN ss), .ref sl, .ref sv, .ref tx, vI ty])), (no, .inl (cy 1, 118, .inl (iA (rmvK a w k)))), (pa, .inl (cy 1, 1652, .inl (iA (remA a ap ss))))] := hD
      have e25 := rmvK_25 (a := a) (w := w) (k := k)
      refine lv_iload_n F.1 F.2.1 dX7_removeWord_42 rfl (lv_at hl 0 rfl) ?_
      refine rr_bipush F dX7_removeWord_43 (by decide) ?_
      refine lv_aload_n F.1 F.2.1 dX7_removeWord_45 rfl (lv_at hl 1 rfl) ?_
      refine gf7_1 F hK hP 0 rfl tw875 dX7_removeWord_46 ?_
      refine rr_bipush F dX7_removeWord_49 (by decide) ?_
      refine rr_iald F hK hP 1 rfl (by omega) (by omega) (by decide) dX7_removeWord_51 ?_
      refine rr_imul F (z := 7 * ((rmvK a w k) 25)) dX7_removeWord_52 (by first | rfl | omega) ?_
      refine rr_icmp_ge F (tgt := 83) dX7_removeWord_53 (by decide) ⟨by omega, by omega⟩ ⟨by omega, by omega⟩ (fun c_53 => ?_) (fun c_53 => ?_)
      · refine lv_aload_n F.1 F.2.1 dX7_removeWord_83 rfl (lv_at hl 1 rfl) ?_
        refine gf7_1 F hK hP 0 rfl tw875 dX7_removeWord_84 ?_
        refine rr_bipush F dX7_removeWord_87 (by decide) ?_
        refine rr_iald F hK hP 1 rfl (by omega) (by omega) (by decide) dX7_removeWord_89 ?_
        exact rr_wiret F hr hlocks dX7_removeWord_90 hP hS (by rw [show k = 7 * (a 25 - 1) by omega]; rfl) (by rw [e25])
      · refine lv_aload_n F.1 F.2.1 dX7_removeWord_56 rfl (lv_at hl 1 rfl) ?_
        refine gf7_1 F hK hP 0 rfl tw875 dX7_removeWord_57 ?_
        refine rr_bipush F dX7_removeWord_60 (by decide) ?_
        refine lv_iload_n F.1 F.2.1 dX7_removeWord_62 rfl (lv_at hl 0 rfl) ?_
        refine rr_iadd F (z := 26 + k) dX7_removeWord_63 (by first | rfl | omega) ?_
        refine lv_aload_n F.1 F.2.1 dX7_removeWord_64 rfl (lv_at hl 1 rfl) ?_
        refine gf7_1 F hK hP 0 rfl tw875 dX7_removeWord_65 ?_
        refine rr_bipush F dX7_removeWord_68 (by decide) ?_
        refine lv_iload_n F.1 F.2.1 dX7_removeWord_70 rfl (lv_at hl 0 rfl) ?_
        refine rr_iadd F (z := 26 + k) dX7_removeWord_71 (by first | rfl | omega) ?_
        refine rr_bipush F dX7_removeWord_72 (by decide) ?_
        refine rr_iadd F (z := (26 + k) + 7) dX7_removeWord_74 (by first | rfl | omega) ?_
        refine rr_iald F hK hP 1 rfl (by omega) (by omega) (by decide) dX7_removeWord_75 ?_
        refine rr_iast F hK hP hD hS 1 rfl (by omega) (by omega) (by decide) dX7_removeWord_76 (fun H locs hP hD hS => ?_)
        have hP : va_P D vwCl [(mo, .inr (7, [vI 0, .ref no, .ref th, .ref pa, vI (remN ss), .ref sl, .ref sv, .ref tx, vI ty])), (no, .inl (cy 1, 118, .inl (iA (updZ (rmvK a w k) (26 + k) ((rmvK a w k) ((26 + k) + 7)))))), (pa, .inl (cy 1, 1652, .inl (iA (remA a ap ss))))] H := hP
        have hD : va_D _ [(mo, .inr (7, [vI 0, .ref no, .ref th, .ref pa, vI (remN ss), .ref sl, .ref sv, .ref tx, vI ty])), (no, .inl (cy 1, 118, .inl (iA (updZ (rmvK a w k) (26 + k) ((rmvK a w k) ((26 + k) + 7)))))), (pa, .inl (cy 1, 1652, .inl (iA (remA a ap ss))))] := hD
        refine lv_iinc (v := iI (k + 1)) (lv' := [(2, vI (k + 1)), (0, .ref mo), (1, vI w)]) F.1 F.2.1 dX7_removeWord_77 hl (k := 0) rfl (iinc_ok (by first | rfl | omega)) (by decide) rfl (fun ls hl => ?_)
        refine lv_goto (tgt := 42) F.1 F.2.1 dX7_removeWord_80 (by decide) ?_
        exact ih_42 (k + 1) ⟨by omega, by omega⟩ (show ((100 - (k + 1)).toNat) < ((100 - k).toNat) by omega) _ _ ls (by rw [← rmvK_s (by omega)]; exact hP) (hD.like rfl) hS (lv_sub hl [0, 1, 2] rfl)
    · exfalso; omega
set_option maxRecDepth 100000 in
set_option maxHeartbeats 4000000 in
theorem n_X7_removeWord (l : Launch) (D : va_G) (cy : Nat → ClassId) (mo no th pa sl sv tx : Nat) (tr ss ty : Int) (a ap : Int → Int) (w : Int) (hM : MR a) (hs : 0 ≤ ss ∧ ss ≤ 14) (hw : inR w) (hbad : ¬ (0 ≤ w ∧ w < a 25)) : Wr l yX7_removeWord cX7_removeWord 3 (some FieldType.int) 2 [.ref mo, vI w] D cy [(mo, .inr (7, [vI tr, .ref no, .ref th, .ref pa, vI ss, .ref sl, .ref sv, .ref tx, vI ty])), (no, .inl (cy 1, 118, .inl (iA a))), (pa, .inl (cy 1, 1652, .inl (iA ap)))] [(mo, .inr (7, [vI 1, .ref no, .ref th, .ref pa, vI ss, .ref sl, .ref sv, .ref tx, vI ty])), (no, .inl (cy 1, 118, .inl (iA a))), (pa, .inl (cy 1, 1652, .inl (iA ap)))] (some (vI 0)) := by
  refine Wr.of RX7 rfl [(0, .ref mo), (1, vI w)] rfl (by decide +kernel) (Nat.le_of_ble_eq_true rfl) ?_
  intro p e s m args below meth c F hr hlocks hK hP hD hS hA ls hl
  have hn0 := hM.n
  have hw0 := hM.nw
  have hc0 := hM.wc
  refine lv_aload_n F.1 F.2.1 dX7_removeWord_0 rfl (lv_at hl 0 rfl) ?_
  refine lv_aload_n F.1 F.2.1 dX7_removeWord_1 rfl (lv_at hl 0 rfl) ?_
  refine lv_iload_n F.1 F.2.1 dX7_removeWord_2 rfl (lv_at hl 1 rfl) ?_
  refine rr_rdV (rest := [.ref mo]) F hK (c_X7_isWord l D cy mo no th pa sl sv tx tr ss ty a w (by first | assumption | omega | exact ⟨by omega, by omega⟩) (by first | assumption | omega | exact ⟨by omega, by omega⟩)) (hP.sub [0, 1] rfl) sf_X7_isWord tw996 7 rfl rfl ⟨Nat.le_of_ble_eq_true rfl, Nat.le_of_ble_eq_true rfl⟩ hl rfl (Nat.le_of_ble_eq_true rfl) dX7_removeWord_3 ⟨Nat.zero_le _, Nat.zero_le _⟩ ?_
  refine rr_ifP_eq F (tgt := 13) dX7_removeWord_6 (by decide) (fun c_6 => ?_) (fun c_6 => ?_)
  · refine rr_iconst F dX7_removeWord_13 ?_
    refine rr_wrV (rest := []) (wr := [(no, .inl (cy 1, 118, .inl (iA a))), (pa, .inl (cy 1, 1652, .inl (iA ap)))]) (ws2 := [(mo, .inr (7, [vI 1, .ref no, .ref th, .ref pa, vI ss, .ref sl, .ref sv, .ref tx, vI ty])), (no, .inl (cy 1, 118, .inl (iA a))), (pa, .inl (cy 1, 1652, .inl (iA ap)))]) F hK (c_X7_refuses l D cy mo no th pa sl sv tx tr ss ty 1 (by first | assumption | omega | exact ⟨by omega, by omega⟩)) hP hD hS hA sf_X7_refuses tw910 7 rfl rfl ⟨Nat.le_of_ble_eq_true rfl, Nat.le_of_ble_eq_true rfl⟩ hl rfl (Nat.le_of_ble_eq_true rfl) dX7_removeWord_14 ⟨Nat.zero_le _, Nat.zero_le _⟩ [0] [1, 2] [2, 0, 1] rfl rfl (by decide) (by decide) (by decide) rfl rfl (by decide) (fun H locs hP hD hS => ?_)
    have hP : va_P D vwCl [(mo, .inr (7, [vI 1, .ref no, .ref th, .ref pa, vI ss, .ref sl, .ref sv, .ref tx, vI ty])), (no, .inl (cy 1, 118, .inl (iA a))), (pa, .inl (cy 1, 1652, .inl (iA ap)))] H := hP
    have hD : va_D _ [(mo, .inr (7, [vI 1, .ref no, .ref th, .ref pa, vI ss, .ref sl, .ref sv, .ref tx, vI ty])), (no, .inl (cy 1, 118, .inl (iA a))), (pa, .inl (cy 1, 1652, .inl (iA ap)))] := hD
    refine rr_ifP_eq F (tgt := 22) dX7_removeWord_17 (by decide) (fun c_17 => ?_) (fun c_17 => ?_)
    · exfalso; omega
    · refine rr_iconst F dX7_removeWord_20 ?_
      exact rr_wiret F hr hlocks dX7_removeWord_21 hP hS (by repeat' (first | rfl | split | omega)) (rfl)
  · refine rr_iconst F dX7_removeWord_9 ?_
    refine lv_goto (tgt := 14) F.1 F.2.1 dX7_removeWord_10 (by decide) ?_
    refine rr_wrV (rest := []) (wr := [(no, .inl (cy 1, 118, .inl (iA a))), (pa, .inl (cy 1, 1652, .inl (iA ap)))]) (ws2 := [(mo, .inr (7, [vI 0, .ref no, .ref th, .ref pa, vI ss, .ref sl, .ref sv, .ref tx, vI ty])), (no, .inl (cy 1, 118, .inl (iA a))), (pa, .inl (cy 1, 1652, .inl (iA ap)))]) F hK (c_X7_refuses l D cy mo no th pa sl sv tx tr ss ty 0 (by first | assumption | omega | exact ⟨by omega, by omega⟩)) hP hD hS hA sf_X7_refuses tw910 7 rfl rfl ⟨Nat.le_of_ble_eq_true rfl, Nat.le_of_ble_eq_true rfl⟩ hl rfl (Nat.le_of_ble_eq_true rfl) dX7_removeWord_14 ⟨Nat.zero_le _, Nat.zero_le _⟩ [0] [1, 2] [2, 0, 1] rfl rfl (by decide) (by decide) (by decide) rfl rfl (by decide) (fun H locs hP hD hS => ?_)
    have hP : va_P D vwCl [(mo, .inr (7, [vI 0, .ref no, .ref th, .ref pa, vI ss, .ref sl, .ref sv, .ref tx, vI ty])), (no, .inl (cy 1, 118, .inl (iA a))), (pa, .inl (cy 1, 1652, .inl (iA ap)))] H := hP
    have hD : va_D _ [(mo, .inr (7, [vI 0, .ref no, .ref th, .ref pa, vI ss, .ref sl, .ref sv, .ref tx, vI ty])), (no, .inl (cy 1, 118, .inl (iA a))), (pa, .inl (cy 1, 1652, .inl (iA ap)))] := hD
    refine rr_ifP_eq F (tgt := 22) dX7_removeWord_17 (by decide) (fun c_17 => ?_) (fun c_17 => ?_)
    · exfalso; omega
    · exfalso; omega
set_option maxRecDepth 100000 in
set_option maxHeartbeats 4000000 in
theorem c_X7_carve (l : Launch) (D : va_G) (cy : Nat → ClassId) (mo no th pa sl sv tx : Nat) (tr ss ty : Int) (a ap : Int → Int) (i c0 : Int) (hM : MR a) (hs : 0 ≤ ss ∧ ss ≤ 14) (hi : inR i) (hc : inR c0) (h1 : 0 ≤ i ∧ i < a 0) (h2 : 0 ≤ c0 ∧ c0 ≤ 8) : Wr l yX7_carve cX7_carve 3 (some FieldType.int) 2 [.ref mo, vI i, vI c0] D cy [(mo, .inr (7, [vI tr, .ref no, .ref th, .ref pa, vI ss, .ref sl, .ref sv, .ref tx, vI ty])), (no, .inl (cy 1, 118, .inl (iA a))), (pa, .inl (cy 1, 1652, .inl (iA ap)))] [(mo, .inr (7, [vI 0, .ref no, .ref th, .ref pa, vI (remN ss), .ref sl, .ref sv, .ref tx, vI ty])), (no, .inl (cy 1, 118, .inl (iA (updZ a (1 + i) c0)))), (pa, .inl (cy 1, 1652, .inl (iA (remA a ap ss))))] (some (vI (sc (a (1 + i))))) := by
  refine Wr.of RX7 rfl [(0, .ref mo), (1, vI i), (2, vI c0)] rfl (by decide +kernel) (Nat.le_of_ble_eq_true rfl) ?_
  intro p e s m args below meth c F hr hlocks hK hP hD hS hA ls hl
  have hn0 := hM.n
  have hw0 := hM.nw
  have hc0 := hM.wc
  refine lv_aload_n F.1 F.2.1 dX7_carve_0 rfl (lv_at hl 0 rfl) ?_
  refine lv_aload_n F.1 F.2.1 dX7_carve_1 rfl (lv_at hl 0 rfl) ?_
  refine lv_iload_n F.1 F.2.1 dX7_carve_2 rfl (lv_at hl 1 rfl) ?_
  refine rr_rdV (rest := [.ref mo]) F hK (c_X7_isPlace l D cy mo no th pa sl sv tx tr ss ty a i (by first | assumption | omega | exact ⟨by omega, by omega⟩) (by first | assumption | omega | exact ⟨by omega, by omega⟩)) (hP.sub [0, 1] rfl) sf_X7_isPlace tw985 7 rfl rfl ⟨Nat.le_of_ble_eq_true rfl, Nat.le_of_ble_eq_true rfl⟩ hl rfl (Nat.le_of_ble_eq_true rfl) dX7_carve_3 ⟨Nat.zero_le _, Nat.zero_le _⟩ ?_
  refine rr_ifP_ne F (tgt := 13) dX7_carve_6 (by decide) (fun c_6 => ?_) (fun c_6 => ?_)
  · refine lv_iload_n F.1 F.2.1 dX7_carve_13 rfl (lv_at hl 2 rfl) ?_
    refine rr_rdS (rest := [.ref mo]) F hK (c_X7_isSign l D cy c0 (by first | assumption | omega | exact ⟨by omega, by omega⟩)) (hP.sub [] rfl) sf_X7_isSign tw1115 ⟨Nat.le_of_ble_eq_true rfl, Nat.le_of_ble_eq_true rfl⟩ hl rfl (Nat.le_of_ble_eq_true rfl) dX7_carve_14 ⟨Nat.zero_le _, Nat.zero_le _⟩ ?_
    refine rr_ifP_eq F (tgt := 24) dX7_carve_17 (by decide) (fun c_17 => ?_) (fun c_17 => ?_)
    · refine rr_iconst F dX7_carve_24 ?_
      refine rr_wrV (rest := []) (wr := [(no, .inl (cy 1, 118, .inl (iA a))), (pa, .inl (cy 1, 1652, .inl (iA ap)))]) (ws2 := [(mo, .inr (7, [vI 2, .ref no, .ref th, .ref pa, vI ss, .ref sl, .ref sv, .ref tx, vI ty])), (no, .inl (cy 1, 118, .inl (iA a))), (pa, .inl (cy 1, 1652, .inl (iA ap)))]) F hK (c_X7_refuses l D cy mo no th pa sl sv tx tr ss ty 2 (by first | assumption | omega | exact ⟨by omega, by omega⟩)) hP hD hS hA sf_X7_refuses tw910 7 rfl rfl ⟨Nat.le_of_ble_eq_true rfl, Nat.le_of_ble_eq_true rfl⟩ hl rfl (Nat.le_of_ble_eq_true rfl) dX7_carve_25 ⟨Nat.zero_le _, Nat.zero_le _⟩ [0] [1, 2] [2, 0, 1] rfl rfl (by decide) (by decide) (by decide) rfl rfl (by decide) (fun H locs hP hD hS => ?_)
      have hP : va_P D vwCl [(mo, .inr (7, [vI 2, .ref no, .ref th, .ref pa, vI ss, .ref sl, .ref sv, .ref tx, vI ty])), (no, .inl (cy 1, 118, .inl (iA a))), (pa, .inl (cy 1, 1652, .inl (iA ap)))] H := hP
      have hD : va_D _ [(mo, .inr (7, [vI 2, .ref no, .ref th, .ref pa, vI ss, .ref sl, .ref sv, .ref tx, vI ty])), (no, .inl (cy 1, 118, .inl (iA a))), (pa, .inl (cy 1, 1652, .inl (iA ap)))] := hD
      refine rr_ifP_eq F (tgt := 33) dX7_carve_28 (by decide) (fun c_28 => ?_) (fun c_28 => ?_)
      · exfalso; omega
      · exfalso; omega
    · refine rr_iconst F dX7_carve_20 ?_
      refine lv_goto (tgt := 25) F.1 F.2.1 dX7_carve_21 (by decide) ?_
      refine rr_wrV (rest := []) (wr := [(no, .inl (cy 1, 118, .inl (iA a))), (pa, .inl (cy 1, 1652, .inl (iA ap)))]) (ws2 := [(mo, .inr (7, [vI 0, .ref no, .ref th, .ref pa, vI ss, .ref sl, .ref sv, .ref tx, vI ty])), (no, .inl (cy 1, 118, .inl (iA a))), (pa, .inl (cy 1, 1652, .inl (iA ap)))]) F hK (c_X7_refuses l D cy mo no th pa sl sv tx tr ss ty 0 (by first | assumption | omega | exact ⟨by omega, by omega⟩)) hP hD hS hA sf_X7_refuses tw910 7 rfl rfl ⟨Nat.le_of_ble_eq_true rfl, Nat.le_of_ble_eq_true rfl⟩ hl rfl (Nat.le_of_ble_eq_true rfl) dX7_carve_25 ⟨Nat.zero_le _, Nat.zero_le _⟩ [0] [1, 2] [2, 0, 1] rfl rfl (by decide) (by decide) (by decide) rfl rfl (by decide) (fun H locs hP hD hS => ?_)
      have hP : va_P D vwCl [(mo, .inr (7, [vI 0, .ref no, .ref th, .ref pa, vI ss, .ref sl, .ref sv, .ref tx, vI ty])), (no, .inl (cy 1, 118, .inl (iA a))), (pa, .inl (cy 1, 1652, .inl (iA ap)))] H := hP
      have hD : va_D _ [(mo, .inr (7, [vI 0, .ref no, .ref th, .ref pa, vI ss, .ref sl, .ref sv, .ref tx, vI ty])), (no, .inl (cy 1, 118, .inl (iA a))), (pa, .inl (cy 1, 1652, .inl (iA ap)))] := hD
      refine rr_ifP_eq F (tgt := 33) dX7_carve_28 (by decide) (fun c_28 => ?_) (fun c_28 => ?_)
      · refine lv_aload_n F.1 F.2.1 dX7_carve_33 rfl (lv_at hl 0 rfl) ?_
        refine rr_wrV (rest := []) (wr := []) (ws2 := [(mo, .inr (7, [vI 0, .ref no, .ref th, .ref pa, vI (remN ss), .ref sl, .ref sv, .ref tx, vI ty])), (no, .inl (cy 1, 118, .inl (iA a))), (pa, .inl (cy 1, 1652, .inl (iA (remA a ap ss))))]) F hK (c_X7_remembers l D cy mo no th pa sl sv tx 0 ss ty a ap (by first | assumption | omega | exact ⟨by omega, by omega⟩)) hP hD hS hA sf_X7_remembers tw1092 7 rfl rfl ⟨Nat.le_of_ble_eq_true rfl, Nat.le_of_ble_eq_true rfl⟩ hl rfl (Nat.le_of_ble_eq_true rfl) dX7_carve_34 ⟨Nat.zero_le _, Nat.zero_le _⟩ [0, 1, 2] [] [0, 1, 2] rfl rfl (by decide) (by decide) (by decide) rfl rfl (by decide) (fun H locs hP hD hS => ?_)
        have hP : va_P D vwCl [(mo, .inr (7, [vI 0, .ref no, .ref th, .ref pa, vI (remN ss), .ref sl, .ref sv, .ref tx, vI ty])), (no, .inl (cy 1, 118, .inl (iA a))), (pa, .inl (cy 1, 1652, .inl (iA (remA a ap ss))))] H := hP
        have hD : va_D _ [(mo, .inr (7, [vI 0, .ref no, .ref th, .ref pa, vI (remN ss), .ref sl, .ref sv, .ref tx, vI ty])), (no, .inl (cy 1, 118, .inl (iA a))), (pa, .inl (cy 1, 1652, .inl (iA (remA a ap ss))))] := hD
        refine lv_aload_n F.1 F.2.1 dX7_carve_37 rfl (lv_at hl 0 rfl) ?_
        refine gf7_1 F hK hP 0 rfl tw875 dX7_carve_38 ?_
        refine lv_iload_n F.1 F.2.1 dX7_carve_41 rfl (lv_at hl 1 rfl) ?_
        refine lv_iload_n F.1 F.2.1 dX7_carve_42 rfl (lv_at hl 2 rfl) ?_
        refine rr_wrS (rest := []) (wr := [(mo, .inr (7, [vI 0, .ref no, .ref th, .ref pa, vI (remN ss), .ref sl, .ref sv, .ref tx, vI ty])), (pa, .inl (cy 1, 1652, .inl (iA (remA a ap ss))))]) (ws2 := [(mo, .inr (7, [vI 0, .ref no, .ref th, .ref pa, vI (remN ss), .ref sl, .ref sv, .ref tx, vI ty])), (no, .inl (cy 1, 118, .inl (iA (updZ a (1 + i) c0)))), (pa, .inl (cy 1, 1652, .inl (iA (remA a ap ss))))]) F hK (c_X7_carves l D cy no a i c0 (by first | assumption | omega | exact ⟨by omega, by omega⟩)) hP hD hS hA sf_X7_carves tw1118 ⟨Nat.le_of_ble_eq_true rfl, Nat.le_of_ble_eq_true rfl⟩ hl rfl (Nat.le_of_ble_eq_true rfl) dX7_carve_43 ⟨Nat.zero_le _, Nat.zero_le _⟩ [1] [0, 2] [0, 2, 1] rfl rfl (by decide) (by decide) (by decide) rfl rfl (by decide) (fun H locs hP hD hS => ?_)
        have hP : va_P D vwCl [(mo, .inr (7, [vI 0, .ref no, .ref th, .ref pa, vI (remN ss), .ref sl, .ref sv, .ref tx, vI ty])), (no, .inl (cy 1, 118, .inl (iA (updZ a (1 + i) c0)))), (pa, .inl (cy 1, 1652, .inl (iA (remA a ap ss))))] H := hP
        have hD : va_D _ [(mo, .inr (7, [vI 0, .ref no, .ref th, .ref pa, vI (remN ss), .ref sl, .ref sv, .ref tx, vI ty])), (no, .inl (cy 1, 118, .inl (iA (updZ a (1 + i) c0)))), (pa, .inl (cy 1, 1652, .inl (iA (remA a ap ss))))] := hD
        refine rr_rdS (rest := []) F hK (c_X7_codeOf l D cy (a (1 + i)) (hM.q (by omega) (by omega))) (hP.sub [] rfl) sf_X7_codeOf tw989 ⟨Nat.le_of_ble_eq_true rfl, Nat.le_of_ble_eq_true rfl⟩ hl rfl (Nat.le_of_ble_eq_true rfl) dX7_carve_46 ⟨Nat.zero_le _, Nat.zero_le _⟩ ?_
        exact rr_wiret F hr hlocks dX7_carve_49 hP hS (rfl) (by first | rfl | omega)
      · exfalso; omega
  · refine rr_iconst F dX7_carve_9 ?_
    refine lv_goto (tgt := 25) F.1 F.2.1 dX7_carve_10 (by decide) ?_
    refine rr_wrV (rest := []) (wr := [(no, .inl (cy 1, 118, .inl (iA a))), (pa, .inl (cy 1, 1652, .inl (iA ap)))]) (ws2 := [(mo, .inr (7, [vI 1, .ref no, .ref th, .ref pa, vI ss, .ref sl, .ref sv, .ref tx, vI ty])), (no, .inl (cy 1, 118, .inl (iA a))), (pa, .inl (cy 1, 1652, .inl (iA ap)))]) F hK (c_X7_refuses l D cy mo no th pa sl sv tx tr ss ty 1 (by first | assumption | omega | exact ⟨by omega, by omega⟩)) hP hD hS hA sf_X7_refuses tw910 7 rfl rfl ⟨Nat.le_of_ble_eq_true rfl, Nat.le_of_ble_eq_true rfl⟩ hl rfl (Nat.le_of_ble_eq_true rfl) dX7_carve_25 ⟨Nat.zero_le _, Nat.zero_le _⟩ [0] [1, 2] [2, 0, 1] rfl rfl (by decide) (by decide) (by decide) rfl rfl (by decide) (fun H locs hP hD hS => ?_)
    have hP : va_P D vwCl [(mo, .inr (7, [vI 1, .ref no, .ref th, .ref pa, vI ss, .ref sl, .ref sv, .ref tx, vI ty])), (no, .inl (cy 1, 118, .inl (iA a))), (pa, .inl (cy 1, 1652, .inl (iA ap)))] H := hP
    have hD : va_D _ [(mo, .inr (7, [vI 1, .ref no, .ref th, .ref pa, vI ss, .ref sl, .ref sv, .ref tx, vI ty])), (no, .inl (cy 1, 118, .inl (iA a))), (pa, .inl (cy 1, 1652, .inl (iA ap)))] := hD
    refine rr_ifP_eq F (tgt := 33) dX7_carve_28 (by decide) (fun c_28 => ?_) (fun c_28 => ?_)
    · exfalso; omega
    · exfalso; omega
set_option maxRecDepth 100000 in
set_option maxHeartbeats 4000000 in
theorem n_X7_carve (l : Launch) (D : va_G) (cy : Nat → ClassId) (mo no th pa sl sv tx : Nat) (tr ss ty : Int) (a ap : Int → Int) (i c0 : Int) (hM : MR a) (hs : 0 ≤ ss ∧ ss ≤ 14) (hi : inR i) (hc : inR c0) (hbad : ¬ ((0 ≤ i ∧ i < a 0) ∧ 0 ≤ c0 ∧ c0 ≤ 8)) : Wr l yX7_carve cX7_carve 3 (some FieldType.int) 2 [.ref mo, vI i, vI c0] D cy [(mo, .inr (7, [vI tr, .ref no, .ref th, .ref pa, vI ss, .ref sl, .ref sv, .ref tx, vI ty])), (no, .inl (cy 1, 118, .inl (iA a))), (pa, .inl (cy 1, 1652, .inl (iA ap)))] [(mo, .inr (7, [vI (if 0 ≤ i ∧ i < a 0 then 2 else 1), .ref no, .ref th, .ref pa, vI ss, .ref sl, .ref sv, .ref tx, vI ty])), (no, .inl (cy 1, 118, .inl (iA a))), (pa, .inl (cy 1, 1652, .inl (iA ap)))] (some (vI 0)) := by
  refine Wr.of RX7 rfl [(0, .ref mo), (1, vI i), (2, vI c0)] rfl (by decide +kernel) (Nat.le_of_ble_eq_true rfl) ?_
  intro p e s m args below meth c F hr hlocks hK hP hD hS hA ls hl
  have hn0 := hM.n
  have hw0 := hM.nw
  have hc0 := hM.wc
  refine lv_aload_n F.1 F.2.1 dX7_carve_0 rfl (lv_at hl 0 rfl) ?_
  refine lv_aload_n F.1 F.2.1 dX7_carve_1 rfl (lv_at hl 0 rfl) ?_
  refine lv_iload_n F.1 F.2.1 dX7_carve_2 rfl (lv_at hl 1 rfl) ?_
  refine rr_rdV (rest := [.ref mo]) F hK (c_X7_isPlace l D cy mo no th pa sl sv tx tr ss ty a i (by first | assumption | omega | exact ⟨by omega, by omega⟩) (by first | assumption | omega | exact ⟨by omega, by omega⟩)) (hP.sub [0, 1] rfl) sf_X7_isPlace tw985 7 rfl rfl ⟨Nat.le_of_ble_eq_true rfl, Nat.le_of_ble_eq_true rfl⟩ hl rfl (Nat.le_of_ble_eq_true rfl) dX7_carve_3 ⟨Nat.zero_le _, Nat.zero_le _⟩ ?_
  refine rr_ifP_ne F (tgt := 13) dX7_carve_6 (by decide) (fun c_6 => ?_) (fun c_6 => ?_)
  · refine lv_iload_n F.1 F.2.1 dX7_carve_13 rfl (lv_at hl 2 rfl) ?_
    refine rr_rdS (rest := [.ref mo]) F hK (c_X7_isSign l D cy c0 (by first | assumption | omega | exact ⟨by omega, by omega⟩)) (hP.sub [] rfl) sf_X7_isSign tw1115 ⟨Nat.le_of_ble_eq_true rfl, Nat.le_of_ble_eq_true rfl⟩ hl rfl (Nat.le_of_ble_eq_true rfl) dX7_carve_14 ⟨Nat.zero_le _, Nat.zero_le _⟩ ?_
    refine rr_ifP_eq F (tgt := 24) dX7_carve_17 (by decide) (fun c_17 => ?_) (fun c_17 => ?_)
    · refine rr_iconst F dX7_carve_24 ?_
      refine rr_wrV (rest := []) (wr := [(no, .inl (cy 1, 118, .inl (iA a))), (pa, .inl (cy 1, 1652, .inl (iA ap)))]) (ws2 := [(mo, .inr (7, [vI 2, .ref no, .ref th, .ref pa, vI ss, .ref sl, .ref sv, .ref tx, vI ty])), (no, .inl (cy 1, 118, .inl (iA a))), (pa, .inl (cy 1, 1652, .inl (iA ap)))]) F hK (c_X7_refuses l D cy mo no th pa sl sv tx tr ss ty 2 (by first | assumption | omega | exact ⟨by omega, by omega⟩)) hP hD hS hA sf_X7_refuses tw910 7 rfl rfl ⟨Nat.le_of_ble_eq_true rfl, Nat.le_of_ble_eq_true rfl⟩ hl rfl (Nat.le_of_ble_eq_true rfl) dX7_carve_25 ⟨Nat.zero_le _, Nat.zero_le _⟩ [0] [1, 2] [2, 0, 1] rfl rfl (by decide) (by decide) (by decide) rfl rfl (by decide) (fun H locs hP hD hS => ?_)
      have hP : va_P D vwCl [(mo, .inr (7, [vI 2, .ref no, .ref th, .ref pa, vI ss, .ref sl, .ref sv, .ref tx, vI ty])), (no, .inl (cy 1, 118, .inl (iA a))), (pa, .inl (cy 1, 1652, .inl (iA ap)))] H := hP
      have hD : va_D _ [(mo, .inr (7, [vI 2, .ref no, .ref th, .ref pa, vI ss, .ref sl, .ref sv, .ref tx, vI ty])), (no, .inl (cy 1, 118, .inl (iA a))), (pa, .inl (cy 1, 1652, .inl (iA ap)))] := hD
      refine rr_ifP_eq F (tgt := 33) dX7_carve_28 (by decide) (fun c_28 => ?_) (fun c_28 => ?_)
      · exfalso; omega
      · refine rr_iconst F dX7_carve_31 ?_
        exact rr_wiret F hr hlocks dX7_carve_32 hP hS (by repeat' (first | rfl | split | omega)) (rfl)
    · refine rr_iconst F dX7_carve_20 ?_
      refine lv_goto (tgt := 25) F.1 F.2.1 dX7_carve_21 (by decide) ?_
      refine rr_wrV (rest := []) (wr := [(no, .inl (cy 1, 118, .inl (iA a))), (pa, .inl (cy 1, 1652, .inl (iA ap)))]) (ws2 := [(mo, .inr (7, [vI 0, .ref no, .ref th, .ref pa, vI ss, .ref sl, .ref sv, .ref tx, vI ty])), (no, .inl (cy 1, 118, .inl (iA a))), (pa, .inl (cy 1, 1652, .inl (iA ap)))]) F hK (c_X7_refuses l D cy mo no th pa sl sv tx tr ss ty 0 (by first | assumption | omega | exact ⟨by omega, by omega⟩)) hP hD hS hA sf_X7_refuses tw910 7 rfl rfl ⟨Nat.le_of_ble_eq_true rfl, Nat.le_of_ble_eq_true rfl⟩ hl rfl (Nat.le_of_ble_eq_true rfl) dX7_carve_25 ⟨Nat.zero_le _, Nat.zero_le _⟩ [0] [1, 2] [2, 0, 1] rfl rfl (by decide) (by decide) (by decide) rfl rfl (by decide) (fun H locs hP hD hS => ?_)
      have hP : va_P D vwCl [(mo, .inr (7, [vI 0, .ref no, .ref th, .ref pa, vI ss, .ref sl, .ref sv, .ref tx, vI ty])), (no, .inl (cy 1, 118, .inl (iA a))), (pa, .inl (cy 1, 1652, .inl (iA ap)))] H := hP
      have hD : va_D _ [(mo, .inr (7, [vI 0, .ref no, .ref th, .ref pa, vI ss, .ref sl, .ref sv, .ref tx, vI ty])), (no, .inl (cy 1, 118, .inl (iA a))), (pa, .inl (cy 1, 1652, .inl (iA ap)))] := hD
      refine rr_ifP_eq F (tgt := 33) dX7_carve_28 (by decide) (fun c_28 => ?_) (fun c_28 => ?_)
      · exfalso; omega
      · exfalso; omega
  · refine rr_iconst F dX7_carve_9 ?_
    refine lv_goto (tgt := 25) F.1 F.2.1 dX7_carve_10 (by decide) ?_
    refine rr_wrV (rest := []) (wr := [(no, .inl (cy 1, 118, .inl (iA a))), (pa, .inl (cy 1, 1652, .inl (iA ap)))]) (ws2 := [(mo, .inr (7, [vI 1, .ref no, .ref th, .ref pa, vI ss, .ref sl, .ref sv, .ref tx, vI ty])), (no, .inl (cy 1, 118, .inl (iA a))), (pa, .inl (cy 1, 1652, .inl (iA ap)))]) F hK (c_X7_refuses l D cy mo no th pa sl sv tx tr ss ty 1 (by first | assumption | omega | exact ⟨by omega, by omega⟩)) hP hD hS hA sf_X7_refuses tw910 7 rfl rfl ⟨Nat.le_of_ble_eq_true rfl, Nat.le_of_ble_eq_true rfl⟩ hl rfl (Nat.le_of_ble_eq_true rfl) dX7_carve_25 ⟨Nat.zero_le _, Nat.zero_le _⟩ [0] [1, 2] [2, 0, 1] rfl rfl (by decide) (by decide) (by decide) rfl rfl (by decide) (fun H locs hP hD hS => ?_)
    have hP : va_P D vwCl [(mo, .inr (7, [vI 1, .ref no, .ref th, .ref pa, vI ss, .ref sl, .ref sv, .ref tx, vI ty])), (no, .inl (cy 1, 118, .inl (iA a))), (pa, .inl (cy 1, 1652, .inl (iA ap)))] H := hP
    have hD : va_D _ [(mo, .inr (7, [vI 1, .ref no, .ref th, .ref pa, vI ss, .ref sl, .ref sv, .ref tx, vI ty])), (no, .inl (cy 1, 118, .inl (iA a))), (pa, .inl (cy 1, 1652, .inl (iA ap)))] := hD
    refine rr_ifP_eq F (tgt := 33) dX7_carve_28 (by decide) (fun c_28 => ?_) (fun c_28 => ?_)
    · exfalso; omega
    · refine rr_iconst F dX7_carve_31 ?_
      exact rr_wiret F hr hlocks dX7_carve_32 hP hS (by repeat' (first | rfl | split | omega)) (rfl)
set_option maxRecDepth 100000 in
set_option maxHeartbeats 4000000 in
theorem c_X7_wear (l : Launch) (D : va_G) (cy : Nat → ClassId) (mo no th pa sl sv tx : Nat) (tr ss ty : Int) (a ap : Int → Int) (i : Int) (hM : MR a) (hs : 0 ≤ ss ∧ ss ≤ 14) (hi : inR i) (h1 : 0 ≤ i ∧ i < a 0) : Wr l yX7_wear cX7_wear 2 (some FieldType.int) 2 [.ref mo, vI i] D cy [(mo, .inr (7, [vI tr, .ref no, .ref th, .ref pa, vI ss, .ref sl, .ref sv, .ref tx, vI ty])), (no, .inl (cy 1, 118, .inl (iA a))), (pa, .inl (cy 1, 1652, .inl (iA ap)))] [(mo, .inr (7, [vI 0, .ref no, .ref th, .ref pa, vI (remN ss), .ref sl, .ref sv, .ref tx, vI ty])), (no, .inl (cy 1, 118, .inl (iA (updZ a (1 + i) (if a (1 + i) = 0 then 0 else 9))))), (pa, .inl (cy 1, 1652, .inl (iA (remA a ap ss))))] (some (vI (cnt (fun j => (updZ a (1 + i) (if a (1 + i) = 0 then 0 else 9)) (1 + j) = 9) (a 0)))) := by
  refine Wr.of RX7 rfl [(0, .ref mo), (1, vI i)] rfl (by decide +kernel) (Nat.le_of_ble_eq_true rfl) ?_
  intro p e s m args below meth c F hr hlocks hK hP hD hS hA ls hl
  have hn0 := hM.n
  have hw0 := hM.nw
  have hc0 := hM.wc
  refine lv_aload_n F.1 F.2.1 dX7_wear_0 rfl (lv_at hl 0 rfl) ?_
  refine lv_aload_n F.1 F.2.1 dX7_wear_1 rfl (lv_at hl 0 rfl) ?_
  refine lv_iload_n F.1 F.2.1 dX7_wear_2 rfl (lv_at hl 1 rfl) ?_
  refine rr_rdV (rest := [.ref mo]) F hK (c_X7_isPlace l D cy mo no th pa sl sv tx tr ss ty a i (by first | assumption | omega | exact ⟨by omega, by omega⟩) (by first | assumption | omega | exact ⟨by omega, by omega⟩)) (hP.sub [0, 1] rfl) sf_X7_isPlace tw985 7 rfl rfl ⟨Nat.le_of_ble_eq_true rfl, Nat.le_of_ble_eq_true rfl⟩ hl rfl (Nat.le_of_ble_eq_true rfl) dX7_wear_3 ⟨Nat.zero_le _, Nat.zero_le _⟩ ?_
  refine rr_ifP_eq F (tgt := 13) dX7_wear_6 (by decide) (fun c_6 => ?_) (fun c_6 => ?_)
  · refine rr_iconst F dX7_wear_13 ?_
    refine rr_wrV (rest := []) (wr := [(no, .inl (cy 1, 118, .inl (iA a))), (pa, .inl (cy 1, 1652, .inl (iA ap)))]) (ws2 := [(mo, .inr (7, [vI 1, .ref no, .ref th, .ref pa, vI ss, .ref sl, .ref sv, .ref tx, vI ty])), (no, .inl (cy 1, 118, .inl (iA a))), (pa, .inl (cy 1, 1652, .inl (iA ap)))]) F hK (c_X7_refuses l D cy mo no th pa sl sv tx tr ss ty 1 (by first | assumption | omega | exact ⟨by omega, by omega⟩)) hP hD hS hA sf_X7_refuses tw910 7 rfl rfl ⟨Nat.le_of_ble_eq_true rfl, Nat.le_of_ble_eq_true rfl⟩ hl rfl (Nat.le_of_ble_eq_true rfl) dX7_wear_14 ⟨Nat.zero_le _, Nat.zero_le _⟩ [0] [1, 2] [2, 0, 1] rfl rfl (by decide) (by decide) (by decide) rfl rfl (by decide) (fun H locs hP hD hS => ?_)
    have hP : va_P D vwCl [(mo, .inr (7, [vI 1, .ref no, .ref th, .ref pa, vI ss, .ref sl, .ref sv, .ref tx, vI ty])), (no, .inl (cy 1, 118, .inl (iA a))), (pa, .inl (cy 1, 1652, .inl (iA ap)))] H := hP
    have hD : va_D _ [(mo, .inr (7, [vI 1, .ref no, .ref th, .ref pa, vI ss, .ref sl, .ref sv, .ref tx, vI ty])), (no, .inl (cy 1, 118, .inl (iA a))), (pa, .inl (cy 1, 1652, .inl (iA ap)))] := hD
    refine rr_ifP_eq F (tgt := 22) dX7_wear_17 (by decide) (fun c_17 => ?_) (fun c_17 => ?_)
    · exfalso; omega
    · exfalso; omega
  · refine rr_iconst F dX7_wear_9 ?_
    refine lv_goto (tgt := 14) F.1 F.2.1 dX7_wear_10 (by decide) ?_
    refine rr_wrV (rest := []) (wr := [(no, .inl (cy 1, 118, .inl (iA a))), (pa, .inl (cy 1, 1652, .inl (iA ap)))]) (ws2 := [(mo, .inr (7, [vI 0, .ref no, .ref th, .ref pa, vI ss, .ref sl, .ref sv, .ref tx, vI ty])), (no, .inl (cy 1, 118, .inl (iA a))), (pa, .inl (cy 1, 1652, .inl (iA ap)))]) F hK (c_X7_refuses l D cy mo no th pa sl sv tx tr ss ty 0 (by first | assumption | omega | exact ⟨by omega, by omega⟩)) hP hD hS hA sf_X7_refuses tw910 7 rfl rfl ⟨Nat.le_of_ble_eq_true rfl, Nat.le_of_ble_eq_true rfl⟩ hl rfl (Nat.le_of_ble_eq_true rfl) dX7_wear_14 ⟨Nat.zero_le _, Nat.zero_le _⟩ [0] [1, 2] [2, 0, 1] rfl rfl (by decide) (by decide) (by decide) rfl rfl (by decide) (fun H locs hP hD hS => ?_)
    have hP : va_P D vwCl [(mo, .inr (7, [vI 0, .ref no, .ref th, .ref pa, vI ss, .ref sl, .ref sv, .ref tx, vI ty])), (no, .inl (cy 1, 118, .inl (iA a))), (pa, .inl (cy 1, 1652, .inl (iA ap)))] H := hP
    have hD : va_D _ [(mo, .inr (7, [vI 0, .ref no, .ref th, .ref pa, vI ss, .ref sl, .ref sv, .ref tx, vI ty])), (no, .inl (cy 1, 118, .inl (iA a))), (pa, .inl (cy 1, 1652, .inl (iA ap)))] := hD
    refine rr_ifP_eq F (tgt := 22) dX7_wear_17 (by decide) (fun c_17 => ?_) (fun c_17 => ?_)
    · refine lv_aload_n F.1 F.2.1 dX7_wear_22 rfl (lv_at hl 0 rfl) ?_
      refine rr_wrV (rest := []) (wr := []) (ws2 := [(mo, .inr (7, [vI 0, .ref no, .ref th, .ref pa, vI (remN ss), .ref sl, .ref sv, .ref tx, vI ty])), (no, .inl (cy 1, 118, .inl (iA a))), (pa, .inl (cy 1, 1652, .inl (iA (remA a ap ss))))]) F hK (c_X7_remembers l D cy mo no th pa sl sv tx 0 ss ty a ap (by first | assumption | omega | exact ⟨by omega, by omega⟩)) hP hD hS hA sf_X7_remembers tw1092 7 rfl rfl ⟨Nat.le_of_ble_eq_true rfl, Nat.le_of_ble_eq_true rfl⟩ hl rfl (Nat.le_of_ble_eq_true rfl) dX7_wear_23 ⟨Nat.zero_le _, Nat.zero_le _⟩ [0, 1, 2] [] [0, 1, 2] rfl rfl (by decide) (by decide) (by decide) rfl rfl (by decide) (fun H locs hP hD hS => ?_)
      have hP : va_P D vwCl [(mo, .inr (7, [vI 0, .ref no, .ref th, .ref pa, vI (remN ss), .ref sl, .ref sv, .ref tx, vI ty])), (no, .inl (cy 1, 118, .inl (iA a))), (pa, .inl (cy 1, 1652, .inl (iA (remA a ap ss))))] H := hP
      have hD : va_D _ [(mo, .inr (7, [vI 0, .ref no, .ref th, .ref pa, vI (remN ss), .ref sl, .ref sv, .ref tx, vI ty])), (no, .inl (cy 1, 118, .inl (iA a))), (pa, .inl (cy 1, 1652, .inl (iA (remA a ap ss))))] := hD
      refine lv_aload_n F.1 F.2.1 dX7_wear_26 rfl (lv_at hl 0 rfl) ?_
      refine gf7_1 F hK hP 0 rfl tw875 dX7_wear_27 ?_
      refine lv_iload_n F.1 F.2.1 dX7_wear_30 rfl (lv_at hl 1 rfl) ?_
      refine rr_wrS (rest := []) (wr := [(mo, .inr (7, [vI 0, .ref no, .ref th, .ref pa, vI (remN ss), .ref sl, .ref sv, .ref tx, vI ty])), (pa, .inl (cy 1, 1652, .inl (iA (remA a ap ss))))]) (ws2 := [(mo, .inr (7, [vI 0, .ref no, .ref th, .ref pa, vI (remN ss), .ref sl, .ref sv, .ref tx, vI ty])), (no, .inl (cy 1, 118, .inl (iA (updZ a (1 + i) (if a (1 + i) = 0 then 0 else 9))))), (pa, .inl (cy 1, 1652, .inl (iA (remA a ap ss))))]) F hK (c_X7_wears l D cy no a i (by first | assumption | omega | exact ⟨by omega, by omega⟩) (by first | assumption | omega | exact ⟨by omega, by omega⟩)) hP hD hS hA sf_X7_wears tw1125 ⟨Nat.le_of_ble_eq_true rfl, Nat.le_of_ble_eq_true rfl⟩ hl rfl (Nat.le_of_ble_eq_true rfl) dX7_wear_31 ⟨Nat.zero_le _, Nat.zero_le _⟩ [1] [0, 2] [0, 2, 1] rfl rfl (by decide) (by decide) (by decide) rfl rfl (by decide) (fun H locs hP hD hS => ?_)
      have hP : va_P D vwCl [(mo, .inr (7, [vI 0, .ref no, .ref th, .ref pa, vI (remN ss), .ref sl, .ref sv, .ref tx, vI ty])), (no, .inl (cy 1, 118, .inl (iA (updZ a (1 + i) (if a (1 + i) = 0 then 0 else 9))))), (pa, .inl (cy 1, 1652, .inl (iA (remA a ap ss))))] H := hP
      have hD : va_D _ [(mo, .inr (7, [vI 0, .ref no, .ref th, .ref pa, vI (remN ss), .ref sl, .ref sv, .ref tx, vI ty])), (no, .inl (cy 1, 118, .inl (iA (updZ a (1 + i) (if a (1 + i) = 0 then 0 else 9))))), (pa, .inl (cy 1, 1652, .inl (iA (remA a ap ss))))] := hD
      exact rr_wiret F hr hlocks dX7_wear_34 hP hS (rfl) (by first | rfl | omega)
    · exfalso; omega
set_option maxRecDepth 100000 in
set_option maxHeartbeats 4000000 in
theorem n_X7_wear (l : Launch) (D : va_G) (cy : Nat → ClassId) (mo no th pa sl sv tx : Nat) (tr ss ty : Int) (a ap : Int → Int) (i : Int) (hM : MR a) (hs : 0 ≤ ss ∧ ss ≤ 14) (hi : inR i) (hbad : ¬ (0 ≤ i ∧ i < a 0)) : Wr l yX7_wear cX7_wear 2 (some FieldType.int) 2 [.ref mo, vI i] D cy [(mo, .inr (7, [vI tr, .ref no, .ref th, .ref pa, vI ss, .ref sl, .ref sv, .ref tx, vI ty])), (no, .inl (cy 1, 118, .inl (iA a))), (pa, .inl (cy 1, 1652, .inl (iA ap)))] [(mo, .inr (7, [vI 1, .ref no, .ref th, .ref pa, vI ss, .ref sl, .ref sv, .ref tx, vI ty])), (no, .inl (cy 1, 118, .inl (iA a))), (pa, .inl (cy 1, 1652, .inl (iA ap)))] (some (vI 0)) := by
  refine Wr.of RX7 rfl [(0, .ref mo), (1, vI i)] rfl (by decide +kernel) (Nat.le_of_ble_eq_true rfl) ?_
  intro p e s m args below meth c F hr hlocks hK hP hD hS hA ls hl
  have hn0 := hM.n
  have hw0 := hM.nw
  have hc0 := hM.wc
  refine lv_aload_n F.1 F.2.1 dX7_wear_0 rfl (lv_at hl 0 rfl) ?_
  refine lv_aload_n F.1 F.2.1 dX7_wear_1 rfl (lv_at hl 0 rfl) ?_
  refine lv_iload_n F.1 F.2.1 dX7_wear_2 rfl (lv_at hl 1 rfl) ?_
  refine rr_rdV (rest := [.ref mo]) F hK (c_X7_isPlace l D cy mo no th pa sl sv tx tr ss ty a i (by first | assumption | omega | exact ⟨by omega, by omega⟩) (by first | assumption | omega | exact ⟨by omega, by omega⟩)) (hP.sub [0, 1] rfl) sf_X7_isPlace tw985 7 rfl rfl ⟨Nat.le_of_ble_eq_true rfl, Nat.le_of_ble_eq_true rfl⟩ hl rfl (Nat.le_of_ble_eq_true rfl) dX7_wear_3 ⟨Nat.zero_le _, Nat.zero_le _⟩ ?_
  refine rr_ifP_eq F (tgt := 13) dX7_wear_6 (by decide) (fun c_6 => ?_) (fun c_6 => ?_)
  · refine rr_iconst F dX7_wear_13 ?_
    refine rr_wrV (rest := []) (wr := [(no, .inl (cy 1, 118, .inl (iA a))), (pa, .inl (cy 1, 1652, .inl (iA ap)))]) (ws2 := [(mo, .inr (7, [vI 1, .ref no, .ref th, .ref pa, vI ss, .ref sl, .ref sv, .ref tx, vI ty])), (no, .inl (cy 1, 118, .inl (iA a))), (pa, .inl (cy 1, 1652, .inl (iA ap)))]) F hK (c_X7_refuses l D cy mo no th pa sl sv tx tr ss ty 1 (by first | assumption | omega | exact ⟨by omega, by omega⟩)) hP hD hS hA sf_X7_refuses tw910 7 rfl rfl ⟨Nat.le_of_ble_eq_true rfl, Nat.le_of_ble_eq_true rfl⟩ hl rfl (Nat.le_of_ble_eq_true rfl) dX7_wear_14 ⟨Nat.zero_le _, Nat.zero_le _⟩ [0] [1, 2] [2, 0, 1] rfl rfl (by decide) (by decide) (by decide) rfl rfl (by decide) (fun H locs hP hD hS => ?_)
    have hP : va_P D vwCl [(mo, .inr (7, [vI 1, .ref no, .ref th, .ref pa, vI ss, .ref sl, .ref sv, .ref tx, vI ty])), (no, .inl (cy 1, 118, .inl (iA a))), (pa, .inl (cy 1, 1652, .inl (iA ap)))] H := hP
    have hD : va_D _ [(mo, .inr (7, [vI 1, .ref no, .ref th, .ref pa, vI ss, .ref sl, .ref sv, .ref tx, vI ty])), (no, .inl (cy 1, 118, .inl (iA a))), (pa, .inl (cy 1, 1652, .inl (iA ap)))] := hD
    refine rr_ifP_eq F (tgt := 22) dX7_wear_17 (by decide) (fun c_17 => ?_) (fun c_17 => ?_)
    · exfalso; omega
    · refine rr_iconst F dX7_wear_20 ?_
      exact rr_wiret F hr hlocks dX7_wear_21 hP hS (by repeat' (first | rfl | split | omega)) (rfl)
  · refine rr_iconst F dX7_wear_9 ?_
    refine lv_goto (tgt := 14) F.1 F.2.1 dX7_wear_10 (by decide) ?_
    refine rr_wrV (rest := []) (wr := [(no, .inl (cy 1, 118, .inl (iA a))), (pa, .inl (cy 1, 1652, .inl (iA ap)))]) (ws2 := [(mo, .inr (7, [vI 0, .ref no, .ref th, .ref pa, vI ss, .ref sl, .ref sv, .ref tx, vI ty])), (no, .inl (cy 1, 118, .inl (iA a))), (pa, .inl (cy 1, 1652, .inl (iA ap)))]) F hK (c_X7_refuses l D cy mo no th pa sl sv tx tr ss ty 0 (by first | assumption | omega | exact ⟨by omega, by omega⟩)) hP hD hS hA sf_X7_refuses tw910 7 rfl rfl ⟨Nat.le_of_ble_eq_true rfl, Nat.le_of_ble_eq_true rfl⟩ hl rfl (Nat.le_of_ble_eq_true rfl) dX7_wear_14 ⟨Nat.zero_le _, Nat.zero_le _⟩ [0] [1, 2] [2, 0, 1] rfl rfl (by decide) (by decide) (by decide) rfl rfl (by decide) (fun H locs hP hD hS => ?_)
    have hP : va_P D vwCl [(mo, .inr (7, [vI 0, .ref no, .ref th, .ref pa, vI ss, .ref sl, .ref sv, .ref tx, vI ty])), (no, .inl (cy 1, 118, .inl (iA a))), (pa, .inl (cy 1, 1652, .inl (iA ap)))] H := hP
    have hD : va_D _ [(mo, .inr (7, [vI 0, .ref no, .ref th, .ref pa, vI ss, .ref sl, .ref sv, .ref tx, vI ty])), (no, .inl (cy 1, 118, .inl (iA a))), (pa, .inl (cy 1, 1652, .inl (iA ap)))] := hD
    refine rr_ifP_eq F (tgt := 22) dX7_wear_17 (by decide) (fun c_17 => ?_) (fun c_17 => ?_)
    · exfalso; omega
    · exfalso; omega
set_option maxRecDepth 100000 in
set_option maxHeartbeats 4000000 in
theorem c_X7_insert (l : Launch) (D : va_G) (cy : Nat → ClassId) (mo no th pa sl sv tx : Nat) (tr ss ty : Int) (a ap : Int → Int) (i c0 : Int) (hM : MR a) (hs : 0 ≤ ss ∧ ss ≤ 14) (hi : inR i) (hc : inR c0) (h1 : 0 ≤ i ∧ i ≤ a 0) (h2 : 0 ≤ c0 ∧ c0 ≤ 8) (h3 : a 0 < 24) : Wr l yX7_insert cX7_insert 3 (some FieldType.int) 2 [.ref mo, vI i, vI c0] D cy [(mo, .inr (7, [vI tr, .ref no, .ref th, .ref pa, vI ss, .ref sl, .ref sv, .ref tx, vI ty])), (no, .inl (cy 1, 118, .inl (iA a))), (pa, .inl (cy 1, 1652, .inl (iA ap)))] [(mo, .inr (7, [vI 0, .ref no, .ref th, .ref pa, vI (remN ss), .ref sl, .ref sv, .ref tx, vI ty])), (no, .inl (cy 1, 118, .inl (iA (zrZ (updZ (updZ (insZ a (1 + a 0) (1 + i)) (1 + i) c0) 0 (a 0 + 1)) 96 117)))), (pa, .inl (cy 1, 1652, .inl (iA (remA a ap ss))))] (some (vI (a 0 + 1))) := by
  refine Wr.of RX7 rfl [(0, .ref mo), (1, vI i), (2, vI c0)] rfl (by decide +kernel) (Nat.le_of_ble_eq_true rfl) ?_
  intro p e s m args below meth c F hr hlocks hK hP hD hS hA ls hl
  have hn0 := hM.n
  have hw0 := hM.nw
  have hc0 := hM.wc
  refine lv_aload_n F.1 F.2.1 dX7_insert_0 rfl (lv_at hl 0 rfl) ?_
  refine lv_iload_n F.1 F.2.1 dX7_insert_1 rfl (lv_at hl 1 rfl) ?_
  refine rr_iconst F dX7_insert_2 ?_
  refine lv_aload_n F.1 F.2.1 dX7_insert_3 rfl (lv_at hl 0 rfl) ?_
  refine gf7_1 F hK hP 0 rfl tw875 dX7_insert_4 ?_
  refine rr_iconst F dX7_insert_7 ?_
  refine rr_iald F hK hP 1 rfl (by omega) (by omega) (by decide) dX7_insert_8 ?_
  refine rr_rdS (rest := [.ref mo]) F hK (c_X7_in l D cy i 0 (a 0) (by first | assumption | omega | exact ⟨by omega, by omega⟩) (by first | assumption | omega | exact ⟨by omega, by omega⟩) (by first | assumption | omega | exact ⟨by omega, by omega⟩)) (hP.sub [] rfl) sf_X7_in tw921 ⟨Nat.le_of_ble_eq_true rfl, Nat.le_of_ble_eq_true rfl⟩ hl rfl (Nat.le_of_ble_eq_true rfl) dX7_insert_9 ⟨Nat.zero_le _, Nat.zero_le _⟩ ?_
  refine rr_ifP_ne F (tgt := 19) dX7_insert_12 (by decide) (fun c_12 => ?_) (fun c_12 => ?_)
  · refine lv_iload_n F.1 F.2.1 dX7_insert_19 rfl (lv_at hl 2 rfl) ?_
    refine rr_rdS (rest := [.ref mo]) F hK (c_X7_isSign l D cy c0 (by first | assumption | omega | exact ⟨by omega, by omega⟩)) (hP.sub [] rfl) sf_X7_isSign tw1115 ⟨Nat.le_of_ble_eq_true rfl, Nat.le_of_ble_eq_true rfl⟩ hl rfl (Nat.le_of_ble_eq_true rfl) dX7_insert_20 ⟨Nat.zero_le _, Nat.zero_le _⟩ ?_
    refine rr_ifP_ne F (tgt := 30) dX7_insert_23 (by decide) (fun c_23 => ?_) (fun c_23 => ?_)
    · refine lv_aload_n F.1 F.2.1 dX7_insert_30 rfl (lv_at hl 0 rfl) ?_
      refine gf7_1 F hK hP 0 rfl tw875 dX7_insert_31 ?_
      refine rr_iconst F dX7_insert_34 ?_
      refine rr_iald F hK hP 1 rfl (by omega) (by omega) (by decide) dX7_insert_35 ?_
      refine rr_bipush F dX7_insert_36 (by decide) ?_
      refine rr_icmp_ne F (tgt := 45) dX7_insert_38 (by decide) ⟨by omega, by omega⟩ ⟨by omega, by omega⟩ (fun c_38 => ?_) (fun c_38 => ?_)
      · refine rr_iconst F dX7_insert_45 ?_
        refine rr_wrV (rest := []) (wr := [(no, .inl (cy 1, 118, .inl (iA a))), (pa, .inl (cy 1, 1652, .inl (iA ap)))]) (ws2 := [(mo, .inr (7, [vI 0, .ref no, .ref th, .ref pa, vI ss, .ref sl, .ref sv, .ref tx, vI ty])), (no, .inl (cy 1, 118, .inl (iA a))), (pa, .inl (cy 1, 1652, .inl (iA ap)))]) F hK (c_X7_refuses l D cy mo no th pa sl sv tx tr ss ty 0 (by first | assumption | omega | exact ⟨by omega, by omega⟩)) hP hD hS hA sf_X7_refuses tw910 7 rfl rfl ⟨Nat.le_of_ble_eq_true rfl, Nat.le_of_ble_eq_true rfl⟩ hl rfl (Nat.le_of_ble_eq_true rfl) dX7_insert_46 ⟨Nat.zero_le _, Nat.zero_le _⟩ [0] [1, 2] [2, 0, 1] rfl rfl (by decide) (by decide) (by decide) rfl rfl (by decide) (fun H locs hP hD hS => ?_)
        have hP : va_P D vwCl [(mo, .inr (7, [vI 0, .ref no, .ref th, .ref pa, vI ss, .ref sl, .ref sv, .ref tx, vI ty])), (no, .inl (cy 1, 118, .inl (iA a))), (pa, .inl (cy 1, 1652, .inl (iA ap)))] H := hP
        have hD : va_D _ [(mo, .inr (7, [vI 0, .ref no, .ref th, .ref pa, vI ss, .ref sl, .ref sv, .ref tx, vI ty])), (no, .inl (cy 1, 118, .inl (iA a))), (pa, .inl (cy 1, 1652, .inl (iA ap)))] := hD
        refine rr_ifP_eq F (tgt := 54) dX7_insert_49 (by decide) (fun c_49 => ?_) (fun c_49 => ?_)
        · refine lv_aload_n F.1 F.2.1 dX7_insert_54 rfl (lv_at hl 0 rfl) ?_
          refine rr_wrV (rest := []) (wr := []) (ws2 := [(mo, .inr (7, [vI 0, .ref no, .ref th, .ref pa, vI (remN ss), .ref sl, .ref sv, .ref tx, vI ty])), (no, .inl (cy 1, 118, .inl (iA a))), (pa, .inl (cy 1, 1652, .inl (iA (remA a ap ss))))]) F hK (c_X7_remembers l D cy mo no th pa sl sv tx 0 ss ty a ap (by first | assumption | omega | exact ⟨by omega, by omega⟩)) hP hD hS hA sf_X7_remembers tw1092 7 rfl rfl ⟨Nat.le_of_ble_eq_true rfl, Nat.le_of_ble_eq_true rfl⟩ hl rfl (Nat.le_of_ble_eq_true rfl) dX7_insert_55 ⟨Nat.zero_le _, Nat.zero_le _⟩ [0, 1, 2] [] [0, 1, 2] rfl rfl (by decide) (by decide) (by decide) rfl rfl (by decide) (fun H locs hP hD hS => ?_)
          have hP : va_P D vwCl [(mo, .inr (7, [vI 0, .ref no, .ref th, .ref pa, vI (remN ss), .ref sl, .ref sv, .ref tx, vI ty])), (no, .inl (cy 1, 118, .inl (iA a))), (pa, .inl (cy 1, 1652, .inl (iA (remA a ap ss))))] H := hP
          have hD : va_D _ [(mo, .inr (7, [vI 0, .ref no, .ref th, .ref pa, vI (remN ss), .ref sl, .ref sv, .ref tx, vI ty])), (no, .inl (cy 1, 118, .inl (iA a))), (pa, .inl (cy 1, 1652, .inl (iA (remA a ap ss))))] := hD
          refine lv_aload_n F.1 F.2.1 dX7_insert_58 rfl (lv_at hl 0 rfl) ?_
          refine gf7_1 F hK hP 0 rfl tw875 dX7_insert_59 ?_
          refine lv_iload_n F.1 F.2.1 dX7_insert_62 rfl (lv_at hl 1 rfl) ?_
          refine lv_iload_n F.1 F.2.1 dX7_insert_63 rfl (lv_at hl 2 rfl) ?_
          refine rr_wrS (rest := []) (wr := [(mo, .inr (7, [vI 0, .ref no, .ref th, .ref pa, vI (remN ss), .ref sl, .ref sv, .ref tx, vI ty])), (pa, .inl (cy 1, 1652, .inl (iA (remA a ap ss))))]) (ws2 := [(mo, .inr (7, [vI 0, .ref no, .ref th, .ref pa, vI (remN ss), .ref sl, .ref sv, .ref tx, vI ty])), (no, .inl (cy 1, 118, .inl (iA (zrZ (updZ (updZ (insZ a (1 + a 0) (1 + i)) (1 + i) c0) 0 (a 0 + 1)) 96 117)))), (pa, .inl (cy 1, 1652, .inl (iA (remA a ap ss))))]) F hK (c_X7_inserts l D cy no a i c0 (by first | assumption | omega | exact ⟨by omega, by omega⟩) (by first | assumption | omega | exact ⟨by omega, by omega⟩)) hP hD hS hA sf_X7_inserts tw1132 ⟨Nat.le_of_ble_eq_true rfl, Nat.le_of_ble_eq_true rfl⟩ hl rfl (Nat.le_of_ble_eq_true rfl) dX7_insert_64 ⟨Nat.zero_le _, Nat.zero_le _⟩ [1] [0, 2] [0, 2, 1] rfl rfl (by decide) (by decide) (by decide) rfl rfl (by decide) (fun H locs hP hD hS => ?_)
          have hP : va_P D vwCl [(mo, .inr (7, [vI 0, .ref no, .ref th, .ref pa, vI (remN ss), .ref sl, .ref sv, .ref tx, vI ty])), (no, .inl (cy 1, 118, .inl (iA (zrZ (updZ (updZ (insZ a (1 + a 0) (1 + i)) (1 + i) c0) 0 (a 0 + 1)) 96 117)))), (pa, .inl (cy 1, 1652, .inl (iA (remA a ap ss))))] H := hP
          have hD : va_D _ [(mo, .inr (7, [vI 0, .ref no, .ref th, .ref pa, vI (remN ss), .ref sl, .ref sv, .ref tx, vI ty])), (no, .inl (cy 1, 118, .inl (iA (zrZ (updZ (updZ (insZ a (1 + a 0) (1 + i)) (1 + i) c0) 0 (a 0 + 1)) 96 117)))), (pa, .inl (cy 1, 1652, .inl (iA (remA a ap ss))))] := hD
          exact rr_wiret F hr hlocks dX7_insert_67 hP hS (rfl) (by first | rfl | omega)
        · exfalso; omega
      · refine rr_iconst F dX7_insert_41 ?_
        refine lv_goto (tgt := 46) F.1 F.2.1 dX7_insert_42 (by decide) ?_
        refine rr_wrV (rest := []) (wr := [(no, .inl (cy 1, 118, .inl (iA a))), (pa, .inl (cy 1, 1652, .inl (iA ap)))]) (ws2 := [(mo, .inr (7, [vI 3, .ref no, .ref th, .ref pa, vI ss, .ref sl, .ref sv, .ref tx, vI ty])), (no, .inl (cy 1, 118, .inl (iA a))), (pa, .inl (cy 1, 1652, .inl (iA ap)))]) F hK (c_X7_refuses l D cy mo no th pa sl sv tx tr ss ty 3 (by first | assumption | omega | exact ⟨by omega, by omega⟩)) hP hD hS hA sf_X7_refuses tw910 7 rfl rfl ⟨Nat.le_of_ble_eq_true rfl, Nat.le_of_ble_eq_true rfl⟩ hl rfl (Nat.le_of_ble_eq_true rfl) dX7_insert_46 ⟨Nat.zero_le _, Nat.zero_le _⟩ [0] [1, 2] [2, 0, 1] rfl rfl (by decide) (by decide) (by decide) rfl rfl (by decide) (fun H locs hP hD hS => ?_)
        have hP : va_P D vwCl [(mo, .inr (7, [vI 3, .ref no, .ref th, .ref pa, vI ss, .ref sl, .ref sv, .ref tx, vI ty])), (no, .inl (cy 1, 118, .inl (iA a))), (pa, .inl (cy 1, 1652, .inl (iA ap)))] H := hP
        have hD : va_D _ [(mo, .inr (7, [vI 3, .ref no, .ref th, .ref pa, vI ss, .ref sl, .ref sv, .ref tx, vI ty])), (no, .inl (cy 1, 118, .inl (iA a))), (pa, .inl (cy 1, 1652, .inl (iA ap)))] := hD
        refine rr_ifP_eq F (tgt := 54) dX7_insert_49 (by decide) (fun c_49 => ?_) (fun c_49 => ?_)
        · exfalso; omega
        · exfalso; omega
    · refine rr_iconst F dX7_insert_26 ?_
      refine lv_goto (tgt := 46) F.1 F.2.1 dX7_insert_27 (by decide) ?_
      refine rr_wrV (rest := []) (wr := [(no, .inl (cy 1, 118, .inl (iA a))), (pa, .inl (cy 1, 1652, .inl (iA ap)))]) (ws2 := [(mo, .inr (7, [vI 2, .ref no, .ref th, .ref pa, vI ss, .ref sl, .ref sv, .ref tx, vI ty])), (no, .inl (cy 1, 118, .inl (iA a))), (pa, .inl (cy 1, 1652, .inl (iA ap)))]) F hK (c_X7_refuses l D cy mo no th pa sl sv tx tr ss ty 2 (by first | assumption | omega | exact ⟨by omega, by omega⟩)) hP hD hS hA sf_X7_refuses tw910 7 rfl rfl ⟨Nat.le_of_ble_eq_true rfl, Nat.le_of_ble_eq_true rfl⟩ hl rfl (Nat.le_of_ble_eq_true rfl) dX7_insert_46 ⟨Nat.zero_le _, Nat.zero_le _⟩ [0] [1, 2] [2, 0, 1] rfl rfl (by decide) (by decide) (by decide) rfl rfl (by decide) (fun H locs hP hD hS => ?_)
      have hP : va_P D vwCl [(mo, .inr (7, [vI 2, .ref no, .ref th, .ref pa, vI ss, .ref sl, .ref sv, .ref tx, vI ty])), (no, .inl (cy 1, 118, .inl (iA a))), (pa, .inl (cy 1, 1652, .inl (iA ap)))] H := hP
      have hD : va_D _ [(mo, .inr (7, [vI 2, .ref no, .ref th, .ref pa, vI ss, .ref sl, .ref sv, .ref tx, vI ty])), (no, .inl (cy 1, 118, .inl (iA a))), (pa, .inl (cy 1, 1652, .inl (iA ap)))] := hD
      refine rr_ifP_eq F (tgt := 54) dX7_insert_49 (by decide) (fun c_49 => ?_) (fun c_49 => ?_)
      · exfalso; omega
      · exfalso; omega
  · refine rr_iconst F dX7_insert_15 ?_
    refine lv_goto (tgt := 46) F.1 F.2.1 dX7_insert_16 (by decide) ?_
    refine rr_wrV (rest := []) (wr := [(no, .inl (cy 1, 118, .inl (iA a))), (pa, .inl (cy 1, 1652, .inl (iA ap)))]) (ws2 := [(mo, .inr (7, [vI 1, .ref no, .ref th, .ref pa, vI ss, .ref sl, .ref sv, .ref tx, vI ty])), (no, .inl (cy 1, 118, .inl (iA a))), (pa, .inl (cy 1, 1652, .inl (iA ap)))]) F hK (c_X7_refuses l D cy mo no th pa sl sv tx tr ss ty 1 (by first | assumption | omega | exact ⟨by omega, by omega⟩)) hP hD hS hA sf_X7_refuses tw910 7 rfl rfl ⟨Nat.le_of_ble_eq_true rfl, Nat.le_of_ble_eq_true rfl⟩ hl rfl (Nat.le_of_ble_eq_true rfl) dX7_insert_46 ⟨Nat.zero_le _, Nat.zero_le _⟩ [0] [1, 2] [2, 0, 1] rfl rfl (by decide) (by decide) (by decide) rfl rfl (by decide) (fun H locs hP hD hS => ?_)
    have hP : va_P D vwCl [(mo, .inr (7, [vI 1, .ref no, .ref th, .ref pa, vI ss, .ref sl, .ref sv, .ref tx, vI ty])), (no, .inl (cy 1, 118, .inl (iA a))), (pa, .inl (cy 1, 1652, .inl (iA ap)))] H := hP
    have hD : va_D _ [(mo, .inr (7, [vI 1, .ref no, .ref th, .ref pa, vI ss, .ref sl, .ref sv, .ref tx, vI ty])), (no, .inl (cy 1, 118, .inl (iA a))), (pa, .inl (cy 1, 1652, .inl (iA ap)))] := hD
    refine rr_ifP_eq F (tgt := 54) dX7_insert_49 (by decide) (fun c_49 => ?_) (fun c_49 => ?_)
    · exfalso; omega
    · exfalso; omega
set_option maxRecDepth 100000 in
set_option maxHeartbeats 4000000 in
theorem n_X7_insert (l : Launch) (D : va_G) (cy : Nat → ClassId) (mo no th pa sl sv tx : Nat) (tr ss ty : Int) (a ap : Int → Int) (i c0 : Int) (hM : MR a) (hs : 0 ≤ ss ∧ ss ≤ 14) (hi : inR i) (hc : inR c0) (hbad : ¬ ((0 ≤ i ∧ i ≤ a 0) ∧ (0 ≤ c0 ∧ c0 ≤ 8) ∧ a 0 < 24)) : Wr l yX7_insert cX7_insert 3 (some FieldType.int) 2 [.ref mo, vI i, vI c0] D cy [(mo, .inr (7, [vI tr, .ref no, .ref th, .ref pa, vI ss, .ref sl, .ref sv, .ref tx, vI ty])), (no, .inl (cy 1, 118, .inl (iA a))), (pa, .inl (cy 1, 1652, .inl (iA ap)))] [(mo, .inr (7, [vI (if 0 ≤ i ∧ i ≤ a 0 then (if 0 ≤ c0 ∧ c0 ≤ 8 then 3 else 2) else 1), .ref no, .ref th, .ref pa, vI ss, .ref sl, .ref sv, .ref tx, vI ty])), (no, .inl (cy 1, 118, .inl (iA a))), (pa, .inl (cy 1, 1652, .inl (iA ap)))] (some (vI 0)) := by
  refine Wr.of RX7 rfl [(0, .ref mo), (1, vI i), (2, vI c0)] rfl (by decide +kernel) (Nat.le_of_ble_eq_true rfl) ?_
  intro p e s m args below meth c F hr hlocks hK hP hD hS hA ls hl
  have hn0 := hM.n
  have hw0 := hM.nw
  have hc0 := hM.wc
  refine lv_aload_n F.1 F.2.1 dX7_insert_0 rfl (lv_at hl 0 rfl) ?_
  refine lv_iload_n F.1 F.2.1 dX7_insert_1 rfl (lv_at hl 1 rfl) ?_
  refine rr_iconst F dX7_insert_2 ?_
  refine lv_aload_n F.1 F.2.1 dX7_insert_3 rfl (lv_at hl 0 rfl) ?_
  refine gf7_1 F hK hP 0 rfl tw875 dX7_insert_4 ?_
  refine rr_iconst F dX7_insert_7 ?_
  refine rr_iald F hK hP 1 rfl (by omega) (by omega) (by decide) dX7_insert_8 ?_
  refine rr_rdS (rest := [.ref mo]) F hK (c_X7_in l D cy i 0 (a 0) (by first | assumption | omega | exact ⟨by omega, by omega⟩) (by first | assumption | omega | exact ⟨by omega, by omega⟩) (by first | assumption | omega | exact ⟨by omega, by omega⟩)) (hP.sub [] rfl) sf_X7_in tw921 ⟨Nat.le_of_ble_eq_true rfl, Nat.le_of_ble_eq_true rfl⟩ hl rfl (Nat.le_of_ble_eq_true rfl) dX7_insert_9 ⟨Nat.zero_le _, Nat.zero_le _⟩ ?_
  refine rr_ifP_ne F (tgt := 19) dX7_insert_12 (by decide) (fun c_12 => ?_) (fun c_12 => ?_)
  · refine lv_iload_n F.1 F.2.1 dX7_insert_19 rfl (lv_at hl 2 rfl) ?_
    refine rr_rdS (rest := [.ref mo]) F hK (c_X7_isSign l D cy c0 (by first | assumption | omega | exact ⟨by omega, by omega⟩)) (hP.sub [] rfl) sf_X7_isSign tw1115 ⟨Nat.le_of_ble_eq_true rfl, Nat.le_of_ble_eq_true rfl⟩ hl rfl (Nat.le_of_ble_eq_true rfl) dX7_insert_20 ⟨Nat.zero_le _, Nat.zero_le _⟩ ?_
    refine rr_ifP_ne F (tgt := 30) dX7_insert_23 (by decide) (fun c_23 => ?_) (fun c_23 => ?_)
    · refine lv_aload_n F.1 F.2.1 dX7_insert_30 rfl (lv_at hl 0 rfl) ?_
      refine gf7_1 F hK hP 0 rfl tw875 dX7_insert_31 ?_
      refine rr_iconst F dX7_insert_34 ?_
      refine rr_iald F hK hP 1 rfl (by omega) (by omega) (by decide) dX7_insert_35 ?_
      refine rr_bipush F dX7_insert_36 (by decide) ?_
      refine rr_icmp_ne F (tgt := 45) dX7_insert_38 (by decide) ⟨by omega, by omega⟩ ⟨by omega, by omega⟩ (fun c_38 => ?_) (fun c_38 => ?_)
      · refine rr_iconst F dX7_insert_45 ?_
        refine rr_wrV (rest := []) (wr := [(no, .inl (cy 1, 118, .inl (iA a))), (pa, .inl (cy 1, 1652, .inl (iA ap)))]) (ws2 := [(mo, .inr (7, [vI 0, .ref no, .ref th, .ref pa, vI ss, .ref sl, .ref sv, .ref tx, vI ty])), (no, .inl (cy 1, 118, .inl (iA a))), (pa, .inl (cy 1, 1652, .inl (iA ap)))]) F hK (c_X7_refuses l D cy mo no th pa sl sv tx tr ss ty 0 (by first | assumption | omega | exact ⟨by omega, by omega⟩)) hP hD hS hA sf_X7_refuses tw910 7 rfl rfl ⟨Nat.le_of_ble_eq_true rfl, Nat.le_of_ble_eq_true rfl⟩ hl rfl (Nat.le_of_ble_eq_true rfl) dX7_insert_46 ⟨Nat.zero_le _, Nat.zero_le _⟩ [0] [1, 2] [2, 0, 1] rfl rfl (by decide) (by decide) (by decide) rfl rfl (by decide) (fun H locs hP hD hS => ?_)
        have hP : va_P D vwCl [(mo, .inr (7, [vI 0, .ref no, .ref th, .ref pa, vI ss, .ref sl, .ref sv, .ref tx, vI ty])), (no, .inl (cy 1, 118, .inl (iA a))), (pa, .inl (cy 1, 1652, .inl (iA ap)))] H := hP
        have hD : va_D _ [(mo, .inr (7, [vI 0, .ref no, .ref th, .ref pa, vI ss, .ref sl, .ref sv, .ref tx, vI ty])), (no, .inl (cy 1, 118, .inl (iA a))), (pa, .inl (cy 1, 1652, .inl (iA ap)))] := hD
        refine rr_ifP_eq F (tgt := 54) dX7_insert_49 (by decide) (fun c_49 => ?_) (fun c_49 => ?_)
        · exfalso; omega
        · exfalso; omega
      · refine rr_iconst F dX7_insert_41 ?_
        refine lv_goto (tgt := 46) F.1 F.2.1 dX7_insert_42 (by decide) ?_
        refine rr_wrV (rest := []) (wr := [(no, .inl (cy 1, 118, .inl (iA a))), (pa, .inl (cy 1, 1652, .inl (iA ap)))]) (ws2 := [(mo, .inr (7, [vI 3, .ref no, .ref th, .ref pa, vI ss, .ref sl, .ref sv, .ref tx, vI ty])), (no, .inl (cy 1, 118, .inl (iA a))), (pa, .inl (cy 1, 1652, .inl (iA ap)))]) F hK (c_X7_refuses l D cy mo no th pa sl sv tx tr ss ty 3 (by first | assumption | omega | exact ⟨by omega, by omega⟩)) hP hD hS hA sf_X7_refuses tw910 7 rfl rfl ⟨Nat.le_of_ble_eq_true rfl, Nat.le_of_ble_eq_true rfl⟩ hl rfl (Nat.le_of_ble_eq_true rfl) dX7_insert_46 ⟨Nat.zero_le _, Nat.zero_le _⟩ [0] [1, 2] [2, 0, 1] rfl rfl (by decide) (by decide) (by decide) rfl rfl (by decide) (fun H locs hP hD hS => ?_)
        have hP : va_P D vwCl [(mo, .inr (7, [vI 3, .ref no, .ref th, .ref pa, vI ss, .ref sl, .ref sv, .ref tx, vI ty])), (no, .inl (cy 1, 118, .inl (iA a))), (pa, .inl (cy 1, 1652, .inl (iA ap)))] H := hP
        have hD : va_D _ [(mo, .inr (7, [vI 3, .ref no, .ref th, .ref pa, vI ss, .ref sl, .ref sv, .ref tx, vI ty])), (no, .inl (cy 1, 118, .inl (iA a))), (pa, .inl (cy 1, 1652, .inl (iA ap)))] := hD
        refine rr_ifP_eq F (tgt := 54) dX7_insert_49 (by decide) (fun c_49 => ?_) (fun c_49 => ?_)
        · exfalso; omega
        · refine rr_iconst F dX7_insert_52 ?_
          exact rr_wiret F hr hlocks dX7_insert_53 hP hS (by repeat' (first | rfl | split | omega)) (rfl)
    · refine rr_iconst F dX7_insert_26 ?_
      refine lv_goto (tgt := 46) F.1 F.2.1 dX7_insert_27 (by decide) ?_
      refine rr_wrV (rest := []) (wr := [(no, .inl (cy 1, 118, .inl (iA a))), (pa, .inl (cy 1, 1652, .inl (iA ap)))]) (ws2 := [(mo, .inr (7, [vI 2, .ref no, .ref th, .ref pa, vI ss, .ref sl, .ref sv, .ref tx, vI ty])), (no, .inl (cy 1, 118, .inl (iA a))), (pa, .inl (cy 1, 1652, .inl (iA ap)))]) F hK (c_X7_refuses l D cy mo no th pa sl sv tx tr ss ty 2 (by first | assumption | omega | exact ⟨by omega, by omega⟩)) hP hD hS hA sf_X7_refuses tw910 7 rfl rfl ⟨Nat.le_of_ble_eq_true rfl, Nat.le_of_ble_eq_true rfl⟩ hl rfl (Nat.le_of_ble_eq_true rfl) dX7_insert_46 ⟨Nat.zero_le _, Nat.zero_le _⟩ [0] [1, 2] [2, 0, 1] rfl rfl (by decide) (by decide) (by decide) rfl rfl (by decide) (fun H locs hP hD hS => ?_)
      have hP : va_P D vwCl [(mo, .inr (7, [vI 2, .ref no, .ref th, .ref pa, vI ss, .ref sl, .ref sv, .ref tx, vI ty])), (no, .inl (cy 1, 118, .inl (iA a))), (pa, .inl (cy 1, 1652, .inl (iA ap)))] H := hP
      have hD : va_D _ [(mo, .inr (7, [vI 2, .ref no, .ref th, .ref pa, vI ss, .ref sl, .ref sv, .ref tx, vI ty])), (no, .inl (cy 1, 118, .inl (iA a))), (pa, .inl (cy 1, 1652, .inl (iA ap)))] := hD
      refine rr_ifP_eq F (tgt := 54) dX7_insert_49 (by decide) (fun c_49 => ?_) (fun c_49 => ?_)
      · exfalso; omega
      · refine rr_iconst F dX7_insert_52 ?_
        exact rr_wiret F hr hlocks dX7_insert_53 hP hS (by repeat' (first | rfl | split | omega)) (rfl)
  · refine rr_iconst F dX7_insert_15 ?_
    refine lv_goto (tgt := 46) F.1 F.2.1 dX7_insert_16 (by decide) ?_
    refine rr_wrV (rest := []) (wr := [(no, .inl (cy 1, 118, .inl (iA a))), (pa, .inl (cy 1, 1652, .inl (iA ap)))]) (ws2 := [(mo, .inr (7, [vI 1, .ref no, .ref th, .ref pa, vI ss, .ref sl, .ref sv, .ref tx, vI ty])), (no, .inl (cy 1, 118, .inl (iA a))), (pa, .inl (cy 1, 1652, .inl (iA ap)))]) F hK (c_X7_refuses l D cy mo no th pa sl sv tx tr ss ty 1 (by first | assumption | omega | exact ⟨by omega, by omega⟩)) hP hD hS hA sf_X7_refuses tw910 7 rfl rfl ⟨Nat.le_of_ble_eq_true rfl, Nat.le_of_ble_eq_true rfl⟩ hl rfl (Nat.le_of_ble_eq_true rfl) dX7_insert_46 ⟨Nat.zero_le _, Nat.zero_le _⟩ [0] [1, 2] [2, 0, 1] rfl rfl (by decide) (by decide) (by decide) rfl rfl (by decide) (fun H locs hP hD hS => ?_)
    have hP : va_P D vwCl [(mo, .inr (7, [vI 1, .ref no, .ref th, .ref pa, vI ss, .ref sl, .ref sv, .ref tx, vI ty])), (no, .inl (cy 1, 118, .inl (iA a))), (pa, .inl (cy 1, 1652, .inl (iA ap)))] H := hP
    have hD : va_D _ [(mo, .inr (7, [vI 1, .ref no, .ref th, .ref pa, vI ss, .ref sl, .ref sv, .ref tx, vI ty])), (no, .inl (cy 1, 118, .inl (iA a))), (pa, .inl (cy 1, 1652, .inl (iA ap)))] := hD
    refine rr_ifP_eq F (tgt := 54) dX7_insert_49 (by decide) (fun c_49 => ?_) (fun c_49 => ?_)
    · exfalso; omega
    · refine rr_iconst F dX7_insert_52 ?_
      exact rr_wiret F hr hlocks dX7_insert_53 hP hS (by repeat' (first | rfl | split | omega)) (rfl)
set_option maxRecDepth 100000 in
set_option maxHeartbeats 4000000 in
theorem c_X7_erase (l : Launch) (D : va_G) (cy : Nat → ClassId) (mo no th pa sl sv tx : Nat) (tr ss ty : Int) (a ap : Int → Int) (i : Int) (hM : MR a) (hs : 0 ≤ ss ∧ ss ≤ 14) (hi : inR i) (h1 : 0 ≤ i ∧ i < a 0) : Wr l yX7_erase cX7_erase 2 (some FieldType.int) 2 [.ref mo, vI i] D cy [(mo, .inr (7, [vI tr, .ref no, .ref th, .ref pa, vI ss, .ref sl, .ref sv, .ref tx, vI ty])), (no, .inl (cy 1, 118, .inl (iA a))), (pa, .inl (cy 1, 1652, .inl (iA ap)))] [(mo, .inr (7, [vI 0, .ref no, .ref th, .ref pa, vI (remN ss), .ref sl, .ref sv, .ref tx, vI ty])), (no, .inl (cy 1, 118, .inl (iA (zrZ (updZ (delZ (updZ a 0 (a 0 - 1)) (1 + i) (1 + (a 0 - 1))) (1 + (a 0 - 1)) 0) 96 117)))), (pa, .inl (cy 1, 1652, .inl (iA (remA a ap ss))))] (some (vI (a 0 - 1))) := by
  refine Wr.of RX7 rfl [(0, .ref mo), (1, vI i)] rfl (by decide +kernel) (Nat.le_of_ble_eq_true rfl) ?_
  intro p e s m args below meth c F hr hlocks hK hP hD hS hA ls hl
  have hn0 := hM.n
  have hw0 := hM.nw
  have hc0 := hM.wc
  refine lv_aload_n F.1 F.2.1 dX7_erase_0 rfl (lv_at hl 0 rfl) ?_
  refine lv_aload_n F.1 F.2.1 dX7_erase_1 rfl (lv_at hl 0 rfl) ?_
  refine lv_iload_n F.1 F.2.1 dX7_erase_2 rfl (lv_at hl 1 rfl) ?_
  refine rr_rdV (rest := [.ref mo]) F hK (c_X7_isPlace l D cy mo no th pa sl sv tx tr ss ty a i (by first | assumption | omega | exact ⟨by omega, by omega⟩) (by first | assumption | omega | exact ⟨by omega, by omega⟩)) (hP.sub [0, 1] rfl) sf_X7_isPlace tw985 7 rfl rfl ⟨Nat.le_of_ble_eq_true rfl, Nat.le_of_ble_eq_true rfl⟩ hl rfl (Nat.le_of_ble_eq_true rfl) dX7_erase_3 ⟨Nat.zero_le _, Nat.zero_le _⟩ ?_
  refine rr_ifP_eq F (tgt := 13) dX7_erase_6 (by decide) (fun c_6 => ?_) (fun c_6 => ?_)
  · refine rr_iconst F dX7_erase_13 ?_
    refine rr_wrV (rest := []) (wr := [(no, .inl (cy 1, 118, .inl (iA a))), (pa, .inl (cy 1, 1652, .inl (iA ap)))]) (ws2 := [(mo, .inr (7, [vI 1, .ref no, .ref th, .ref pa, vI ss, .ref sl, .ref sv, .ref tx, vI ty])), (no, .inl (cy 1, 118, .inl (iA a))), (pa, .inl (cy 1, 1652, .inl (iA ap)))]) F hK (c_X7_refuses l D cy mo no th pa sl sv tx tr ss ty 1 (by first | assumption | omega | exact ⟨by omega, by omega⟩)) hP hD hS hA sf_X7_refuses tw910 7 rfl rfl ⟨Nat.le_of_ble_eq_true rfl, Nat.le_of_ble_eq_true rfl⟩ hl rfl (Nat.le_of_ble_eq_true rfl) dX7_erase_14 ⟨Nat.zero_le _, Nat.zero_le _⟩ [0] [1, 2] [2, 0, 1] rfl rfl (by decide) (by decide) (by decide) rfl rfl (by decide) (fun H locs hP hD hS => ?_)
    have hP : va_P D vwCl [(mo, .inr (7, [vI 1, .ref no, .ref th, .ref pa, vI ss, .ref sl, .ref sv, .ref tx, vI ty])), (no, .inl (cy 1, 118, .inl (iA a))), (pa, .inl (cy 1, 1652, .inl (iA ap)))] H := hP
    have hD : va_D _ [(mo, .inr (7, [vI 1, .ref no, .ref th, .ref pa, vI ss, .ref sl, .ref sv, .ref tx, vI ty])), (no, .inl (cy 1, 118, .inl (iA a))), (pa, .inl (cy 1, 1652, .inl (iA ap)))] := hD
    refine rr_ifP_eq F (tgt := 22) dX7_erase_17 (by decide) (fun c_17 => ?_) (fun c_17 => ?_)
    · exfalso; omega
    · exfalso; omega
  · refine rr_iconst F dX7_erase_9 ?_
    refine lv_goto (tgt := 14) F.1 F.2.1 dX7_erase_10 (by decide) ?_
    refine rr_wrV (rest := []) (wr := [(no, .inl (cy 1, 118, .inl (iA a))), (pa, .inl (cy 1, 1652, .inl (iA ap)))]) (ws2 := [(mo, .inr (7, [vI 0, .ref no, .ref th, .ref pa, vI ss, .ref sl, .ref sv, .ref tx, vI ty])), (no, .inl (cy 1, 118, .inl (iA a))), (pa, .inl (cy 1, 1652, .inl (iA ap)))]) F hK (c_X7_refuses l D cy mo no th pa sl sv tx tr ss ty 0 (by first | assumption | omega | exact ⟨by omega, by omega⟩)) hP hD hS hA sf_X7_refuses tw910 7 rfl rfl ⟨Nat.le_of_ble_eq_true rfl, Nat.le_of_ble_eq_true rfl⟩ hl rfl (Nat.le_of_ble_eq_true rfl) dX7_erase_14 ⟨Nat.zero_le _, Nat.zero_le _⟩ [0] [1, 2] [2, 0, 1] rfl rfl (by decide) (by decide) (by decide) rfl rfl (by decide) (fun H locs hP hD hS => ?_)
    have hP : va_P D vwCl [(mo, .inr (7, [vI 0, .ref no, .ref th, .ref pa, vI ss, .ref sl, .ref sv, .ref tx, vI ty])), (no, .inl (cy 1, 118, .inl (iA a))), (pa, .inl (cy 1, 1652, .inl (iA ap)))] H := hP
    have hD : va_D _ [(mo, .inr (7, [vI 0, .ref no, .ref th, .ref pa, vI ss, .ref sl, .ref sv, .ref tx, vI ty])), (no, .inl (cy 1, 118, .inl (iA a))), (pa, .inl (cy 1, 1652, .inl (iA ap)))] := hD
    refine rr_ifP_eq F (tgt := 22) dX7_erase_17 (by decide) (fun c_17 => ?_) (fun c_17 => ?_)
    · refine lv_aload_n F.1 F.2.1 dX7_erase_22 rfl (lv_at hl 0 rfl) ?_
      refine rr_wrV (rest := []) (wr := []) (ws2 := [(mo, .inr (7, [vI 0, .ref no, .ref th, .ref pa, vI (remN ss), .ref sl, .ref sv, .ref tx, vI ty])), (no, .inl (cy 1, 118, .inl (iA a))), (pa, .inl (cy 1, 1652, .inl (iA (remA a ap ss))))]) F hK (c_X7_remembers l D cy mo no th pa sl sv tx 0 ss ty a ap (by first | assumption | omega | exact ⟨by omega, by omega⟩)) hP hD hS hA sf_X7_remembers tw1092 7 rfl rfl ⟨Nat.le_of_ble_eq_true rfl, Nat.le_of_ble_eq_true rfl⟩ hl rfl (Nat.le_of_ble_eq_true rfl) dX7_erase_23 ⟨Nat.zero_le _, Nat.zero_le _⟩ [0, 1, 2] [] [0, 1, 2] rfl rfl (by decide) (by decide) (by decide) rfl rfl (by decide) (fun H locs hP hD hS => ?_)
      have hP : va_P D vwCl [(mo, .inr (7, [vI 0, .ref no, .ref th, .ref pa, vI (remN ss), .ref sl, .ref sv, .ref tx, vI ty])), (no, .inl (cy 1, 118, .inl (iA a))), (pa, .inl (cy 1, 1652, .inl (iA (remA a ap ss))))] H := hP
      have hD : va_D _ [(mo, .inr (7, [vI 0, .ref no, .ref th, .ref pa, vI (remN ss), .ref sl, .ref sv, .ref tx, vI ty])), (no, .inl (cy 1, 118, .inl (iA a))), (pa, .inl (cy 1, 1652, .inl (iA (remA a ap ss))))] := hD
      refine lv_aload_n F.1 F.2.1 dX7_erase_26 rfl (lv_at hl 0 rfl) ?_
      refine gf7_1 F hK hP 0 rfl tw875 dX7_erase_27 ?_
      refine lv_iload_n F.1 F.2.1 dX7_erase_30 rfl (lv_at hl 1 rfl) ?_
      refine rr_wrS (rest := []) (wr := [(mo, .inr (7, [vI 0, .ref no, .ref th, .ref pa, vI (remN ss), .ref sl, .ref sv, .ref tx, vI ty])), (pa, .inl (cy 1, 1652, .inl (iA (remA a ap ss))))]) (ws2 := [(mo, .inr (7, [vI 0, .ref no, .ref th, .ref pa, vI (remN ss), .ref sl, .ref sv, .ref tx, vI ty])), (no, .inl (cy 1, 118, .inl (iA (zrZ (updZ (delZ (updZ a 0 (a 0 - 1)) (1 + i) (1 + (a 0 - 1))) (1 + (a 0 - 1)) 0) 96 117)))), (pa, .inl (cy 1, 1652, .inl (iA (remA a ap ss))))]) F hK (c_X7_erases l D cy no a i (by first | assumption | omega | exact ⟨by omega, by omega⟩) (by first | assumption | omega | exact ⟨by omega, by omega⟩)) hP hD hS hA sf_X7_erases tw1139 ⟨Nat.le_of_ble_eq_true rfl, Nat.le_of_ble_eq_true rfl⟩ hl rfl (Nat.le_of_ble_eq_true rfl) dX7_erase_31 ⟨Nat.zero_le _, Nat.zero_le _⟩ [1] [0, 2] [0, 2, 1] rfl rfl (by decide) (by decide) (by decide) rfl rfl (by decide) (fun H locs hP hD hS => ?_)
      have hP : va_P D vwCl [(mo, .inr (7, [vI 0, .ref no, .ref th, .ref pa, vI (remN ss), .ref sl, .ref sv, .ref tx, vI ty])), (no, .inl (cy 1, 118, .inl (iA (zrZ (updZ (delZ (updZ a 0 (a 0 - 1)) (1 + i) (1 + (a 0 - 1))) (1 + (a 0 - 1)) 0) 96 117)))), (pa, .inl (cy 1, 1652, .inl (iA (remA a ap ss))))] H := hP
      have hD : va_D _ [(mo, .inr (7, [vI 0, .ref no, .ref th, .ref pa, vI (remN ss), .ref sl, .ref sv, .ref tx, vI ty])), (no, .inl (cy 1, 118, .inl (iA (zrZ (updZ (delZ (updZ a 0 (a 0 - 1)) (1 + i) (1 + (a 0 - 1))) (1 + (a 0 - 1)) 0) 96 117)))), (pa, .inl (cy 1, 1652, .inl (iA (remA a ap ss))))] := hD
      exact rr_wiret F hr hlocks dX7_erase_34 hP hS (rfl) (by first | rfl | omega)
    · exfalso; omega
set_option maxRecDepth 100000 in
set_option maxHeartbeats 4000000 in
theorem n_X7_erase (l : Launch) (D : va_G) (cy : Nat → ClassId) (mo no th pa sl sv tx : Nat) (tr ss ty : Int) (a ap : Int → Int) (i : Int) (hM : MR a) (hs : 0 ≤ ss ∧ ss ≤ 14) (hi : inR i) (hbad : ¬ (0 ≤ i ∧ i < a 0)) : Wr l yX7_erase cX7_erase 2 (some FieldType.int) 2 [.ref mo, vI i] D cy [(mo, .inr (7, [vI tr, .ref no, .ref th, .ref pa, vI ss, .ref sl, .ref sv, .ref tx, vI ty])), (no, .inl (cy 1, 118, .inl (iA a))), (pa, .inl (cy 1, 1652, .inl (iA ap)))] [(mo, .inr (7, [vI 1, .ref no, .ref th, .ref pa, vI ss, .ref sl, .ref sv, .ref tx, vI ty])), (no, .inl (cy 1, 118, .inl (iA a))), (pa, .inl (cy 1, 1652, .inl (iA ap)))] (some (vI 0)) := by
  refine Wr.of RX7 rfl [(0, .ref mo), (1, vI i)] rfl (by decide +kernel) (Nat.le_of_ble_eq_true rfl) ?_
  intro p e s m args below meth c F hr hlocks hK hP hD hS hA ls hl
  have hn0 := hM.n
  have hw0 := hM.nw
  have hc0 := hM.wc
  refine lv_aload_n F.1 F.2.1 dX7_erase_0 rfl (lv_at hl 0 rfl) ?_
  refine lv_aload_n F.1 F.2.1 dX7_erase_1 rfl (lv_at hl 0 rfl) ?_
  refine lv_iload_n F.1 F.2.1 dX7_erase_2 rfl (lv_at hl 1 rfl) ?_
  refine rr_rdV (rest := [.ref mo]) F hK (c_X7_isPlace l D cy mo no th pa sl sv tx tr ss ty a i (by first | assumption | omega | exact ⟨by omega, by omega⟩) (by first | assumption | omega | exact ⟨by omega, by omega⟩)) (hP.sub [0, 1] rfl) sf_X7_isPlace tw985 7 rfl rfl ⟨Nat.le_of_ble_eq_true rfl, Nat.le_of_ble_eq_true rfl⟩ hl rfl (Nat.le_of_ble_eq_true rfl) dX7_erase_3 ⟨Nat.zero_le _, Nat.zero_le _⟩ ?_
  refine rr_ifP_eq F (tgt := 13) dX7_erase_6 (by decide) (fun c_6 => ?_) (fun c_6 => ?_)
  · refine rr_iconst F dX7_erase_13 ?_
    refine rr_wrV (rest := []) (wr := [(no, .inl (cy 1, 118, .inl (iA a))), (pa, .inl (cy 1, 1652, .inl (iA ap)))]) (ws2 := [(mo, .inr (7, [vI 1, .ref no, .ref th, .ref pa, vI ss, .ref sl, .ref sv, .ref tx, vI ty])), (no, .inl (cy 1, 118, .inl (iA a))), (pa, .inl (cy 1, 1652, .inl (iA ap)))]) F hK (c_X7_refuses l D cy mo no th pa sl sv tx tr ss ty 1 (by first | assumption | omega | exact ⟨by omega, by omega⟩)) hP hD hS hA sf_X7_refuses tw910 7 rfl rfl ⟨Nat.le_of_ble_eq_true rfl, Nat.le_of_ble_eq_true rfl⟩ hl rfl (Nat.le_of_ble_eq_true rfl) dX7_erase_14 ⟨Nat.zero_le _, Nat.zero_le _⟩ [0] [1, 2] [2, 0, 1] rfl rfl (by decide) (by decide) (by decide) rfl rfl (by decide) (fun H locs hP hD hS => ?_)
    have hP : va_P D vwCl [(mo, .inr (7, [vI 1, .ref no, .ref th, .ref pa, vI ss, .ref sl, .ref sv, .ref tx, vI ty])), (no, .inl (cy 1, 118, .inl (iA a))), (pa, .inl (cy 1, 1652, .inl (iA ap)))] H := hP
    have hD : va_D _ [(mo, .inr (7, [vI 1, .ref no, .ref th, .ref pa, vI ss, .ref sl, .ref sv, .ref tx, vI ty])), (no, .inl (cy 1, 118, .inl (iA a))), (pa, .inl (cy 1, 1652, .inl (iA ap)))] := hD
    refine rr_ifP_eq F (tgt := 22) dX7_erase_17 (by decide) (fun c_17 => ?_) (fun c_17 => ?_)
    · exfalso; omega
    · refine rr_iconst F dX7_erase_20 ?_
      exact rr_wiret F hr hlocks dX7_erase_21 hP hS (by repeat' (first | rfl | split | omega)) (rfl)
  · refine rr_iconst F dX7_erase_9 ?_
    refine lv_goto (tgt := 14) F.1 F.2.1 dX7_erase_10 (by decide) ?_
    refine rr_wrV (rest := []) (wr := [(no, .inl (cy 1, 118, .inl (iA a))), (pa, .inl (cy 1, 1652, .inl (iA ap)))]) (ws2 := [(mo, .inr (7, [vI 0, .ref no, .ref th, .ref pa, vI ss, .ref sl, .ref sv, .ref tx, vI ty])), (no, .inl (cy 1, 118, .inl (iA a))), (pa, .inl (cy 1, 1652, .inl (iA ap)))]) F hK (c_X7_refuses l D cy mo no th pa sl sv tx tr ss ty 0 (by first | assumption | omega | exact ⟨by omega, by omega⟩)) hP hD hS hA sf_X7_refuses tw910 7 rfl rfl ⟨Nat.le_of_ble_eq_true rfl, Nat.le_of_ble_eq_true rfl⟩ hl rfl (Nat.le_of_ble_eq_true rfl) dX7_erase_14 ⟨Nat.zero_le _, Nat.zero_le _⟩ [0] [1, 2] [2, 0, 1] rfl rfl (by decide) (by decide) (by decide) rfl rfl (by decide) (fun H locs hP hD hS => ?_)
    have hP : va_P D vwCl [(mo, .inr (7, [vI 0, .ref no, .ref th, .ref pa, vI ss, .ref sl, .ref sv, .ref tx, vI ty])), (no, .inl (cy 1, 118, .inl (iA a))), (pa, .inl (cy 1, 1652, .inl (iA ap)))] H := hP
    have hD : va_D _ [(mo, .inr (7, [vI 0, .ref no, .ref th, .ref pa, vI ss, .ref sl, .ref sv, .ref tx, vI ty])), (no, .inl (cy 1, 118, .inl (iA a))), (pa, .inl (cy 1, 1652, .inl (iA ap)))] := hD
    refine rr_ifP_eq F (tgt := 22) dX7_erase_17 (by decide) (fun c_17 => ?_) (fun c_17 => ?_)
    · exfalso; omega
    · exfalso; omega
set_option maxRecDepth 100000 in
set_option maxHeartbeats 4000000 in
theorem c_X7_addWalker (l : Launch) (D : va_G) (cy : Nat → ClassId) (mo no th pa sl sv tx : Nat) (tr ss ty : Int) (a ap : Int → Int) (i d pa0 si : Int) (hM : MR a) (hs : 0 ≤ ss ∧ ss ≤ 14) (hi : inR i) (hd : inR d) (hp : inR pa0) (hsi : inR si) (h1 : 0 ≤ i ∧ i < a 0) (h2 : 0 ≤ d ∧ d ≤ 1) (h3 : 1 ≤ pa0 ∧ pa0 ≤ 3) (h4 : 1 ≤ si ∧ si ≤ 5) (h5 : a 96 < 4) : Wr l yX7_addWalker cX7_addWalker 6 (some FieldType.int) 3 [.ref mo, vI i, vI d, vI pa0, vI si] D cy [(mo, .inr (7, [vI tr, .ref no, .ref th, .ref pa, vI ss, .ref sl, .ref sv, .ref tx, vI ty])), (no, .inl (cy 1, 118, .inl (iA a))), (pa, .inl (cy 1, 1652, .inl (iA ap)))] [(mo, .inr (7, [vI 0, .ref no, .ref th, .ref pa, vI (remN ss), .ref sl, .ref sv, .ref tx, vI ty])), (no, .inl (cy 1, 118, .inl (iA (comR a i d pa0 si)))), (pa, .inl (cy 1, 1652, .inl (iA (remA a ap ss))))] (some (vI (a 96))) := by
  refine Wr.of RX7 rfl [(0, .ref mo), (1, vI i), (2, vI d), (3, vI pa0), (4, vI si)] rfl (by decide +kernel) (Nat.le_of_ble_eq_true rfl) ?_
  intro p e s m args below meth c F hr hlocks hK hP hD hS hA ls hl
  have hn0 := hM.n
  have hw0 := hM.nw
  have hc0 := hM.wc
  refine lv_iload_n F.1 F.2.1 dX7_addWalker_0 rfl (lv_at hl 3 rfl) ?_
  refine rr_iconst F dX7_addWalker_1 ?_
  refine rr_iconst F dX7_addWalker_2 ?_
  refine rr_rdS (rest := []) F hK (c_X7_in l D cy pa0 1 3 (by first | assumption | omega | exact ⟨by omega, by omega⟩) (by first | assumption | omega | exact ⟨by omega, by omega⟩) (by first | assumption | omega | exact ⟨by omega, by omega⟩)) (hP.sub [] rfl) sf_X7_in tw921 ⟨Nat.le_of_ble_eq_true rfl, Nat.le_of_ble_eq_true rfl⟩ hl rfl (Nat.le_of_ble_eq_true rfl) dX7_addWalker_3 ⟨Nat.zero_le _, Nat.zero_le _⟩ ?_
  refine rr_ifP_eq F (tgt := 23) dX7_addWalker_6 (by decide) (fun c_6 => ?_) (fun c_6 => ?_)
  · refine rr_iconst F dX7_addWalker_23 ?_
    refine lv_istore (lv' := [(5, vI 0), (0, .ref mo), (1, vI i), (2, vI d), (3, vI pa0), (4, vI si)]) F.1 F.2.1 dX7_addWalker_24 hl (by decide) rfl (fun ls hl => ?_)
    refine lv_aload_n F.1 F.2.1 dX7_addWalker_26 rfl (lv_at hl 1 rfl) ?_
    refine lv_aload_n F.1 F.2.1 dX7_addWalker_27 rfl (lv_at hl 1 rfl) ?_
    refine lv_iload_n F.1 F.2.1 dX7_addWalker_28 rfl (lv_at hl 2 rfl) ?_
    refine rr_rdV (rest := [.ref mo]) F hK (c_X7_isPlace l D cy mo no th pa sl sv tx tr ss ty a i (by first | assumption | omega | exact ⟨by omega, by omega⟩) (by first | assumption | omega | exact ⟨by omega, by omega⟩)) (hP.sub [0, 1] rfl) sf_X7_isPlace tw985 7 rfl rfl ⟨Nat.le_of_ble_eq_true rfl, Nat.le_of_ble_eq_true rfl⟩ hl rfl (Nat.le_of_ble_eq_true rfl) dX7_addWalker_29 ⟨Nat.zero_le _, Nat.zero_le _⟩ ?_
    refine rr_ifP_eq F (tgt := 42) dX7_addWalker_32 (by decide) (fun c_32 => ?_) (fun c_32 => ?_)
    · refine rr_iconst F dX7_addWalker_42 ?_
      refine lv_goto (tgt := 71) F.1 F.2.1 dX7_addWalker_43 (by decide) ?_
      refine rr_wrV (rest := []) (wr := [(no, .inl (cy 1, 118, .inl (iA a))), (pa, .inl (cy 1, 1652, .inl (iA ap)))]) (ws2 := [(mo, .inr (7, [vI 1, .ref no, .ref th, .ref pa, vI ss, .ref sl, .ref sv, .ref tx, vI ty])), (no, .inl (cy 1, 118, .inl (iA a))), (pa, .inl (cy 1, 1652, .inl (iA ap)))]) F hK (c_X7_refuses l D cy mo no th pa sl sv tx tr ss ty 1 (by first | assumption | omega | exact ⟨by omega, by omega⟩)) hP hD hS hA sf_X7_refuses tw910 7 rfl rfl ⟨Nat.le_of_ble_eq_true rfl, Nat.le_of_ble_eq_true rfl⟩ hl rfl (Nat.le_of_ble_eq_true rfl) dX7_addWalker_71 ⟨Nat.zero_le _, Nat.zero_le _⟩ [0] [1, 2] [2, 0, 1] rfl rfl (by decide) (by decide) (by decide) rfl rfl (by decide) (fun H locs hP hD hS => ?_)
      have hP : va_P D vwCl [(mo, .inr (7, [vI 1, .ref no, .ref th, .ref pa, vI ss, .ref sl, .ref sv, .ref tx, vI ty])), (no, .inl (cy 1, 118, .inl (iA a))), (pa, .inl (cy 1, 1652, .inl (iA ap)))] H := hP
      have hD : va_D _ [(mo, .inr (7, [vI 1, .ref no, .ref th, .ref pa, vI ss, .ref sl, .ref sv, .ref tx, vI ty])), (no, .inl (cy 1, 118, .inl (iA a))), (pa, .inl (cy 1, 1652, .inl (iA ap)))] := hD
      refine rr_ifP_eq F (tgt := 79) dX7_addWalker_74 (by decide) (fun c_74 => ?_) (fun c_74 => ?_)
      · exfalso; omega
      · exfalso; omega
    · refine lv_iload_n F.1 F.2.1 dX7_addWalker_35 rfl (lv_at hl 3 rfl) ?_
      refine rr_rdS (rest := [.ref mo]) F hK (c_X7_isWay l D cy d (by first | assumption | omega | exact ⟨by omega, by omega⟩)) (hP.sub [] rfl) sf_X7_isWay tw1004 ⟨Nat.le_of_ble_eq_true rfl, Nat.le_of_ble_eq_true rfl⟩ hl rfl (Nat.le_of_ble_eq_true rfl) dX7_addWalker_36 ⟨Nat.zero_le _, Nat.zero_le _⟩ ?_
      refine rr_ifP_ne F (tgt := 46) dX7_addWalker_39 (by decide) (fun c_39 => ?_) (fun c_39 => ?_)
      · refine lv_iload F.1 F.2.1 dX7_addWalker_46 (lv_at hl 0 rfl) ?_
        refine rr_if_ne F (tgt := 55) dX7_addWalker_48 (by decide) ⟨by omega, by omega⟩ (fun c_48 => ?_) (fun c_48 => ?_)
        · exfalso; omega
        · refine rr_iconst F dX7_addWalker_51 ?_
          refine lv_goto (tgt := 71) F.1 F.2.1 dX7_addWalker_52 (by decide) ?_
          refine rr_wrV (rest := []) (wr := [(no, .inl (cy 1, 118, .inl (iA a))), (pa, .inl (cy 1, 1652, .inl (iA ap)))]) (ws2 := [(mo, .inr (7, [vI 2, .ref no, .ref th, .ref pa, vI ss, .ref sl, .ref sv, .ref tx, vI ty])), (no, .inl (cy 1, 118, .inl (iA a))), (pa, .inl (cy 1, 1652, .inl (iA ap)))]) F hK (c_X7_refuses l D cy mo no th pa sl sv tx tr ss ty 2 (by first | assumption | omega | exact ⟨by omega, by omega⟩)) hP hD hS hA sf_X7_refuses tw910 7 rfl rfl ⟨Nat.le_of_ble_eq_true rfl, Nat.le_of_ble_eq_true rfl⟩ hl rfl (Nat.le_of_ble_eq_true rfl) dX7_addWalker_71 ⟨Nat.zero_le _, Nat.zero_le _⟩ [0] [1, 2] [2, 0, 1] rfl rfl (by decide) (by decide) (by decide) rfl rfl (by decide) (fun H locs hP hD hS => ?_)
          have hP : va_P D vwCl [(mo, .inr (7, [vI 2, .ref no, .ref th, .ref pa, vI ss, .ref sl, .ref sv, .ref tx, vI ty])), (no, .inl (cy 1, 118, .inl (iA a))), (pa, .inl (cy 1, 1652, .inl (iA ap)))] H := hP
          have hD : va_D _ [(mo, .inr (7, [vI 2, .ref no, .ref th, .ref pa, vI ss, .ref sl, .ref sv, .ref tx, vI ty])), (no, .inl (cy 1, 118, .inl (iA a))), (pa, .inl (cy 1, 1652, .inl (iA ap)))] := hD
          refine rr_ifP_eq F (tgt := 79) dX7_addWalker_74 (by decide) (fun c_74 => ?_) (fun c_74 => ?_)
          · exfalso; omega
          · exfalso; omega
      · refine rr_iconst F dX7_addWalker_42 ?_
        refine lv_goto (tgt := 71) F.1 F.2.1 dX7_addWalker_43 (by decide) ?_
        refine rr_wrV (rest := []) (wr := [(no, .inl (cy 1, 118, .inl (iA a))), (pa, .inl (cy 1, 1652, .inl (iA ap)))]) (ws2 := [(mo, .inr (7, [vI 1, .ref no, .ref th, .ref pa, vI ss, .ref sl, .ref sv, .ref tx, vI ty])), (no, .inl (cy 1, 118, .inl (iA a))), (pa, .inl (cy 1, 1652, .inl (iA ap)))]) F hK (c_X7_refuses l D cy mo no th pa sl sv tx tr ss ty 1 (by first | assumption | omega | exact ⟨by omega, by omega⟩)) hP hD hS hA sf_X7_refuses tw910 7 rfl rfl ⟨Nat.le_of_ble_eq_true rfl, Nat.le_of_ble_eq_true rfl⟩ hl rfl (Nat.le_of_ble_eq_true rfl) dX7_addWalker_71 ⟨Nat.zero_le _, Nat.zero_le _⟩ [0] [1, 2] [2, 0, 1] rfl rfl (by decide) (by decide) (by decide) rfl rfl (by decide) (fun H locs hP hD hS => ?_)
        have hP : va_P D vwCl [(mo, .inr (7, [vI 1, .ref no, .ref th, .ref pa, vI ss, .ref sl, .ref sv, .ref tx, vI ty])), (no, .inl (cy 1, 118, .inl (iA a))), (pa, .inl (cy 1, 1652, .inl (iA ap)))] H := hP
        have hD : va_D _ [(mo, .inr (7, [vI 1, .ref no, .ref th, .ref pa, vI ss, .ref sl, .ref sv, .ref tx, vI ty])), (no, .inl (cy 1, 118, .inl (iA a))), (pa, .inl (cy 1, 1652, .inl (iA ap)))] := hD
        refine rr_ifP_eq F (tgt := 79) dX7_addWalker_74 (by decide) (fun c_74 => ?_) (fun c_74 => ?_)
        · exfalso; omega
        · exfalso; omega
  · refine lv_iload F.1 F.2.1 dX7_addWalker_9 (lv_at hl 4 rfl) ?_
    refine rr_iconst F dX7_addWalker_11 ?_
    refine rr_iconst F dX7_addWalker_12 ?_
    refine rr_rdS (rest := []) F hK (c_X7_in l D cy si 1 5 (by first | assumption | omega | exact ⟨by omega, by omega⟩) (by first | assumption | omega | exact ⟨by omega, by omega⟩) (by first | assumption | omega | exact ⟨by omega, by omega⟩)) (hP.sub [] rfl) sf_X7_in tw921 ⟨Nat.le_of_ble_eq_true rfl, Nat.le_of_ble_eq_true rfl⟩ hl rfl (Nat.le_of_ble_eq_true rfl) dX7_addWalker_13 ⟨Nat.zero_le _, Nat.zero_le _⟩ ?_
    refine rr_ifP_eq F (tgt := 23) dX7_addWalker_16 (by decide) (fun c_16 => ?_) (fun c_16 => ?_)
    · refine rr_iconst F dX7_addWalker_23 ?_
      refine lv_istore (lv' := [(5, vI 0), (0, .ref mo), (1, vI i), (2, vI d), (3, vI pa0), (4, vI si)]) F.1 F.2.1 dX7_addWalker_24 hl (by decide) rfl (fun ls hl => ?_)
      refine lv_aload_n F.1 F.2.1 dX7_addWalker_26 rfl (lv_at hl 1 rfl) ?_
      refine lv_aload_n F.1 F.2.1 dX7_addWalker_27 rfl (lv_at hl 1 rfl) ?_
      refine lv_iload_n F.1 F.2.1 dX7_addWalker_28 rfl (lv_at hl 2 rfl) ?_
      refine rr_rdV (rest := [.ref mo]) F hK (c_X7_isPlace l D cy mo no th pa sl sv tx tr ss ty a i (by first | assumption | omega | exact ⟨by omega, by omega⟩) (by first | assumption | omega | exact ⟨by omega, by omega⟩)) (hP.sub [0, 1] rfl) sf_X7_isPlace tw985 7 rfl rfl ⟨Nat.le_of_ble_eq_true rfl, Nat.le_of_ble_eq_true rfl⟩ hl rfl (Nat.le_of_ble_eq_true rfl) dX7_addWalker_29 ⟨Nat.zero_le _, Nat.zero_le _⟩ ?_
      refine rr_ifP_eq F (tgt := 42) dX7_addWalker_32 (by decide) (fun c_32 => ?_) (fun c_32 => ?_)
      · refine rr_iconst F dX7_addWalker_42 ?_
        refine lv_goto (tgt := 71) F.1 F.2.1 dX7_addWalker_43 (by decide) ?_
        refine rr_wrV (rest := []) (wr := [(no, .inl (cy 1, 118, .inl (iA a))), (pa, .inl (cy 1, 1652, .inl (iA ap)))]) (ws2 := [(mo, .inr (7, [vI 1, .ref no, .ref th, .ref pa, vI ss, .ref sl, .ref sv, .ref tx, vI ty])), (no, .inl (cy 1, 118, .inl (iA a))), (pa, .inl (cy 1, 1652, .inl (iA ap)))]) F hK (c_X7_refuses l D cy mo no th pa sl sv tx tr ss ty 1 (by first | assumption | omega | exact ⟨by omega, by omega⟩)) hP hD hS hA sf_X7_refuses tw910 7 rfl rfl ⟨Nat.le_of_ble_eq_true rfl, Nat.le_of_ble_eq_true rfl⟩ hl rfl (Nat.le_of_ble_eq_true rfl) dX7_addWalker_71 ⟨Nat.zero_le _, Nat.zero_le _⟩ [0] [1, 2] [2, 0, 1] rfl rfl (by decide) (by decide) (by decide) rfl rfl (by decide) (fun H locs hP hD hS => ?_)
        have hP : va_P D vwCl [(mo, .inr (7, [vI 1, .ref no, .ref th, .ref pa, vI ss, .ref sl, .ref sv, .ref tx, vI ty])), (no, .inl (cy 1, 118, .inl (iA a))), (pa, .inl (cy 1, 1652, .inl (iA ap)))] H := hP
        have hD : va_D _ [(mo, .inr (7, [vI 1, .ref no, .ref th, .ref pa, vI ss, .ref sl, .ref sv, .ref tx, vI ty])), (no, .inl (cy 1, 118, .inl (iA a))), (pa, .inl (cy 1, 1652, .inl (iA ap)))] := hD
        refine rr_ifP_eq F (tgt := 79) dX7_addWalker_74 (by decide) (fun c_74 => ?_) (fun c_74 => ?_)
        · exfalso; omega
        · exfalso; omega
      · refine lv_iload_n F.1 F.2.1 dX7_addWalker_35 rfl (lv_at hl 3 rfl) ?_
        refine rr_rdS (rest := [.ref mo]) F hK (c_X7_isWay l D cy d (by first | assumption | omega | exact ⟨by omega, by omega⟩)) (hP.sub [] rfl) sf_X7_isWay tw1004 ⟨Nat.le_of_ble_eq_true rfl, Nat.le_of_ble_eq_true rfl⟩ hl rfl (Nat.le_of_ble_eq_true rfl) dX7_addWalker_36 ⟨Nat.zero_le _, Nat.zero_le _⟩ ?_
        refine rr_ifP_ne F (tgt := 46) dX7_addWalker_39 (by decide) (fun c_39 => ?_) (fun c_39 => ?_)
        · refine lv_iload F.1 F.2.1 dX7_addWalker_46 (lv_at hl 0 rfl) ?_
          refine rr_if_ne F (tgt := 55) dX7_addWalker_48 (by decide) ⟨by omega, by omega⟩ (fun c_48 => ?_) (fun c_48 => ?_)
          · exfalso; omega
          · refine rr_iconst F dX7_addWalker_51 ?_
            refine lv_goto (tgt := 71) F.1 F.2.1 dX7_addWalker_52 (by decide) ?_
            refine rr_wrV (rest := []) (wr := [(no, .inl (cy 1, 118, .inl (iA a))), (pa, .inl (cy 1, 1652, .inl (iA ap)))]) (ws2 := [(mo, .inr (7, [vI 2, .ref no, .ref th, .ref pa, vI ss, .ref sl, .ref sv, .ref tx, vI ty])), (no, .inl (cy 1, 118, .inl (iA a))), (pa, .inl (cy 1, 1652, .inl (iA ap)))]) F hK (c_X7_refuses l D cy mo no th pa sl sv tx tr ss ty 2 (by first | assumption | omega | exact ⟨by omega, by omega⟩)) hP hD hS hA sf_X7_refuses tw910 7 rfl rfl ⟨Nat.le_of_ble_eq_true rfl, Nat.le_of_ble_eq_true rfl⟩ hl rfl (Nat.le_of_ble_eq_true rfl) dX7_addWalker_71 ⟨Nat.zero_le _, Nat.zero_le _⟩ [0] [1, 2] [2, 0, 1] rfl rfl (by decide) (by decide) (by decide) rfl rfl (by decide) (fun H locs hP hD hS => ?_)
            have hP : va_P D vwCl [(mo, .inr (7, [vI 2, .ref no, .ref th, .ref pa, vI ss, .ref sl, .ref sv, .ref tx, vI ty])), (no, .inl (cy 1, 118, .inl (iA a))), (pa, .inl (cy 1, 1652, .inl (iA ap)))] H := hP
            have hD : va_D _ [(mo, .inr (7, [vI 2, .ref no, .ref th, .ref pa, vI ss, .ref sl, .ref sv, .ref tx, vI ty])), (no, .inl (cy 1, 118, .inl (iA a))), (pa, .inl (cy 1, 1652, .inl (iA ap)))] := hD
            refine rr_ifP_eq F (tgt := 79) dX7_addWalker_74 (by decide) (fun c_74 => ?_) (fun c_74 => ?_)
            · exfalso; omega
            · exfalso; omega
        · refine rr_iconst F dX7_addWalker_42 ?_
          refine lv_goto (tgt := 71) F.1 F.2.1 dX7_addWalker_43 (by decide) ?_
          refine rr_wrV (rest := []) (wr := [(no, .inl (cy 1, 118, .inl (iA a))), (pa, .inl (cy 1, 1652, .inl (iA ap)))]) (ws2 := [(mo, .inr (7, [vI 1, .ref no, .ref th, .ref pa, vI ss, .ref sl, .ref sv, .ref tx, vI ty])), (no, .inl (cy 1, 118, .inl (iA a))), (pa, .inl (cy 1, 1652, .inl (iA ap)))]) F hK (c_X7_refuses l D cy mo no th pa sl sv tx tr ss ty 1 (by first | assumption | omega | exact ⟨by omega, by omega⟩)) hP hD hS hA sf_X7_refuses tw910 7 rfl rfl ⟨Nat.le_of_ble_eq_true rfl, Nat.le_of_ble_eq_true rfl⟩ hl rfl (Nat.le_of_ble_eq_true rfl) dX7_addWalker_71 ⟨Nat.zero_le _, Nat.zero_le _⟩ [0] [1, 2] [2, 0, 1] rfl rfl (by decide) (by decide) (by decide) rfl rfl (by decide) (fun H locs hP hD hS => ?_)
          have hP : va_P D vwCl [(mo, .inr (7, [vI 1, .ref no, .ref th, .ref pa, vI ss, .ref sl, .ref sv, .ref tx, vI ty])), (no, .inl (cy 1, 118, .inl (iA a))), (pa, .inl (cy 1, 1652, .inl (iA ap)))] H := hP
          have hD : va_D _ [(mo, .inr (7, [vI 1, .ref no, .ref th, .ref pa, vI ss, .ref sl, .ref sv, .ref tx, vI ty])), (no, .inl (cy 1, 118, .inl (iA a))), (pa, .inl (cy 1, 1652, .inl (iA ap)))] := hD
          refine rr_ifP_eq F (tgt := 79) dX7_addWalker_74 (by decide) (fun c_74 => ?_) (fun c_74 => ?_)
          · exfalso; omega
          · exfalso; omega
    · refine rr_iconst F dX7_addWalker_19 ?_
      refine lv_goto (tgt := 24) F.1 F.2.1 dX7_addWalker_20 (by decide) ?_
      refine lv_istore (lv' := [(5, vI 1), (0, .ref mo), (1, vI i), (2, vI d), (3, vI pa0), (4, vI si)]) F.1 F.2.1 dX7_addWalker_24 hl (by decide) rfl (fun ls hl => ?_)
      refine lv_aload_n F.1 F.2.1 dX7_addWalker_26 rfl (lv_at hl 1 rfl) ?_
      refine lv_aload_n F.1 F.2.1 dX7_addWalker_27 rfl (lv_at hl 1 rfl) ?_
      refine lv_iload_n F.1 F.2.1 dX7_addWalker_28 rfl (lv_at hl 2 rfl) ?_
      refine rr_rdV (rest := [.ref mo]) F hK (c_X7_isPlace l D cy mo no th pa sl sv tx tr ss ty a i (by first | assumption | omega | exact ⟨by omega, by omega⟩) (by first | assumption | omega | exact ⟨by omega, by omega⟩)) (hP.sub [0, 1] rfl) sf_X7_isPlace tw985 7 rfl rfl ⟨Nat.le_of_ble_eq_true rfl, Nat.le_of_ble_eq_true rfl⟩ hl rfl (Nat.le_of_ble_eq_true rfl) dX7_addWalker_29 ⟨Nat.zero_le _, Nat.zero_le _⟩ ?_
      refine rr_ifP_eq F (tgt := 42) dX7_addWalker_32 (by decide) (fun c_32 => ?_) (fun c_32 => ?_)
      · refine rr_iconst F dX7_addWalker_42 ?_
        refine lv_goto (tgt := 71) F.1 F.2.1 dX7_addWalker_43 (by decide) ?_
        refine rr_wrV (rest := []) (wr := [(no, .inl (cy 1, 118, .inl (iA a))), (pa, .inl (cy 1, 1652, .inl (iA ap)))]) (ws2 := [(mo, .inr (7, [vI 1, .ref no, .ref th, .ref pa, vI ss, .ref sl, .ref sv, .ref tx, vI ty])), (no, .inl (cy 1, 118, .inl (iA a))), (pa, .inl (cy 1, 1652, .inl (iA ap)))]) F hK (c_X7_refuses l D cy mo no th pa sl sv tx tr ss ty 1 (by first | assumption | omega | exact ⟨by omega, by omega⟩)) hP hD hS hA sf_X7_refuses tw910 7 rfl rfl ⟨Nat.le_of_ble_eq_true rfl, Nat.le_of_ble_eq_true rfl⟩ hl rfl (Nat.le_of_ble_eq_true rfl) dX7_addWalker_71 ⟨Nat.zero_le _, Nat.zero_le _⟩ [0] [1, 2] [2, 0, 1] rfl rfl (by decide) (by decide) (by decide) rfl rfl (by decide) (fun H locs hP hD hS => ?_)
        have hP : va_P D vwCl [(mo, .inr (7, [vI 1, .ref no, .ref th, .ref pa, vI ss, .ref sl, .ref sv, .ref tx, vI ty])), (no, .inl (cy 1, 118, .inl (iA a))), (pa, .inl (cy 1, 1652, .inl (iA ap)))] H := hP
        have hD : va_D _ [(mo, .inr (7, [vI 1, .ref no, .ref th, .ref pa, vI ss, .ref sl, .ref sv, .ref tx, vI ty])), (no, .inl (cy 1, 118, .inl (iA a))), (pa, .inl (cy 1, 1652, .inl (iA ap)))] := hD
        refine rr_ifP_eq F (tgt := 79) dX7_addWalker_74 (by decide) (fun c_74 => ?_) (fun c_74 => ?_)
        · exfalso; omega
        · exfalso; omega
      · refine lv_iload_n F.1 F.2.1 dX7_addWalker_35 rfl (lv_at hl 3 rfl) ?_
        refine rr_rdS (rest := [.ref mo]) F hK (c_X7_isWay l D cy d (by first | assumption | omega | exact ⟨by omega, by omega⟩)) (hP.sub [] rfl) sf_X7_isWay tw1004 ⟨Nat.le_of_ble_eq_true rfl, Nat.le_of_ble_eq_true rfl⟩ hl rfl (Nat.le_of_ble_eq_true rfl) dX7_addWalker_36 ⟨Nat.zero_le _, Nat.zero_le _⟩ ?_
        refine rr_ifP_ne F (tgt := 46) dX7_addWalker_39 (by decide) (fun c_39 => ?_) (fun c_39 => ?_)
        · refine lv_iload F.1 F.2.1 dX7_addWalker_46 (lv_at hl 0 rfl) ?_
          refine rr_if_ne F (tgt := 55) dX7_addWalker_48 (by decide) ⟨by omega, by omega⟩ (fun c_48 => ?_) (fun c_48 => ?_)
          · refine lv_aload_n F.1 F.2.1 dX7_addWalker_55 rfl (lv_at hl 1 rfl) ?_
            refine gf7_1 F hK hP 0 rfl tw875 dX7_addWalker_56 ?_
            refine rr_bipush F dX7_addWalker_59 (by decide) ?_
            refine rr_iald F hK hP 1 rfl (by omega) (by omega) (by decide) dX7_addWalker_61 ?_
            refine rr_iconst F dX7_addWalker_62 ?_
            refine rr_icmp_ne F (tgt := 70) dX7_addWalker_63 (by decide) ⟨by omega, by omega⟩ ⟨by omega, by omega⟩ (fun c_63 => ?_) (fun c_63 => ?_)
            · refine rr_iconst F dX7_addWalker_70 ?_
              refine rr_wrV (rest := []) (wr := [(no, .inl (cy 1, 118, .inl (iA a))), (pa, .inl (cy 1, 1652, .inl (iA ap)))]) (ws2 := [(mo, .inr (7, [vI 0, .ref no, .ref th, .ref pa, vI ss, .ref sl, .ref sv, .ref tx, vI ty])), (no, .inl (cy 1, 118, .inl (iA a))), (pa, .inl (cy 1, 1652, .inl (iA ap)))]) F hK (c_X7_refuses l D cy mo no th pa sl sv tx tr ss ty 0 (by first | assumption | omega | exact ⟨by omega, by omega⟩)) hP hD hS hA sf_X7_refuses tw910 7 rfl rfl ⟨Nat.le_of_ble_eq_true rfl, Nat.le_of_ble_eq_true rfl⟩ hl rfl (Nat.le_of_ble_eq_true rfl) dX7_addWalker_71 ⟨Nat.zero_le _, Nat.zero_le _⟩ [0] [1, 2] [2, 0, 1] rfl rfl (by decide) (by decide) (by decide) rfl rfl (by decide) (fun H locs hP hD hS => ?_)
              have hP : va_P D vwCl [(mo, .inr (7, [vI 0, .ref no, .ref th, .ref pa, vI ss, .ref sl, .ref sv, .ref tx, vI ty])), (no, .inl (cy 1, 118, .inl (iA a))), (pa, .inl (cy 1, 1652, .inl (iA ap)))] H := hP
              have hD : va_D _ [(mo, .inr (7, [vI 0, .ref no, .ref th, .ref pa, vI ss, .ref sl, .ref sv, .ref tx, vI ty])), (no, .inl (cy 1, 118, .inl (iA a))), (pa, .inl (cy 1, 1652, .inl (iA ap)))] := hD
              refine rr_ifP_eq F (tgt := 79) dX7_addWalker_74 (by decide) (fun c_74 => ?_) (fun c_74 => ?_)
              · refine lv_aload_n F.1 F.2.1 dX7_addWalker_79 rfl (lv_at hl 1 rfl) ?_
                refine rr_wrV (rest := []) (wr := []) (ws2 := [(mo, .inr (7, [vI 0, .ref no, .ref th, .ref pa, vI (remN ss), .ref sl, .ref sv, .ref tx, vI ty])), (no, .inl (cy 1, 118, .inl (iA a))), (pa, .inl (cy 1, 1652, .inl (iA (remA a ap ss))))]) F hK (c_X7_remembers l D cy mo no th pa sl sv tx 0 ss ty a ap (by first | assumption | omega | exact ⟨by omega, by omega⟩)) hP hD hS hA sf_X7_remembers tw1092 7 rfl rfl ⟨Nat.le_of_ble_eq_true rfl, Nat.le_of_ble_eq_true rfl⟩ hl rfl (Nat.le_of_ble_eq_true rfl) dX7_addWalker_80 ⟨Nat.zero_le _, Nat.zero_le _⟩ [0, 1, 2] [] [0, 1, 2] rfl rfl (by decide) (by decide) (by decide) rfl rfl (by decide) (fun H locs hP hD hS => ?_)
                have hP : va_P D vwCl [(mo, .inr (7, [vI 0, .ref no, .ref th, .ref pa, vI (remN ss), .ref sl, .ref sv, .ref tx, vI ty])), (no, .inl (cy 1, 118, .inl (iA a))), (pa, .inl (cy 1, 1652, .inl (iA (remA a ap ss))))] H := hP
                have hD : va_D _ [(mo, .inr (7, [vI 0, .ref no, .ref th, .ref pa, vI (remN ss), .ref sl, .ref sv, .ref tx, vI ty])), (no, .inl (cy 1, 118, .inl (iA a))), (pa, .inl (cy 1, 1652, .inl (iA (remA a ap ss))))] := hD
                refine lv_aload_n F.1 F.2.1 dX7_addWalker_83 rfl (lv_at hl 1 rfl) ?_
                refine gf7_1 F hK hP 0 rfl tw875 dX7_addWalker_84 ?_
                refine lv_iload_n F.1 F.2.1 dX7_addWalker_87 rfl (lv_at hl 2 rfl) ?_
                refine lv_iload_n F.1 F.2.1 dX7_addWalker_88 rfl (lv_at hl 3 rfl) ?_
                refine lv_iload_n F.1 F.2.1 dX7_addWalker_89 rfl (lv_at hl 4 rfl) ?_
                refine lv_iload F.1 F.2.1 dX7_addWalker_90 (lv_at hl 5 rfl) ?_
                refine rr_wrS (rest := []) (wr := [(mo, .inr (7, [vI 0, .ref no, .ref th, .ref pa, vI (remN ss), .ref sl, .ref sv, .ref tx, vI ty])), (pa, .inl (cy 1, 1652, .inl (iA (remA a ap ss))))]) (ws2 := [(mo, .inr (7, [vI 0, .ref no, .ref th, .ref pa, vI (remN ss), .ref sl, .ref sv, .ref tx, vI ty])), (no, .inl (cy 1, 118, .inl (iA (updZ (updZ (updZ (updZ (updZ (updZ (updZ a (97 + 5 * a 96 + 0) i) (97 + 5 * a 96 + 1) d) (97 + 5 * a 96 + 2) pa0) (97 + 5 * a 96 + 3) si) (97 + 5 * a 96 + 4) 0) 96 (a 96 + 1)) (97 + 5 * a 96 + 4) (bor 0 (vw (a 0) i d si)))))), (pa, .inl (cy 1, 1652, .inl (iA (remA a ap ss))))]) F hK (c_X7_comes l D cy no a i d pa0 si (by first | assumption | omega | exact ⟨by omega, by omega⟩) (by first | assumption | omega | exact ⟨by omega, by omega⟩) (by first | assumption | omega | exact ⟨by omega, by omega⟩) (by first | assumption | omega | exact ⟨by omega, by omega⟩) (by first | assumption | omega | exact ⟨by omega, by omega⟩) (by first | assumption | omega | exact ⟨by omega, by omega⟩)) hP hD hS hA sf_X7_comes tw1146 ⟨Nat.le_of_ble_eq_true rfl, Nat.le_of_ble_eq_true rfl⟩ hl rfl (Nat.le_of_ble_eq_true rfl) dX7_addWalker_92 ⟨Nat.zero_le _, Nat.zero_le _⟩ [1] [0, 2] [0, 2, 1] rfl rfl (by decide) (by decide) (by decide) rfl rfl (by decide) (fun H locs hP hD hS => ?_)
                have hP : va_P D vwCl [(mo, .inr (7, [vI 0, .ref no, .ref th, .ref pa, vI (remN ss), .ref sl, .ref sv, .ref tx, vI ty])), (no, .inl (cy 1, 118, .inl (iA (updZ (updZ (updZ (updZ (updZ (updZ (updZ a (97 + 5 * a 96 + 0) i) (97 + 5 * a 96 + 1) d) (97 + 5 * a 96 + 2) pa0) (97 + 5 * a 96 + 3) si) (97 + 5 * a 96 + 4) 0) 96 (a 96 + 1)) (97 + 5 * a 96 + 4) (bor 0 (vw (a 0) i d si)))))), (pa, .inl (cy 1, 1652, .inl (iA (remA a ap ss))))] H := hP
                have hD : va_D _ [(mo, .inr (7, [vI 0, .ref no, .ref th, .ref pa, vI (remN ss), .ref sl, .ref sv, .ref tx, vI ty])), (no, .inl (cy 1, 118, .inl (iA (updZ (updZ (updZ (updZ (updZ (updZ (updZ a (97 + 5 * a 96 + 0) i) (97 + 5 * a 96 + 1) d) (97 + 5 * a 96 + 2) pa0) (97 + 5 * a 96 + 3) si) (97 + 5 * a 96 + 4) 0) 96 (a 96 + 1)) (97 + 5 * a 96 + 4) (bor 0 (vw (a 0) i d si)))))), (pa, .inl (cy 1, 1652, .inl (iA (remA a ap ss))))] := hD
                exact rr_wiret F hr hlocks dX7_addWalker_95 hP hS (rfl) (by first | rfl | omega)
              · exfalso; omega
            · refine rr_iconst F dX7_addWalker_66 ?_
              refine lv_goto (tgt := 71) F.1 F.2.1 dX7_addWalker_67 (by decide) ?_
              refine rr_wrV (rest := []) (wr := [(no, .inl (cy 1, 118, .inl (iA a))), (pa, .inl (cy 1, 1652, .inl (iA ap)))]) (ws2 := [(mo, .inr (7, [vI 3, .ref no, .ref th, .ref pa, vI ss, .ref sl, .ref sv, .ref tx, vI ty])), (no, .inl (cy 1, 118, .inl (iA a))), (pa, .inl (cy 1, 1652, .inl (iA ap)))]) F hK (c_X7_refuses l D cy mo no th pa sl sv tx tr ss ty 3 (by first | assumption | omega | exact ⟨by omega, by omega⟩)) hP hD hS hA sf_X7_refuses tw910 7 rfl rfl ⟨Nat.le_of_ble_eq_true rfl, Nat.le_of_ble_eq_true rfl⟩ hl rfl (Nat.le_of_ble_eq_true rfl) dX7_addWalker_71 ⟨Nat.zero_le _, Nat.zero_le _⟩ [0] [1, 2] [2, 0, 1] rfl rfl (by decide) (by decide) (by decide) rfl rfl (by decide) (fun H locs hP hD hS => ?_)
              have hP : va_P D vwCl [(mo, .inr (7, [vI 3, .ref no, .ref th, .ref pa, vI ss, .ref sl, .ref sv, .ref tx, vI ty])), (no, .inl (cy 1, 118, .inl (iA a))), (pa, .inl (cy 1, 1652, .inl (iA ap)))] H := hP
              have hD : va_D _ [(mo, .inr (7, [vI 3, .ref no, .ref th, .ref pa, vI ss, .ref sl, .ref sv, .ref tx, vI ty])), (no, .inl (cy 1, 118, .inl (iA a))), (pa, .inl (cy 1, 1652, .inl (iA ap)))] := hD
              refine rr_ifP_eq F (tgt := 79) dX7_addWalker_74 (by decide) (fun c_74 => ?_) (fun c_74 => ?_)
              · exfalso; omega
              · exfalso; omega
          · exfalso; omega
        · refine rr_iconst F dX7_addWalker_42 ?_
          refine lv_goto (tgt := 71) F.1 F.2.1 dX7_addWalker_43 (by decide) ?_
          refine rr_wrV (rest := []) (wr := [(no, .inl (cy 1, 118, .inl (iA a))), (pa, .inl (cy 1, 1652, .inl (iA ap)))]) (ws2 := [(mo, .inr (7, [vI 1, .ref no, .ref th, .ref pa, vI ss, .ref sl, .ref sv, .ref tx, vI ty])), (no, .inl (cy 1, 118, .inl (iA a))), (pa, .inl (cy 1, 1652, .inl (iA ap)))]) F hK (c_X7_refuses l D cy mo no th pa sl sv tx tr ss ty 1 (by first | assumption | omega | exact ⟨by omega, by omega⟩)) hP hD hS hA sf_X7_refuses tw910 7 rfl rfl ⟨Nat.le_of_ble_eq_true rfl, Nat.le_of_ble_eq_true rfl⟩ hl rfl (Nat.le_of_ble_eq_true rfl) dX7_addWalker_71 ⟨Nat.zero_le _, Nat.zero_le _⟩ [0] [1, 2] [2, 0, 1] rfl rfl (by decide) (by decide) (by decide) rfl rfl (by decide) (fun H locs hP hD hS => ?_)
          have hP : va_P D vwCl [(mo, .inr (7, [vI 1, .ref no, .ref th, .ref pa, vI ss, .ref sl, .ref sv, .ref tx, vI ty])), (no, .inl (cy 1, 118, .inl (iA a))), (pa, .inl (cy 1, 1652, .inl (iA ap)))] H := hP
          have hD : va_D _ [(mo, .inr (7, [vI 1, .ref no, .ref th, .ref pa, vI ss, .ref sl, .ref sv, .ref tx, vI ty])), (no, .inl (cy 1, 118, .inl (iA a))), (pa, .inl (cy 1, 1652, .inl (iA ap)))] := hD
          refine rr_ifP_eq F (tgt := 79) dX7_addWalker_74 (by decide) (fun c_74 => ?_) (fun c_74 => ?_)
          · exfalso; omega
          · exfalso; omega
set_option maxRecDepth 100000 in
set_option maxHeartbeats 4000000 in
theorem n_X7_addWalker (l : Launch) (D : va_G) (cy : Nat → ClassId) (mo no th pa sl sv tx : Nat) (tr ss ty : Int) (a ap : Int → Int) (i d pa0 si : Int) (hM : MR a) (hs : 0 ≤ ss ∧ ss ≤ 14) (hi : inR i) (hd : inR d) (hp : inR pa0) (hsi : inR si) (hbad : ¬ ((0 ≤ i ∧ i < a 0) ∧ (0 ≤ d ∧ d ≤ 1) ∧ (1 ≤ pa0 ∧ pa0 ≤ 3) ∧ (1 ≤ si ∧ si ≤ 5) ∧ a 96 < 4)) : Wr l yX7_addWalker cX7_addWalker 6 (some FieldType.int) 2 [.ref mo, vI i, vI d, vI pa0, vI si] D cy [(mo, .inr (7, [vI tr, .ref no, .ref th, .ref pa, vI ss, .ref sl, .ref sv, .ref tx, vI ty])), (no, .inl (cy 1, 118, .inl (iA a))), (pa, .inl (cy 1, 1652, .inl (iA ap)))] [(mo, .inr (7, [vI (if (0 ≤ i ∧ i < a 0) ∧ (0 ≤ d ∧ d ≤ 1) then (if (1 ≤ pa0 ∧ pa0 ≤ 3) ∧ (1 ≤ si ∧ si ≤ 5) then 3 else 2) else 1), .ref no, .ref th, .ref pa, vI ss, .ref sl, .ref sv, .ref tx, vI ty])), (no, .inl (cy 1, 118, .inl (iA a))), (pa, .inl (cy 1, 1652, .inl (iA ap)))] (some (vI 0)) := by
  refine Wr.of RX7 rfl [(0, .ref mo), (1, vI i), (2, vI d), (3, vI pa0), (4, vI si)] rfl (by decide +kernel) (Nat.le_of_ble_eq_true rfl) ?_
  intro p e s m args below meth c F hr hlocks hK hP hD hS hA ls hl
  have hn0 := hM.n
  have hw0 := hM.nw
  have hc0 := hM.wc
  refine lv_iload_n F.1 F.2.1 dX7_addWalker_0 rfl (lv_at hl 3 rfl) ?_
  refine rr_iconst F dX7_addWalker_1 ?_
  refine rr_iconst F dX7_addWalker_2 ?_
  refine rr_rdS (rest := []) F hK (c_X7_in l D cy pa0 1 3 (by first | assumption | omega | exact ⟨by omega, by omega⟩) (by first | assumption | omega | exact ⟨by omega, by omega⟩) (by first | assumption | omega | exact ⟨by omega, by omega⟩)) (hP.sub [] rfl) sf_X7_in tw921 ⟨Nat.le_of_ble_eq_true rfl, Nat.le_of_ble_eq_true rfl⟩ hl rfl (Nat.le_of_ble_eq_true rfl) dX7_addWalker_3 ⟨Nat.zero_le _, Nat.zero_le _⟩ ?_
  refine rr_ifP_eq F (tgt := 23) dX7_addWalker_6 (by decide) (fun c_6 => ?_) (fun c_6 => ?_)
  · refine rr_iconst F dX7_addWalker_23 ?_
    refine lv_istore (lv' := [(5, vI 0), (0, .ref mo), (1, vI i), (2, vI d), (3, vI pa0), (4, vI si)]) F.1 F.2.1 dX7_addWalker_24 hl (by decide) rfl (fun ls hl => ?_)
    refine lv_aload_n F.1 F.2.1 dX7_addWalker_26 rfl (lv_at hl 1 rfl) ?_
    refine lv_aload_n F.1 F.2.1 dX7_addWalker_27 rfl (lv_at hl 1 rfl) ?_
    refine lv_iload_n F.1 F.2.1 dX7_addWalker_28 rfl (lv_at hl 2 rfl) ?_
    refine rr_rdV (rest := [.ref mo]) F hK (c_X7_isPlace l D cy mo no th pa sl sv tx tr ss ty a i (by first | assumption | omega | exact ⟨by omega, by omega⟩) (by first | assumption | omega | exact ⟨by omega, by omega⟩)) (hP.sub [0, 1] rfl) sf_X7_isPlace tw985 7 rfl rfl ⟨Nat.le_of_ble_eq_true rfl, Nat.le_of_ble_eq_true rfl⟩ hl rfl (Nat.le_of_ble_eq_true rfl) dX7_addWalker_29 ⟨Nat.zero_le _, Nat.zero_le _⟩ ?_
    refine rr_ifP_eq F (tgt := 42) dX7_addWalker_32 (by decide) (fun c_32 => ?_) (fun c_32 => ?_)
    · refine rr_iconst F dX7_addWalker_42 ?_
      refine lv_goto (tgt := 71) F.1 F.2.1 dX7_addWalker_43 (by decide) ?_
      refine rr_wrV (rest := []) (wr := [(no, .inl (cy 1, 118, .inl (iA a))), (pa, .inl (cy 1, 1652, .inl (iA ap)))]) (ws2 := [(mo, .inr (7, [vI 1, .ref no, .ref th, .ref pa, vI ss, .ref sl, .ref sv, .ref tx, vI ty])), (no, .inl (cy 1, 118, .inl (iA a))), (pa, .inl (cy 1, 1652, .inl (iA ap)))]) F hK (c_X7_refuses l D cy mo no th pa sl sv tx tr ss ty 1 (by first | assumption | omega | exact ⟨by omega, by omega⟩)) hP hD hS hA sf_X7_refuses tw910 7 rfl rfl ⟨Nat.le_of_ble_eq_true rfl, Nat.le_of_ble_eq_true rfl⟩ hl rfl (Nat.le_of_ble_eq_true rfl) dX7_addWalker_71 ⟨Nat.zero_le _, Nat.zero_le _⟩ [0] [1, 2] [2, 0, 1] rfl rfl (by decide) (by decide) (by decide) rfl rfl (by decide) (fun H locs hP hD hS => ?_)
      have hP : va_P D vwCl [(mo, .inr (7, [vI 1, .ref no, .ref th, .ref pa, vI ss, .ref sl, .ref sv, .ref tx, vI ty])), (no, .inl (cy 1, 118, .inl (iA a))), (pa, .inl (cy 1, 1652, .inl (iA ap)))] H := hP
      have hD : va_D _ [(mo, .inr (7, [vI 1, .ref no, .ref th, .ref pa, vI ss, .ref sl, .ref sv, .ref tx, vI ty])), (no, .inl (cy 1, 118, .inl (iA a))), (pa, .inl (cy 1, 1652, .inl (iA ap)))] := hD
      refine rr_ifP_eq F (tgt := 79) dX7_addWalker_74 (by decide) (fun c_74 => ?_) (fun c_74 => ?_)
      · exfalso; omega
      · refine rr_iconst F dX7_addWalker_77 ?_
        exact rr_wiret F hr hlocks dX7_addWalker_78 hP hS (by repeat' (first | rfl | split | omega)) (rfl)
    · refine lv_iload_n F.1 F.2.1 dX7_addWalker_35 rfl (lv_at hl 3 rfl) ?_
      refine rr_rdS (rest := [.ref mo]) F hK (c_X7_isWay l D cy d (by first | assumption | omega | exact ⟨by omega, by omega⟩)) (hP.sub [] rfl) sf_X7_isWay tw1004 ⟨Nat.le_of_ble_eq_true rfl, Nat.le_of_ble_eq_true rfl⟩ hl rfl (Nat.le_of_ble_eq_true rfl) dX7_addWalker_36 ⟨Nat.zero_le _, Nat.zero_le _⟩ ?_
      refine rr_ifP_ne F (tgt := 46) dX7_addWalker_39 (by decide) (fun c_39 => ?_) (fun c_39 => ?_)
      · refine lv_iload F.1 F.2.1 dX7_addWalker_46 (lv_at hl 0 rfl) ?_
        refine rr_if_ne F (tgt := 55) dX7_addWalker_48 (by decide) ⟨by omega, by omega⟩ (fun c_48 => ?_) (fun c_48 => ?_)
        · exfalso; omega
        · refine rr_iconst F dX7_addWalker_51 ?_
          refine lv_goto (tgt := 71) F.1 F.2.1 dX7_addWalker_52 (by decide) ?_
          refine rr_wrV (rest := []) (wr := [(no, .inl (cy 1, 118, .inl (iA a))), (pa, .inl (cy 1, 1652, .inl (iA ap)))]) (ws2 := [(mo, .inr (7, [vI 2, .ref no, .ref th, .ref pa, vI ss, .ref sl, .ref sv, .ref tx, vI ty])), (no, .inl (cy 1, 118, .inl (iA a))), (pa, .inl (cy 1, 1652, .inl (iA ap)))]) F hK (c_X7_refuses l D cy mo no th pa sl sv tx tr ss ty 2 (by first | assumption | omega | exact ⟨by omega, by omega⟩)) hP hD hS hA sf_X7_refuses tw910 7 rfl rfl ⟨Nat.le_of_ble_eq_true rfl, Nat.le_of_ble_eq_true rfl⟩ hl rfl (Nat.le_of_ble_eq_true rfl) dX7_addWalker_71 ⟨Nat.zero_le _, Nat.zero_le _⟩ [0] [1, 2] [2, 0, 1] rfl rfl (by decide) (by decide) (by decide) rfl rfl (by decide) (fun H locs hP hD hS => ?_)
          have hP : va_P D vwCl [(mo, .inr (7, [vI 2, .ref no, .ref th, .ref pa, vI ss, .ref sl, .ref sv, .ref tx, vI ty])), (no, .inl (cy 1, 118, .inl (iA a))), (pa, .inl (cy 1, 1652, .inl (iA ap)))] H := hP
          have hD : va_D _ [(mo, .inr (7, [vI 2, .ref no, .ref th, .ref pa, vI ss, .ref sl, .ref sv, .ref tx, vI ty])), (no, .inl (cy 1, 118, .inl (iA a))), (pa, .inl (cy 1, 1652, .inl (iA ap)))] := hD
          refine rr_ifP_eq F (tgt := 79) dX7_addWalker_74 (by decide) (fun c_74 => ?_) (fun c_74 => ?_)
          · exfalso; omega
          · refine rr_iconst F dX7_addWalker_77 ?_
            exact rr_wiret F hr hlocks dX7_addWalker_78 hP hS (by repeat' (first | rfl | split | omega)) (rfl)
      · refine rr_iconst F dX7_addWalker_42 ?_
        refine lv_goto (tgt := 71) F.1 F.2.1 dX7_addWalker_43 (by decide) ?_
        refine rr_wrV (rest := []) (wr := [(no, .inl (cy 1, 118, .inl (iA a))), (pa, .inl (cy 1, 1652, .inl (iA ap)))]) (ws2 := [(mo, .inr (7, [vI 1, .ref no, .ref th, .ref pa, vI ss, .ref sl, .ref sv, .ref tx, vI ty])), (no, .inl (cy 1, 118, .inl (iA a))), (pa, .inl (cy 1, 1652, .inl (iA ap)))]) F hK (c_X7_refuses l D cy mo no th pa sl sv tx tr ss ty 1 (by first | assumption | omega | exact ⟨by omega, by omega⟩)) hP hD hS hA sf_X7_refuses tw910 7 rfl rfl ⟨Nat.le_of_ble_eq_true rfl, Nat.le_of_ble_eq_true rfl⟩ hl rfl (Nat.le_of_ble_eq_true rfl) dX7_addWalker_71 ⟨Nat.zero_le _, Nat.zero_le _⟩ [0] [1, 2] [2, 0, 1] rfl rfl (by decide) (by decide) (by decide) rfl rfl (by decide) (fun H locs hP hD hS => ?_)
        have hP : va_P D vwCl [(mo, .inr (7, [vI 1, .ref no, .ref th, .ref pa, vI ss, .ref sl, .ref sv, .ref tx, vI ty])), (no, .inl (cy 1, 118, .inl (iA a))), (pa, .inl (cy 1, 1652, .inl (iA ap)))] H := hP
        have hD : va_D _ [(mo, .inr (7, [vI 1, .ref no, .ref th, .ref pa, vI ss, .ref sl, .ref sv, .ref tx, vI ty])), (no, .inl (cy 1, 118, .inl (iA a))), (pa, .inl (cy 1, 1652, .inl (iA ap)))] := hD
        refine rr_ifP_eq F (tgt := 79) dX7_addWalker_74 (by decide) (fun c_74 => ?_) (fun c_74 => ?_)
        · exfalso; omega
        · refine rr_iconst F dX7_addWalker_77 ?_
          exact rr_wiret F hr hlocks dX7_addWalker_78 hP hS (by repeat' (first | rfl | split | omega)) (rfl)
  · refine lv_iload F.1 F.2.1 dX7_addWalker_9 (lv_at hl 4 rfl) ?_
    refine rr_iconst F dX7_addWalker_11 ?_
    refine rr_iconst F dX7_addWalker_12 ?_
    refine rr_rdS (rest := []) F hK (c_X7_in l D cy si 1 5 (by first | assumption | omega | exact ⟨by omega, by omega⟩) (by first | assumption | omega | exact ⟨by omega, by omega⟩) (by first | assumption | omega | exact ⟨by omega, by omega⟩)) (hP.sub [] rfl) sf_X7_in tw921 ⟨Nat.le_of_ble_eq_true rfl, Nat.le_of_ble_eq_true rfl⟩ hl rfl (Nat.le_of_ble_eq_true rfl) dX7_addWalker_13 ⟨Nat.zero_le _, Nat.zero_le _⟩ ?_
    refine rr_ifP_eq F (tgt := 23) dX7_addWalker_16 (by decide) (fun c_16 => ?_) (fun c_16 => ?_)
    · refine rr_iconst F dX7_addWalker_23 ?_
      refine lv_istore (lv' := [(5, vI 0), (0, .ref mo), (1, vI i), (2, vI d), (3, vI pa0), (4, vI si)]) F.1 F.2.1 dX7_addWalker_24 hl (by decide) rfl (fun ls hl => ?_)
      refine lv_aload_n F.1 F.2.1 dX7_addWalker_26 rfl (lv_at hl 1 rfl) ?_
      refine lv_aload_n F.1 F.2.1 dX7_addWalker_27 rfl (lv_at hl 1 rfl) ?_
      refine lv_iload_n F.1 F.2.1 dX7_addWalker_28 rfl (lv_at hl 2 rfl) ?_
      refine rr_rdV (rest := [.ref mo]) F hK (c_X7_isPlace l D cy mo no th pa sl sv tx tr ss ty a i (by first | assumption | omega | exact ⟨by omega, by omega⟩) (by first | assumption | omega | exact ⟨by omega, by omega⟩)) (hP.sub [0, 1] rfl) sf_X7_isPlace tw985 7 rfl rfl ⟨Nat.le_of_ble_eq_true rfl, Nat.le_of_ble_eq_true rfl⟩ hl rfl (Nat.le_of_ble_eq_true rfl) dX7_addWalker_29 ⟨Nat.zero_le _, Nat.zero_le _⟩ ?_
      refine rr_ifP_eq F (tgt := 42) dX7_addWalker_32 (by decide) (fun c_32 => ?_) (fun c_32 => ?_)
      · refine rr_iconst F dX7_addWalker_42 ?_
        refine lv_goto (tgt := 71) F.1 F.2.1 dX7_addWalker_43 (by decide) ?_
        refine rr_wrV (rest := []) (wr := [(no, .inl (cy 1, 118, .inl (iA a))), (pa, .inl (cy 1, 1652, .inl (iA ap)))]) (ws2 := [(mo, .inr (7, [vI 1, .ref no, .ref th, .ref pa, vI ss, .ref sl, .ref sv, .ref tx, vI ty])), (no, .inl (cy 1, 118, .inl (iA a))), (pa, .inl (cy 1, 1652, .inl (iA ap)))]) F hK (c_X7_refuses l D cy mo no th pa sl sv tx tr ss ty 1 (by first | assumption | omega | exact ⟨by omega, by omega⟩)) hP hD hS hA sf_X7_refuses tw910 7 rfl rfl ⟨Nat.le_of_ble_eq_true rfl, Nat.le_of_ble_eq_true rfl⟩ hl rfl (Nat.le_of_ble_eq_true rfl) dX7_addWalker_71 ⟨Nat.zero_le _, Nat.zero_le _⟩ [0] [1, 2] [2, 0, 1] rfl rfl (by decide) (by decide) (by decide) rfl rfl (by decide) (fun H locs hP hD hS => ?_)
        have hP : va_P D vwCl [(mo, .inr (7, [vI 1, .ref no, .ref th, .ref pa, vI ss, .ref sl, .ref sv, .ref tx, vI ty])), (no, .inl (cy 1, 118, .inl (iA a))), (pa, .inl (cy 1, 1652, .inl (iA ap)))] H := hP
        have hD : va_D _ [(mo, .inr (7, [vI 1, .ref no, .ref th, .ref pa, vI ss, .ref sl, .ref sv, .ref tx, vI ty])), (no, .inl (cy 1, 118, .inl (iA a))), (pa, .inl (cy 1, 1652, .inl (iA ap)))] := hD
        refine rr_ifP_eq F (tgt := 79) dX7_addWalker_74 (by decide) (fun c_74 => ?_) (fun c_74 => ?_)
        · exfalso; omega
        · refine rr_iconst F dX7_addWalker_77 ?_
          exact rr_wiret F hr hlocks dX7_addWalker_78 hP hS (by repeat' (first | rfl | split | omega)) (rfl)
      · refine lv_iload_n F.1 F.2.1 dX7_addWalker_35 rfl (lv_at hl 3 rfl) ?_
        refine rr_rdS (rest := [.ref mo]) F hK (c_X7_isWay l D cy d (by first | assumption | omega | exact ⟨by omega, by omega⟩)) (hP.sub [] rfl) sf_X7_isWay tw1004 ⟨Nat.le_of_ble_eq_true rfl, Nat.le_of_ble_eq_true rfl⟩ hl rfl (Nat.le_of_ble_eq_true rfl) dX7_addWalker_36 ⟨Nat.zero_le _, Nat.zero_le _⟩ ?_
        refine rr_ifP_ne F (tgt := 46) dX7_addWalker_39 (by decide) (fun c_39 => ?_) (fun c_39 => ?_)
        · refine lv_iload F.1 F.2.1 dX7_addWalker_46 (lv_at hl 0 rfl) ?_
          refine rr_if_ne F (tgt := 55) dX7_addWalker_48 (by decide) ⟨by omega, by omega⟩ (fun c_48 => ?_) (fun c_48 => ?_)
          · exfalso; omega
          · refine rr_iconst F dX7_addWalker_51 ?_
            refine lv_goto (tgt := 71) F.1 F.2.1 dX7_addWalker_52 (by decide) ?_
            refine rr_wrV (rest := []) (wr := [(no, .inl (cy 1, 118, .inl (iA a))), (pa, .inl (cy 1, 1652, .inl (iA ap)))]) (ws2 := [(mo, .inr (7, [vI 2, .ref no, .ref th, .ref pa, vI ss, .ref sl, .ref sv, .ref tx, vI ty])), (no, .inl (cy 1, 118, .inl (iA a))), (pa, .inl (cy 1, 1652, .inl (iA ap)))]) F hK (c_X7_refuses l D cy mo no th pa sl sv tx tr ss ty 2 (by first | assumption | omega | exact ⟨by omega, by omega⟩)) hP hD hS hA sf_X7_refuses tw910 7 rfl rfl ⟨Nat.le_of_ble_eq_true rfl, Nat.le_of_ble_eq_true rfl⟩ hl rfl (Nat.le_of_ble_eq_true rfl) dX7_addWalker_71 ⟨Nat.zero_le _, Nat.zero_le _⟩ [0] [1, 2] [2, 0, 1] rfl rfl (by decide) (by decide) (by decide) rfl rfl (by decide) (fun H locs hP hD hS => ?_)
            have hP : va_P D vwCl [(mo, .inr (7, [vI 2, .ref no, .ref th, .ref pa, vI ss, .ref sl, .ref sv, .ref tx, vI ty])), (no, .inl (cy 1, 118, .inl (iA a))), (pa, .inl (cy 1, 1652, .inl (iA ap)))] H := hP
            have hD : va_D _ [(mo, .inr (7, [vI 2, .ref no, .ref th, .ref pa, vI ss, .ref sl, .ref sv, .ref tx, vI ty])), (no, .inl (cy 1, 118, .inl (iA a))), (pa, .inl (cy 1, 1652, .inl (iA ap)))] := hD
            refine rr_ifP_eq F (tgt := 79) dX7_addWalker_74 (by decide) (fun c_74 => ?_) (fun c_74 => ?_)
            · exfalso; omega
            · refine rr_iconst F dX7_addWalker_77 ?_
              exact rr_wiret F hr hlocks dX7_addWalker_78 hP hS (by repeat' (first | rfl | split | omega)) (rfl)
        · refine rr_iconst F dX7_addWalker_42 ?_
          refine lv_goto (tgt := 71) F.1 F.2.1 dX7_addWalker_43 (by decide) ?_
          refine rr_wrV (rest := []) (wr := [(no, .inl (cy 1, 118, .inl (iA a))), (pa, .inl (cy 1, 1652, .inl (iA ap)))]) (ws2 := [(mo, .inr (7, [vI 1, .ref no, .ref th, .ref pa, vI ss, .ref sl, .ref sv, .ref tx, vI ty])), (no, .inl (cy 1, 118, .inl (iA a))), (pa, .inl (cy 1, 1652, .inl (iA ap)))]) F hK (c_X7_refuses l D cy mo no th pa sl sv tx tr ss ty 1 (by first | assumption | omega | exact ⟨by omega, by omega⟩)) hP hD hS hA sf_X7_refuses tw910 7 rfl rfl ⟨Nat.le_of_ble_eq_true rfl, Nat.le_of_ble_eq_true rfl⟩ hl rfl (Nat.le_of_ble_eq_true rfl) dX7_addWalker_71 ⟨Nat.zero_le _, Nat.zero_le _⟩ [0] [1, 2] [2, 0, 1] rfl rfl (by decide) (by decide) (by decide) rfl rfl (by decide) (fun H locs hP hD hS => ?_)
          have hP : va_P D vwCl [(mo, .inr (7, [vI 1, .ref no, .ref th, .ref pa, vI ss, .ref sl, .ref sv, .ref tx, vI ty])), (no, .inl (cy 1, 118, .inl (iA a))), (pa, .inl (cy 1, 1652, .inl (iA ap)))] H := hP
          have hD : va_D _ [(mo, .inr (7, [vI 1, .ref no, .ref th, .ref pa, vI ss, .ref sl, .ref sv, .ref tx, vI ty])), (no, .inl (cy 1, 118, .inl (iA a))), (pa, .inl (cy 1, 1652, .inl (iA ap)))] := hD
          refine rr_ifP_eq F (tgt := 79) dX7_addWalker_74 (by decide) (fun c_74 => ?_) (fun c_74 => ?_)
          · exfalso; omega
          · refine rr_iconst F dX7_addWalker_77 ?_
            exact rr_wiret F hr hlocks dX7_addWalker_78 hP hS (by repeat' (first | rfl | split | omega)) (rfl)
    · refine rr_iconst F dX7_addWalker_19 ?_
      refine lv_goto (tgt := 24) F.1 F.2.1 dX7_addWalker_20 (by decide) ?_
      refine lv_istore (lv' := [(5, vI 1), (0, .ref mo), (1, vI i), (2, vI d), (3, vI pa0), (4, vI si)]) F.1 F.2.1 dX7_addWalker_24 hl (by decide) rfl (fun ls hl => ?_)
      refine lv_aload_n F.1 F.2.1 dX7_addWalker_26 rfl (lv_at hl 1 rfl) ?_
      refine lv_aload_n F.1 F.2.1 dX7_addWalker_27 rfl (lv_at hl 1 rfl) ?_
      refine lv_iload_n F.1 F.2.1 dX7_addWalker_28 rfl (lv_at hl 2 rfl) ?_
      refine rr_rdV (rest := [.ref mo]) F hK (c_X7_isPlace l D cy mo no th pa sl sv tx tr ss ty a i (by first | assumption | omega | exact ⟨by omega, by omega⟩) (by first | assumption | omega | exact ⟨by omega, by omega⟩)) (hP.sub [0, 1] rfl) sf_X7_isPlace tw985 7 rfl rfl ⟨Nat.le_of_ble_eq_true rfl, Nat.le_of_ble_eq_true rfl⟩ hl rfl (Nat.le_of_ble_eq_true rfl) dX7_addWalker_29 ⟨Nat.zero_le _, Nat.zero_le _⟩ ?_
      refine rr_ifP_eq F (tgt := 42) dX7_addWalker_32 (by decide) (fun c_32 => ?_) (fun c_32 => ?_)
      · refine rr_iconst F dX7_addWalker_42 ?_
        refine lv_goto (tgt := 71) F.1 F.2.1 dX7_addWalker_43 (by decide) ?_
        refine rr_wrV (rest := []) (wr := [(no, .inl (cy 1, 118, .inl (iA a))), (pa, .inl (cy 1, 1652, .inl (iA ap)))]) (ws2 := [(mo, .inr (7, [vI 1, .ref no, .ref th, .ref pa, vI ss, .ref sl, .ref sv, .ref tx, vI ty])), (no, .inl (cy 1, 118, .inl (iA a))), (pa, .inl (cy 1, 1652, .inl (iA ap)))]) F hK (c_X7_refuses l D cy mo no th pa sl sv tx tr ss ty 1 (by first | assumption | omega | exact ⟨by omega, by omega⟩)) hP hD hS hA sf_X7_refuses tw910 7 rfl rfl ⟨Nat.le_of_ble_eq_true rfl, Nat.le_of_ble_eq_true rfl⟩ hl rfl (Nat.le_of_ble_eq_true rfl) dX7_addWalker_71 ⟨Nat.zero_le _, Nat.zero_le _⟩ [0] [1, 2] [2, 0, 1] rfl rfl (by decide) (by decide) (by decide) rfl rfl (by decide) (fun H locs hP hD hS => ?_)
        have hP : va_P D vwCl [(mo, .inr (7, [vI 1, .ref no, .ref th, .ref pa, vI ss, .ref sl, .ref sv, .ref tx, vI ty])), (no, .inl (cy 1, 118, .inl (iA a))), (pa, .inl (cy 1, 1652, .inl (iA ap)))] H := hP
        have hD : va_D _ [(mo, .inr (7, [vI 1, .ref no, .ref th, .ref pa, vI ss, .ref sl, .ref sv, .ref tx, vI ty])), (no, .inl (cy 1, 118, .inl (iA a))), (pa, .inl (cy 1, 1652, .inl (iA ap)))] := hD
        refine rr_ifP_eq F (tgt := 79) dX7_addWalker_74 (by decide) (fun c_74 => ?_) (fun c_74 => ?_)
        · exfalso; omega
        · refine rr_iconst F dX7_addWalker_77 ?_
          exact rr_wiret F hr hlocks dX7_addWalker_78 hP hS (by repeat' (first | rfl | split | omega)) (rfl)
      · refine lv_iload_n F.1 F.2.1 dX7_addWalker_35 rfl (lv_at hl 3 rfl) ?_
        refine rr_rdS (rest := [.ref mo]) F hK (c_X7_isWay l D cy d (by first | assumption | omega | exact ⟨by omega, by omega⟩)) (hP.sub [] rfl) sf_X7_isWay tw1004 ⟨Nat.le_of_ble_eq_true rfl, Nat.le_of_ble_eq_true rfl⟩ hl rfl (Nat.le_of_ble_eq_true rfl) dX7_addWalker_36 ⟨Nat.zero_le _, Nat.zero_le _⟩ ?_
        refine rr_ifP_ne F (tgt := 46) dX7_addWalker_39 (by decide) (fun c_39 => ?_) (fun c_39 => ?_)
        · refine lv_iload F.1 F.2.1 dX7_addWalker_46 (lv_at hl 0 rfl) ?_
          refine rr_if_ne F (tgt := 55) dX7_addWalker_48 (by decide) ⟨by omega, by omega⟩ (fun c_48 => ?_) (fun c_48 => ?_)
          · refine lv_aload_n F.1 F.2.1 dX7_addWalker_55 rfl (lv_at hl 1 rfl) ?_
            refine gf7_1 F hK hP 0 rfl tw875 dX7_addWalker_56 ?_
            refine rr_bipush F dX7_addWalker_59 (by decide) ?_
            refine rr_iald F hK hP 1 rfl (by omega) (by omega) (by decide) dX7_addWalker_61 ?_
            refine rr_iconst F dX7_addWalker_62 ?_
            refine rr_icmp_ne F (tgt := 70) dX7_addWalker_63 (by decide) ⟨by omega, by omega⟩ ⟨by omega, by omega⟩ (fun c_63 => ?_) (fun c_63 => ?_)
            · refine rr_iconst F dX7_addWalker_70 ?_
              refine rr_wrV (rest := []) (wr := [(no, .inl (cy 1, 118, .inl (iA a))), (pa, .inl (cy 1, 1652, .inl (iA ap)))]) (ws2 := [(mo, .inr (7, [vI 0, .ref no, .ref th, .ref pa, vI ss, .ref sl, .ref sv, .ref tx, vI ty])), (no, .inl (cy 1, 118, .inl (iA a))), (pa, .inl (cy 1, 1652, .inl (iA ap)))]) F hK (c_X7_refuses l D cy mo no th pa sl sv tx tr ss ty 0 (by first | assumption | omega | exact ⟨by omega, by omega⟩)) hP hD hS hA sf_X7_refuses tw910 7 rfl rfl ⟨Nat.le_of_ble_eq_true rfl, Nat.le_of_ble_eq_true rfl⟩ hl rfl (Nat.le_of_ble_eq_true rfl) dX7_addWalker_71 ⟨Nat.zero_le _, Nat.zero_le _⟩ [0] [1, 2] [2, 0, 1] rfl rfl (by decide) (by decide) (by decide) rfl rfl (by decide) (fun H locs hP hD hS => ?_)
              have hP : va_P D vwCl [(mo, .inr (7, [vI 0, .ref no, .ref th, .ref pa, vI ss, .ref sl, .ref sv, .ref tx, vI ty])), (no, .inl (cy 1, 118, .inl (iA a))), (pa, .inl (cy 1, 1652, .inl (iA ap)))] H := hP
              have hD : va_D _ [(mo, .inr (7, [vI 0, .ref no, .ref th, .ref pa, vI ss, .ref sl, .ref sv, .ref tx, vI ty])), (no, .inl (cy 1, 118, .inl (iA a))), (pa, .inl (cy 1, 1652, .inl (iA ap)))] := hD
              refine rr_ifP_eq F (tgt := 79) dX7_addWalker_74 (by decide) (fun c_74 => ?_) (fun c_74 => ?_)
              · exfalso; omega
              · exfalso; omega
            · refine rr_iconst F dX7_addWalker_66 ?_
              refine lv_goto (tgt := 71) F.1 F.2.1 dX7_addWalker_67 (by decide) ?_
              refine rr_wrV (rest := []) (wr := [(no, .inl (cy 1, 118, .inl (iA a))), (pa, .inl (cy 1, 1652, .inl (iA ap)))]) (ws2 := [(mo, .inr (7, [vI 3, .ref no, .ref th, .ref pa, vI ss, .ref sl, .ref sv, .ref tx, vI ty])), (no, .inl (cy 1, 118, .inl (iA a))), (pa, .inl (cy 1, 1652, .inl (iA ap)))]) F hK (c_X7_refuses l D cy mo no th pa sl sv tx tr ss ty 3 (by first | assumption | omega | exact ⟨by omega, by omega⟩)) hP hD hS hA sf_X7_refuses tw910 7 rfl rfl ⟨Nat.le_of_ble_eq_true rfl, Nat.le_of_ble_eq_true rfl⟩ hl rfl (Nat.le_of_ble_eq_true rfl) dX7_addWalker_71 ⟨Nat.zero_le _, Nat.zero_le _⟩ [0] [1, 2] [2, 0, 1] rfl rfl (by decide) (by decide) (by decide) rfl rfl (by decide) (fun H locs hP hD hS => ?_)
              have hP : va_P D vwCl [(mo, .inr (7, [vI 3, .ref no, .ref th, .ref pa, vI ss, .ref sl, .ref sv, .ref tx, vI ty])), (no, .inl (cy 1, 118, .inl (iA a))), (pa, .inl (cy 1, 1652, .inl (iA ap)))] H := hP
              have hD : va_D _ [(mo, .inr (7, [vI 3, .ref no, .ref th, .ref pa, vI ss, .ref sl, .ref sv, .ref tx, vI ty])), (no, .inl (cy 1, 118, .inl (iA a))), (pa, .inl (cy 1, 1652, .inl (iA ap)))] := hD
              refine rr_ifP_eq F (tgt := 79) dX7_addWalker_74 (by decide) (fun c_74 => ?_) (fun c_74 => ?_)
              · exfalso; omega
              · refine rr_iconst F dX7_addWalker_77 ?_
                exact rr_wiret F hr hlocks dX7_addWalker_78 hP hS (by repeat' (first | rfl | split | omega)) (rfl)
          · exfalso; omega
        · refine rr_iconst F dX7_addWalker_42 ?_
          refine lv_goto (tgt := 71) F.1 F.2.1 dX7_addWalker_43 (by decide) ?_
          refine rr_wrV (rest := []) (wr := [(no, .inl (cy 1, 118, .inl (iA a))), (pa, .inl (cy 1, 1652, .inl (iA ap)))]) (ws2 := [(mo, .inr (7, [vI 1, .ref no, .ref th, .ref pa, vI ss, .ref sl, .ref sv, .ref tx, vI ty])), (no, .inl (cy 1, 118, .inl (iA a))), (pa, .inl (cy 1, 1652, .inl (iA ap)))]) F hK (c_X7_refuses l D cy mo no th pa sl sv tx tr ss ty 1 (by first | assumption | omega | exact ⟨by omega, by omega⟩)) hP hD hS hA sf_X7_refuses tw910 7 rfl rfl ⟨Nat.le_of_ble_eq_true rfl, Nat.le_of_ble_eq_true rfl⟩ hl rfl (Nat.le_of_ble_eq_true rfl) dX7_addWalker_71 ⟨Nat.zero_le _, Nat.zero_le _⟩ [0] [1, 2] [2, 0, 1] rfl rfl (by decide) (by decide) (by decide) rfl rfl (by decide) (fun H locs hP hD hS => ?_)
          have hP : va_P D vwCl [(mo, .inr (7, [vI 1, .ref no, .ref th, .ref pa, vI ss, .ref sl, .ref sv, .ref tx, vI ty])), (no, .inl (cy 1, 118, .inl (iA a))), (pa, .inl (cy 1, 1652, .inl (iA ap)))] H := hP
          have hD : va_D _ [(mo, .inr (7, [vI 1, .ref no, .ref th, .ref pa, vI ss, .ref sl, .ref sv, .ref tx, vI ty])), (no, .inl (cy 1, 118, .inl (iA a))), (pa, .inl (cy 1, 1652, .inl (iA ap)))] := hD
          refine rr_ifP_eq F (tgt := 79) dX7_addWalker_74 (by decide) (fun c_74 => ?_) (fun c_74 => ?_)
          · exfalso; omega
          · refine rr_iconst F dX7_addWalker_77 ?_
            exact rr_wiret F hr hlocks dX7_addWalker_78 hP hS (by repeat' (first | rfl | split | omega)) (rfl)
set_option maxRecDepth 100000 in
set_option maxHeartbeats 4000000 in
theorem c_X7_turn (l : Launch) (D : va_G) (cy : Nat → ClassId) (mo no th pa sl sv tx : Nat) (tr ss ty : Int) (a ap : Int → Int) (w : Int) (hM : MR a) (hs : 0 ≤ ss ∧ ss ≤ 14) (hw : inR w) (h1 : 0 ≤ w ∧ w < a 96) : Wr l yX7_turn cX7_turn 2 (some FieldType.int) 3 [.ref mo, vI w] D cy [(mo, .inr (7, [vI tr, .ref no, .ref th, .ref pa, vI ss, .ref sl, .ref sv, .ref tx, vI ty])), (no, .inl (cy 1, 118, .inl (iA a))), (pa, .inl (cy 1, 1652, .inl (iA ap)))] [(mo, .inr (7, [vI 0, .ref no, .ref th, .ref pa, vI (remN ss), .ref sl, .ref sv, .ref tx, vI ty])), (no, .inl (cy 1, 118, .inl (iA (turR a w)))), (pa, .inl (cy 1, 1652, .inl (iA (remA a ap ss))))] (some (vI (cnt (bit (bor (a (97 + 5 * w + 4)) (vw (a 0) (a (97 + 5 * w + 0)) (1 - a (97 + 5 * w + 1)) (a (97 + 5 * w + 3))))) 24))) := by
  refine Wr.of RX7 rfl [(0, .ref mo), (1, vI w)] rfl (by decide +kernel) (Nat.le_of_ble_eq_true rfl) ?_
  intro p e s m args below meth c F hr hlocks hK hP hD hS hA ls hl
  have hn0 := hM.n
  have hw0 := hM.nw
  have hc0 := hM.wc
  refine lv_aload_n F.1 F.2.1 dX7_turn_0 rfl (lv_at hl 0 rfl) ?_
  refine lv_aload_n F.1 F.2.1 dX7_turn_1 rfl (lv_at hl 0 rfl) ?_
  refine lv_iload_n F.1 F.2.1 dX7_turn_2 rfl (lv_at hl 1 rfl) ?_
  refine rr_rdV (rest := [.ref mo]) F hK (c_X7_isWalker l D cy mo no th pa sl sv tx tr ss ty a w (by first | assumption | omega | exact ⟨by omega, by omega⟩) (by first | assumption | omega | exact ⟨by omega, by omega⟩)) (hP.sub [0, 1] rfl) sf_X7_isWalker tw1068 7 rfl rfl ⟨Nat.le_of_ble_eq_true rfl, Nat.le_of_ble_eq_true rfl⟩ hl rfl (Nat.le_of_ble_eq_true rfl) dX7_turn_3 ⟨Nat.zero_le _, Nat.zero_le _⟩ ?_
  refine rr_ifP_eq F (tgt := 13) dX7_turn_6 (by decide) (fun c_6 => ?_) (fun c_6 => ?_)
  · refine rr_iconst F dX7_turn_13 ?_
    refine rr_wrV (rest := []) (wr := [(no, .inl (cy 1, 118, .inl (iA a))), (pa, .inl (cy 1, 1652, .inl (iA ap)))]) (ws2 := [(mo, .inr (7, [vI 1, .ref no, .ref th, .ref pa, vI ss, .ref sl, .ref sv, .ref tx, vI ty])), (no, .inl (cy 1, 118, .inl (iA a))), (pa, .inl (cy 1, 1652, .inl (iA ap)))]) F hK (c_X7_refuses l D cy mo no th pa sl sv tx tr ss ty 1 (by first | assumption | omega | exact ⟨by omega, by omega⟩)) hP hD hS hA sf_X7_refuses tw910 7 rfl rfl ⟨Nat.le_of_ble_eq_true rfl, Nat.le_of_ble_eq_true rfl⟩ hl rfl (Nat.le_of_ble_eq_true rfl) dX7_turn_14 ⟨Nat.zero_le _, Nat.zero_le _⟩ [0] [1, 2] [2, 0, 1] rfl rfl (by decide) (by decide) (by decide) rfl rfl (by decide) (fun H locs hP hD hS => ?_)
    have hP : va_P D vwCl [(mo, .inr (7, [vI 1, .ref no, .ref th, .ref pa, vI ss, .ref sl, .ref sv, .ref tx, vI ty])), (no, .inl (cy 1, 118, .inl (iA a))), (pa, .inl (cy 1, 1652, .inl (iA ap)))] H := hP
    have hD : va_D _ [(mo, .inr (7, [vI 1, .ref no, .ref th, .ref pa, vI ss, .ref sl, .ref sv, .ref tx, vI ty])), (no, .inl (cy 1, 118, .inl (iA a))), (pa, .inl (cy 1, 1652, .inl (iA ap)))] := hD
    refine rr_ifP_eq F (tgt := 22) dX7_turn_17 (by decide) (fun c_17 => ?_) (fun c_17 => ?_)
    · exfalso; omega
    · exfalso; omega
  · refine rr_iconst F dX7_turn_9 ?_
    refine lv_goto (tgt := 14) F.1 F.2.1 dX7_turn_10 (by decide) ?_
    refine rr_wrV (rest := []) (wr := [(no, .inl (cy 1, 118, .inl (iA a))), (pa, .inl (cy 1, 1652, .inl (iA ap)))]) (ws2 := [(mo, .inr (7, [vI 0, .ref no, .ref th, .ref pa, vI ss, .ref sl, .ref sv, .ref tx, vI ty])), (no, .inl (cy 1, 118, .inl (iA a))), (pa, .inl (cy 1, 1652, .inl (iA ap)))]) F hK (c_X7_refuses l D cy mo no th pa sl sv tx tr ss ty 0 (by first | assumption | omega | exact ⟨by omega, by omega⟩)) hP hD hS hA sf_X7_refuses tw910 7 rfl rfl ⟨Nat.le_of_ble_eq_true rfl, Nat.le_of_ble_eq_true rfl⟩ hl rfl (Nat.le_of_ble_eq_true rfl) dX7_turn_14 ⟨Nat.zero_le _, Nat.zero_le _⟩ [0] [1, 2] [2, 0, 1] rfl rfl (by decide) (by decide) (by decide) rfl rfl (by decide) (fun H locs hP hD hS => ?_)
    have hP : va_P D vwCl [(mo, .inr (7, [vI 0, .ref no, .ref th, .ref pa, vI ss, .ref sl, .ref sv, .ref tx, vI ty])), (no, .inl (cy 1, 118, .inl (iA a))), (pa, .inl (cy 1, 1652, .inl (iA ap)))] H := hP
    have hD : va_D _ [(mo, .inr (7, [vI 0, .ref no, .ref th, .ref pa, vI ss, .ref sl, .ref sv, .ref tx, vI ty])), (no, .inl (cy 1, 118, .inl (iA a))), (pa, .inl (cy 1, 1652, .inl (iA ap)))] := hD
    refine rr_ifP_eq F (tgt := 22) dX7_turn_17 (by decide) (fun c_17 => ?_) (fun c_17 => ?_)
    · refine lv_aload_n F.1 F.2.1 dX7_turn_22 rfl (lv_at hl 0 rfl) ?_
      refine rr_wrV (rest := []) (wr := []) (ws2 := [(mo, .inr (7, [vI 0, .ref no, .ref th, .ref pa, vI (remN ss), .ref sl, .ref sv, .ref tx, vI ty])), (no, .inl (cy 1, 118, .inl (iA a))), (pa, .inl (cy 1, 1652, .inl (iA (remA a ap ss))))]) F hK (c_X7_remembers l D cy mo no th pa sl sv tx 0 ss ty a ap (by first | assumption | omega | exact ⟨by omega, by omega⟩)) hP hD hS hA sf_X7_remembers tw1092 7 rfl rfl ⟨Nat.le_of_ble_eq_true rfl, Nat.le_of_ble_eq_true rfl⟩ hl rfl (Nat.le_of_ble_eq_true rfl) dX7_turn_23 ⟨Nat.zero_le _, Nat.zero_le _⟩ [0, 1, 2] [] [0, 1, 2] rfl rfl (by decide) (by decide) (by decide) rfl rfl (by decide) (fun H locs hP hD hS => ?_)
      have hP : va_P D vwCl [(mo, .inr (7, [vI 0, .ref no, .ref th, .ref pa, vI (remN ss), .ref sl, .ref sv, .ref tx, vI ty])), (no, .inl (cy 1, 118, .inl (iA a))), (pa, .inl (cy 1, 1652, .inl (iA (remA a ap ss))))] H := hP
      have hD : va_D _ [(mo, .inr (7, [vI 0, .ref no, .ref th, .ref pa, vI (remN ss), .ref sl, .ref sv, .ref tx, vI ty])), (no, .inl (cy 1, 118, .inl (iA a))), (pa, .inl (cy 1, 1652, .inl (iA (remA a ap ss))))] := hD
      refine lv_aload_n F.1 F.2.1 dX7_turn_26 rfl (lv_at hl 0 rfl) ?_
      refine gf7_1 F hK hP 0 rfl tw875 dX7_turn_27 ?_
      refine lv_iload_n F.1 F.2.1 dX7_turn_30 rfl (lv_at hl 1 rfl) ?_
      refine rr_wrS (rest := []) (wr := [(mo, .inr (7, [vI 0, .ref no, .ref th, .ref pa, vI (remN ss), .ref sl, .ref sv, .ref tx, vI ty])), (pa, .inl (cy 1, 1652, .inl (iA (remA a ap ss))))]) (ws2 := [(mo, .inr (7, [vI 0, .ref no, .ref th, .ref pa, vI (remN ss), .ref sl, .ref sv, .ref tx, vI ty])), (no, .inl (cy 1, 118, .inl (iA (updZ (updZ a (97 + 5 * w + 1) (1 - a (97 + 5 * w + 1))) (97 + 5 * w + 4) (bor (a (97 + 5 * w + 4)) (vw (a 0) (a (97 + 5 * w + 0)) (1 - a (97 + 5 * w + 1)) (a (97 + 5 * w + 3)))))))), (pa, .inl (cy 1, 1652, .inl (iA (remA a ap ss))))]) F hK (c_X7_turns l D cy no a w (by first | assumption | omega | exact ⟨by omega, by omega⟩) (by first | assumption | omega | exact ⟨by omega, by omega⟩) (hM.w (by omega) (by omega))) hP hD hS hA sf_X7_turns tw1156 ⟨Nat.le_of_ble_eq_true rfl, Nat.le_of_ble_eq_true rfl⟩ hl rfl (Nat.le_of_ble_eq_true rfl) dX7_turn_31 ⟨Nat.zero_le _, Nat.zero_le _⟩ [1] [0, 2] [0, 2, 1] rfl rfl (by decide) (by decide) (by decide) rfl rfl (by decide) (fun H locs hP hD hS => ?_)
      have hP : va_P D vwCl [(mo, .inr (7, [vI 0, .ref no, .ref th, .ref pa, vI (remN ss), .ref sl, .ref sv, .ref tx, vI ty])), (no, .inl (cy 1, 118, .inl (iA (updZ (updZ a (97 + 5 * w + 1) (1 - a (97 + 5 * w + 1))) (97 + 5 * w + 4) (bor (a (97 + 5 * w + 4)) (vw (a 0) (a (97 + 5 * w + 0)) (1 - a (97 + 5 * w + 1)) (a (97 + 5 * w + 3)))))))), (pa, .inl (cy 1, 1652, .inl (iA (remA a ap ss))))] H := hP
      have hD : va_D _ [(mo, .inr (7, [vI 0, .ref no, .ref th, .ref pa, vI (remN ss), .ref sl, .ref sv, .ref tx, vI ty])), (no, .inl (cy 1, 118, .inl (iA (updZ (updZ a (97 + 5 * w + 1) (1 - a (97 + 5 * w + 1))) (97 + 5 * w + 4) (bor (a (97 + 5 * w + 4)) (vw (a 0) (a (97 + 5 * w + 0)) (1 - a (97 + 5 * w + 1)) (a (97 + 5 * w + 3)))))))), (pa, .inl (cy 1, 1652, .inl (iA (remA a ap ss))))] := hD
      exact rr_wiret F hr hlocks dX7_turn_34 hP hS (rfl) (by first | rfl | omega)
    · exfalso; omega
set_option maxRecDepth 100000 in
set_option maxHeartbeats 4000000 in
theorem n_X7_turn (l : Launch) (D : va_G) (cy : Nat → ClassId) (mo no th pa sl sv tx : Nat) (tr ss ty : Int) (a ap : Int → Int) (w : Int) (hM : MR a) (hs : 0 ≤ ss ∧ ss ≤ 14) (hw : inR w) (hbad : ¬ (0 ≤ w ∧ w < a 96)) : Wr l yX7_turn cX7_turn 2 (some FieldType.int) 2 [.ref mo, vI w] D cy [(mo, .inr (7, [vI tr, .ref no, .ref th, .ref pa, vI ss, .ref sl, .ref sv, .ref tx, vI ty])), (no, .inl (cy 1, 118, .inl (iA a))), (pa, .inl (cy 1, 1652, .inl (iA ap)))] [(mo, .inr (7, [vI 1, .ref no, .ref th, .ref pa, vI ss, .ref sl, .ref sv, .ref tx, vI ty])), (no, .inl (cy 1, 118, .inl (iA a))), (pa, .inl (cy 1, 1652, .inl (iA ap)))] (some (vI 0)) := by
  refine Wr.of RX7 rfl [(0, .ref mo), (1, vI w)] rfl (by decide +kernel) (Nat.le_of_ble_eq_true rfl) ?_
  intro p e s m args below meth c F hr hlocks hK hP hD hS hA ls hl
  have hn0 := hM.n
  have hw0 := hM.nw
  have hc0 := hM.wc
  refine lv_aload_n F.1 F.2.1 dX7_turn_0 rfl (lv_at hl 0 rfl) ?_
  refine lv_aload_n F.1 F.2.1 dX7_turn_1 rfl (lv_at hl 0 rfl) ?_
  refine lv_iload_n F.1 F.2.1 dX7_turn_2 rfl (lv_at hl 1 rfl) ?_
  refine rr_rdV (rest := [.ref mo]) F hK (c_X7_isWalker l D cy mo no th pa sl sv tx tr ss ty a w (by first | assumption | omega | exact ⟨by omega, by omega⟩) (by first | assumption | omega | exact ⟨by omega, by omega⟩)) (hP.sub [0, 1] rfl) sf_X7_isWalker tw1068 7 rfl rfl ⟨Nat.le_of_ble_eq_true rfl, Nat.le_of_ble_eq_true rfl⟩ hl rfl (Nat.le_of_ble_eq_true rfl) dX7_turn_3 ⟨Nat.zero_le _, Nat.zero_le _⟩ ?_
  refine rr_ifP_eq F (tgt := 13) dX7_turn_6 (by decide) (fun c_6 => ?_) (fun c_6 => ?_)
  · refine rr_iconst F dX7_turn_13 ?_
    refine rr_wrV (rest := []) (wr := [(no, .inl (cy 1, 118, .inl (iA a))), (pa, .inl (cy 1, 1652, .inl (iA ap)))]) (ws2 := [(mo, .inr (7, [vI 1, .ref no, .ref th, .ref pa, vI ss, .ref sl, .ref sv, .ref tx, vI ty])), (no, .inl (cy 1, 118, .inl (iA a))), (pa, .inl (cy 1, 1652, .inl (iA ap)))]) F hK (c_X7_refuses l D cy mo no th pa sl sv tx tr ss ty 1 (by first | assumption | omega | exact ⟨by omega, by omega⟩)) hP hD hS hA sf_X7_refuses tw910 7 rfl rfl ⟨Nat.le_of_ble_eq_true rfl, Nat.le_of_ble_eq_true rfl⟩ hl rfl (Nat.le_of_ble_eq_true rfl) dX7_turn_14 ⟨Nat.zero_le _, Nat.zero_le _⟩ [0] [1, 2] [2, 0, 1] rfl rfl (by decide) (by decide) (by decide) rfl rfl (by decide) (fun H locs hP hD hS => ?_)
    have hP : va_P D vwCl [(mo, .inr (7, [vI 1, .ref no, .ref th, .ref pa, vI ss, .ref sl, .ref sv, .ref tx, vI ty])), (no, .inl (cy 1, 118, .inl (iA a))), (pa, .inl (cy 1, 1652, .inl (iA ap)))] H := hP
    have hD : va_D _ [(mo, .inr (7, [vI 1, .ref no, .ref th, .ref pa, vI ss, .ref sl, .ref sv, .ref tx, vI ty])), (no, .inl (cy 1, 118, .inl (iA a))), (pa, .inl (cy 1, 1652, .inl (iA ap)))] := hD
    refine rr_ifP_eq F (tgt := 22) dX7_turn_17 (by decide) (fun c_17 => ?_) (fun c_17 => ?_)
    · exfalso; omega
    · refine rr_iconst F dX7_turn_20 ?_
      exact rr_wiret F hr hlocks dX7_turn_21 hP hS (by repeat' (first | rfl | split | omega)) (rfl)
  · refine rr_iconst F dX7_turn_9 ?_
    refine lv_goto (tgt := 14) F.1 F.2.1 dX7_turn_10 (by decide) ?_
    refine rr_wrV (rest := []) (wr := [(no, .inl (cy 1, 118, .inl (iA a))), (pa, .inl (cy 1, 1652, .inl (iA ap)))]) (ws2 := [(mo, .inr (7, [vI 0, .ref no, .ref th, .ref pa, vI ss, .ref sl, .ref sv, .ref tx, vI ty])), (no, .inl (cy 1, 118, .inl (iA a))), (pa, .inl (cy 1, 1652, .inl (iA ap)))]) F hK (c_X7_refuses l D cy mo no th pa sl sv tx tr ss ty 0 (by first | assumption | omega | exact ⟨by omega, by omega⟩)) hP hD hS hA sf_X7_refuses tw910 7 rfl rfl ⟨Nat.le_of_ble_eq_true rfl, Nat.le_of_ble_eq_true rfl⟩ hl rfl (Nat.le_of_ble_eq_true rfl) dX7_turn_14 ⟨Nat.zero_le _, Nat.zero_le _⟩ [0] [1, 2] [2, 0, 1] rfl rfl (by decide) (by decide) (by decide) rfl rfl (by decide) (fun H locs hP hD hS => ?_)
    have hP : va_P D vwCl [(mo, .inr (7, [vI 0, .ref no, .ref th, .ref pa, vI ss, .ref sl, .ref sv, .ref tx, vI ty])), (no, .inl (cy 1, 118, .inl (iA a))), (pa, .inl (cy 1, 1652, .inl (iA ap)))] H := hP
    have hD : va_D _ [(mo, .inr (7, [vI 0, .ref no, .ref th, .ref pa, vI ss, .ref sl, .ref sv, .ref tx, vI ty])), (no, .inl (cy 1, 118, .inl (iA a))), (pa, .inl (cy 1, 1652, .inl (iA ap)))] := hD
    refine rr_ifP_eq F (tgt := 22) dX7_turn_17 (by decide) (fun c_17 => ?_) (fun c_17 => ?_)
    · exfalso; omega
    · exfalso; omega
set_option maxRecDepth 100000 in
set_option maxHeartbeats 4000000 in
theorem c_X7_go (l : Launch) (D : va_G) (cy : Nat → ClassId) (mo no th pa sl sv tx : Nat) (tr ss ty : Int) (a ap : Int → Int) (t : Int) (hM : MR a) (hs : 0 ≤ ss ∧ ss ≤ 14) (ht : inR t) (hsp : 0 ≤ a 117 ∧ a 117 ≤ 100000000) (h1 : 1 ≤ t ∧ t ≤ 50) : Wr l yX7_go cX7_go 2 (some FieldType.int) 7 [.ref mo, vI t] D cy [(mo, .inr (7, [vI tr, .ref no, .ref th, .ref pa, vI ss, .ref sl, .ref sv, .ref tx, vI ty])), (no, .inl (cy 1, 118, .inl (iA a))), (pa, .inl (cy 1, 1652, .inl (iA ap)))] [(mo, .inr (7, [vI 0, .ref no, .ref th, .ref pa, vI (remN ss), .ref sl, .ref sv, .ref tx, vI ty])), (no, .inl (cy 1, 118, .inl (iA (goT a t)))), (pa, .inl (cy 1, 1652, .inl (iA (remA a ap ss))))] (some (vI (sm (fun w => knb (a 0) (rq a) (a 25) (rbl a) (rbc a) (a (97 + 5 * w + 1)) (goR a 0 t (97 + 5 * w + 4)) 0) (a 96)))) := by
  refine Wr.of RX7 rfl [(0, .ref mo), (1, vI t)] rfl (by decide +kernel) (Nat.le_of_ble_eq_true rfl) ?_
  intro p e s m args below meth c F hr hlocks hK hP hD hS hA ls hl
  have hn0 := hM.n
  have hw0 := hM.nw
  have hc0 := hM.wc
  refine lv_aload_n F.1 F.2.1 dX7_go_0 rfl (lv_at hl 0 rfl) ?_
  refine lv_iload_n F.1 F.2.1 dX7_go_1 rfl (lv_at hl 1 rfl) ?_
  refine rr_iconst F dX7_go_2 ?_
  refine rr_bipush F dX7_go_3 (by decide) ?_
  refine rr_rdS (rest := [.ref mo]) F hK (c_X7_in l D cy t 1 50 (by first | assumption | omega | exact ⟨by omega, by omega⟩) (by first | assumption | omega | exact ⟨by omega, by omega⟩) (by first | assumption | omega | exact ⟨by omega, by omega⟩)) (hP.sub [] rfl) sf_X7_in tw921 ⟨Nat.le_of_ble_eq_true rfl, Nat.le_of_ble_eq_true rfl⟩ hl rfl (Nat.le_of_ble_eq_true rfl) dX7_go_5 ⟨Nat.zero_le _, Nat.zero_le _⟩ ?_
  refine rr_ifP_eq F (tgt := 15) dX7_go_8 (by decide) (fun c_8 => ?_) (fun c_8 => ?_)
  · refine rr_iconst F dX7_go_15 ?_
    refine rr_wrV (rest := []) (wr := [(no, .inl (cy 1, 118, .inl (iA a))), (pa, .inl (cy 1, 1652, .inl (iA ap)))]) (ws2 := [(mo, .inr (7, [vI 1, .ref no, .ref th, .ref pa, vI ss, .ref sl, .ref sv, .ref tx, vI ty])), (no, .inl (cy 1, 118, .inl (iA a))), (pa, .inl (cy 1, 1652, .inl (iA ap)))]) F hK (c_X7_refuses l D cy mo no th pa sl sv tx tr ss ty 1 (by first | assumption | omega | exact ⟨by omega, by omega⟩)) hP hD hS hA sf_X7_refuses tw910 7 rfl rfl ⟨Nat.le_of_ble_eq_true rfl, Nat.le_of_ble_eq_true rfl⟩ hl rfl (Nat.le_of_ble_eq_true rfl) dX7_go_16 ⟨Nat.zero_le _, Nat.zero_le _⟩ [0] [1, 2] [2, 0, 1] rfl rfl (by decide) (by decide) (by decide) rfl rfl (by decide) (fun H locs hP hD hS => ?_)
    have hP : va_P D vwCl [(mo, .inr (7, [vI 1, .ref no, .ref th, .ref pa, vI ss, .ref sl, .ref sv, .ref tx, vI ty])), (no, .inl (cy 1, 118, .inl (iA a))), (pa, .inl (cy 1, 1652, .inl (iA ap)))] H := hP
    have hD : va_D _ [(mo, .inr (7, [vI 1, .ref no, .ref th, .ref pa, vI ss, .ref sl, .ref sv, .ref tx, vI ty])), (no, .inl (cy 1, 118, .inl (iA a))), (pa, .inl (cy 1, 1652, .inl (iA ap)))] := hD
    refine rr_ifP_eq F (tgt := 24) dX7_go_19 (by decide) (fun c_19 => ?_) (fun c_19 => ?_)
    · exfalso; omega
    · exfalso; omega
  · refine rr_iconst F dX7_go_11 ?_
    refine lv_goto (tgt := 16) F.1 F.2.1 dX7_go_12 (by decide) ?_
    refine rr_wrV (rest := []) (wr := [(no, .inl (cy 1, 118, .inl (iA a))), (pa, .inl (cy 1, 1652, .inl (iA ap)))]) (ws2 := [(mo, .inr (7, [vI 0, .ref no, .ref th, .ref pa, vI ss, .ref sl, .ref sv, .ref tx, vI ty])), (no, .inl (cy 1, 118, .inl (iA a))), (pa, .inl (cy 1, 1652, .inl (iA ap)))]) F hK (c_X7_refuses l D cy mo no th pa sl sv tx tr ss ty 0 (by first | assumption | omega | exact ⟨by omega, by omega⟩)) hP hD hS hA sf_X7_refuses tw910 7 rfl rfl ⟨Nat.le_of_ble_eq_true rfl, Nat.le_of_ble_eq_true rfl⟩ hl rfl (Nat.le_of_ble_eq_true rfl) dX7_go_16 ⟨Nat.zero_le _, Nat.zero_le _⟩ [0] [1, 2] [2, 0, 1] rfl rfl (by decide) (by decide) (by decide) rfl rfl (by decide) (fun H locs hP hD hS => ?_)
    have hP : va_P D vwCl [(mo, .inr (7, [vI 0, .ref no, .ref th, .ref pa, vI ss, .ref sl, .ref sv, .ref tx, vI ty])), (no, .inl (cy 1, 118, .inl (iA a))), (pa, .inl (cy 1, 1652, .inl (iA ap)))] H := hP
    have hD : va_D _ [(mo, .inr (7, [vI 0, .ref no, .ref th, .ref pa, vI ss, .ref sl, .ref sv, .ref tx, vI ty])), (no, .inl (cy 1, 118, .inl (iA a))), (pa, .inl (cy 1, 1652, .inl (iA ap)))] := hD
    refine rr_ifP_eq F (tgt := 24) dX7_go_19 (by decide) (fun c_19 => ?_) (fun c_19 => ?_)
    · refine lv_aload_n F.1 F.2.1 dX7_go_24 rfl (lv_at hl 0 rfl) ?_
      refine rr_wrV (rest := []) (wr := []) (ws2 := [(mo, .inr (7, [vI 0, .ref no, .ref th, .ref pa, vI (remN ss), .ref sl, .ref sv, .ref tx, vI ty])), (no, .inl (cy 1, 118, .inl (iA a))), (pa, .inl (cy 1, 1652, .inl (iA (remA a ap ss))))]) F hK (c_X7_remembers l D cy mo no th pa sl sv tx 0 ss ty a ap (by first | assumption | omega | exact ⟨by omega, by omega⟩)) hP hD hS hA sf_X7_remembers tw1092 7 rfl rfl ⟨Nat.le_of_ble_eq_true rfl, Nat.le_of_ble_eq_true rfl⟩ hl rfl (Nat.le_of_ble_eq_true rfl) dX7_go_25 ⟨Nat.zero_le _, Nat.zero_le _⟩ [0, 1, 2] [] [0, 1, 2] rfl rfl (by decide) (by decide) (by decide) rfl rfl (by decide) (fun H locs hP hD hS => ?_)
      have hP : va_P D vwCl [(mo, .inr (7, [vI 0, .ref no, .ref th, .ref pa, vI (remN ss), .ref sl, .ref sv, .ref tx, vI ty])), (no, .inl (cy 1, 118, .inl (iA a))), (pa, .inl (cy 1, 1652, .inl (iA (remA a ap ss))))] H := hP
      have hD : va_D _ [(mo, .inr (7, [vI 0, .ref no, .ref th, .ref pa, vI (remN ss), .ref sl, .ref sv, .ref tx, vI ty])), (no, .inl (cy 1, 118, .inl (iA a))), (pa, .inl (cy 1, 1652, .inl (iA (remA a ap ss))))] := hD
      refine lv_aload_n F.1 F.2.1 dX7_go_28 rfl (lv_at hl 0 rfl) ?_
      refine gf7_1 F hK hP 0 rfl tw875 dX7_go_29 ?_
      refine lv_iload_n F.1 F.2.1 dX7_go_32 rfl (lv_at hl 1 rfl) ?_
      refine rr_wrS (rest := []) (wr := [(mo, .inr (7, [vI 0, .ref no, .ref th, .ref pa, vI (remN ss), .ref sl, .ref sv, .ref tx, vI ty])), (pa, .inl (cy 1, 1652, .inl (iA (remA a ap ss))))]) (ws2 := [(mo, .inr (7, [vI 0, .ref no, .ref th, .ref pa, vI (remN ss), .ref sl, .ref sv, .ref tx, vI ty])), (no, .inl (cy 1, 118, .inl (iA (updZ (goR a 0 t) 117 (a 117 + t))))), (pa, .inl (cy 1, 1652, .inl (iA (remA a ap ss))))]) F hK (c_X7_goes l D cy no a t (by first | assumption | omega | exact ⟨by omega, by omega⟩) (by first | assumption | omega | exact ⟨by omega, by omega⟩) (by first | assumption | omega | exact ⟨by omega, by omega⟩)) hP hD hS hA sf_X7_goes tw1163 ⟨Nat.le_of_ble_eq_true rfl, Nat.le_of_ble_eq_true rfl⟩ hl rfl (Nat.le_of_ble_eq_true rfl) dX7_go_33 ⟨Nat.zero_le _, Nat.zero_le _⟩ [1] [0, 2] [0, 2, 1] rfl rfl (by decide) (by decide) (by decide) rfl rfl (by decide) (fun H locs hP hD hS => ?_)
      have hP : va_P D vwCl [(mo, .inr (7, [vI 0, .ref no, .ref th, .ref pa, vI (remN ss), .ref sl, .ref sv, .ref tx, vI ty])), (no, .inl (cy 1, 118, .inl (iA (updZ (goR a 0 t) 117 (a 117 + t))))), (pa, .inl (cy 1, 1652, .inl (iA (remA a ap ss))))] H := hP
      have hD : va_D _ [(mo, .inr (7, [vI 0, .ref no, .ref th, .ref pa, vI (remN ss), .ref sl, .ref sv, .ref tx, vI ty])), (no, .inl (cy 1, 118, .inl (iA (updZ (goR a 0 t) 117 (a 117 + t))))), (pa, .inl (cy 1, 1652, .inl (iA (remA a ap ss))))] := hD
      exact rr_wiret F hr hlocks dX7_go_36 hP hS (rfl) (by first | rfl | omega)
    · exfalso; omega
set_option maxRecDepth 100000 in
set_option maxHeartbeats 4000000 in
theorem n_X7_go (l : Launch) (D : va_G) (cy : Nat → ClassId) (mo no th pa sl sv tx : Nat) (tr ss ty : Int) (a ap : Int → Int) (t : Int) (hM : MR a) (hs : 0 ≤ ss ∧ ss ≤ 14) (ht : inR t) (hsp : 0 ≤ a 117 ∧ a 117 ≤ 100000000) (hbad : ¬ (1 ≤ t ∧ t ≤ 50)) : Wr l yX7_go cX7_go 2 (some FieldType.int) 1 [.ref mo, vI t] D cy [(mo, .inr (7, [vI tr, .ref no, .ref th, .ref pa, vI ss, .ref sl, .ref sv, .ref tx, vI ty])), (no, .inl (cy 1, 118, .inl (iA a))), (pa, .inl (cy 1, 1652, .inl (iA ap)))] [(mo, .inr (7, [vI 1, .ref no, .ref th, .ref pa, vI ss, .ref sl, .ref sv, .ref tx, vI ty])), (no, .inl (cy 1, 118, .inl (iA a))), (pa, .inl (cy 1, 1652, .inl (iA ap)))] (some (vI 0)) := by
  refine Wr.of RX7 rfl [(0, .ref mo), (1, vI t)] rfl (by decide +kernel) (Nat.le_of_ble_eq_true rfl) ?_
  intro p e s m args below meth c F hr hlocks hK hP hD hS hA ls hl
  have hn0 := hM.n
  have hw0 := hM.nw
  have hc0 := hM.wc
  refine lv_aload_n F.1 F.2.1 dX7_go_0 rfl (lv_at hl 0 rfl) ?_
  refine lv_iload_n F.1 F.2.1 dX7_go_1 rfl (lv_at hl 1 rfl) ?_
  refine rr_iconst F dX7_go_2 ?_
  refine rr_bipush F dX7_go_3 (by decide) ?_
  refine rr_rdS (rest := [.ref mo]) F hK (c_X7_in l D cy t 1 50 (by first | assumption | omega | exact ⟨by omega, by omega⟩) (by first | assumption | omega | exact ⟨by omega, by omega⟩) (by first | assumption | omega | exact ⟨by omega, by omega⟩)) (hP.sub [] rfl) sf_X7_in tw921 ⟨Nat.le_of_ble_eq_true rfl, Nat.le_of_ble_eq_true rfl⟩ hl rfl (Nat.le_of_ble_eq_true rfl) dX7_go_5 ⟨Nat.zero_le _, Nat.zero_le _⟩ ?_
  refine rr_ifP_eq F (tgt := 15) dX7_go_8 (by decide) (fun c_8 => ?_) (fun c_8 => ?_)
  · refine rr_iconst F dX7_go_15 ?_
    refine rr_wrV (rest := []) (wr := [(no, .inl (cy 1, 118, .inl (iA a))), (pa, .inl (cy 1, 1652, .inl (iA ap)))]) (ws2 := [(mo, .inr (7, [vI 1, .ref no, .ref th, .ref pa, vI ss, .ref sl, .ref sv, .ref tx, vI ty])), (no, .inl (cy 1, 118, .inl (iA a))), (pa, .inl (cy 1, 1652, .inl (iA ap)))]) F hK (c_X7_refuses l D cy mo no th pa sl sv tx tr ss ty 1 (by first | assumption | omega | exact ⟨by omega, by omega⟩)) hP hD hS hA sf_X7_refuses tw910 7 rfl rfl ⟨Nat.le_of_ble_eq_true rfl, Nat.le_of_ble_eq_true rfl⟩ hl rfl (Nat.le_of_ble_eq_true rfl) dX7_go_16 ⟨Nat.zero_le _, Nat.zero_le _⟩ [0] [1, 2] [2, 0, 1] rfl rfl (by decide) (by decide) (by decide) rfl rfl (by decide) (fun H locs hP hD hS => ?_)
    have hP : va_P D vwCl [(mo, .inr (7, [vI 1, .ref no, .ref th, .ref pa, vI ss, .ref sl, .ref sv, .ref tx, vI ty])), (no, .inl (cy 1, 118, .inl (iA a))), (pa, .inl (cy 1, 1652, .inl (iA ap)))] H := hP
    have hD : va_D _ [(mo, .inr (7, [vI 1, .ref no, .ref th, .ref pa, vI ss, .ref sl, .ref sv, .ref tx, vI ty])), (no, .inl (cy 1, 118, .inl (iA a))), (pa, .inl (cy 1, 1652, .inl (iA ap)))] := hD
    refine rr_ifP_eq F (tgt := 24) dX7_go_19 (by decide) (fun c_19 => ?_) (fun c_19 => ?_)
    · exfalso; omega
    · refine rr_iconst F dX7_go_22 ?_
      exact rr_wiret F hr hlocks dX7_go_23 hP hS (by repeat' (first | rfl | split | omega)) (rfl)
  · refine rr_iconst F dX7_go_11 ?_
    refine lv_goto (tgt := 16) F.1 F.2.1 dX7_go_12 (by decide) ?_
    refine rr_wrV (rest := []) (wr := [(no, .inl (cy 1, 118, .inl (iA a))), (pa, .inl (cy 1, 1652, .inl (iA ap)))]) (ws2 := [(mo, .inr (7, [vI 0, .ref no, .ref th, .ref pa, vI ss, .ref sl, .ref sv, .ref tx, vI ty])), (no, .inl (cy 1, 118, .inl (iA a))), (pa, .inl (cy 1, 1652, .inl (iA ap)))]) F hK (c_X7_refuses l D cy mo no th pa sl sv tx tr ss ty 0 (by first | assumption | omega | exact ⟨by omega, by omega⟩)) hP hD hS hA sf_X7_refuses tw910 7 rfl rfl ⟨Nat.le_of_ble_eq_true rfl, Nat.le_of_ble_eq_true rfl⟩ hl rfl (Nat.le_of_ble_eq_true rfl) dX7_go_16 ⟨Nat.zero_le _, Nat.zero_le _⟩ [0] [1, 2] [2, 0, 1] rfl rfl (by decide) (by decide) (by decide) rfl rfl (by decide) (fun H locs hP hD hS => ?_)
    have hP : va_P D vwCl [(mo, .inr (7, [vI 0, .ref no, .ref th, .ref pa, vI ss, .ref sl, .ref sv, .ref tx, vI ty])), (no, .inl (cy 1, 118, .inl (iA a))), (pa, .inl (cy 1, 1652, .inl (iA ap)))] H := hP
    have hD : va_D _ [(mo, .inr (7, [vI 0, .ref no, .ref th, .ref pa, vI ss, .ref sl, .ref sv, .ref tx, vI ty])), (no, .inl (cy 1, 118, .inl (iA a))), (pa, .inl (cy 1, 1652, .inl (iA ap)))] := hD
    refine rr_ifP_eq F (tgt := 24) dX7_go_19 (by decide) (fun c_19 => ?_) (fun c_19 => ?_)
    · exfalso; omega
    · exfalso; omega
set_option maxRecDepth 100000 in
set_option maxHeartbeats 4000000 in
theorem c_X7_undo (l : Launch) (D : va_G) (cy : Nat → ClassId) (mo no th pa sl sv tx : Nat) (tr ss ty : Int) (a ap : Int → Int) (hM : MR a) (hs : 0 ≤ ss ∧ ss ≤ 14) (h1 : 0 < ss) : Wr l yX7_undo cX7_undo 1 (some FieldType.int) 1 [.ref mo] D cy [(mo, .inr (7, [vI tr, .ref no, .ref th, .ref pa, vI ss, .ref sl, .ref sv, .ref tx, vI ty])), (no, .inl (cy 1, 118, .inl (iA a))), (pa, .inl (cy 1, 1652, .inl (iA ap)))] [(mo, .inr (7, [vI 0, .ref no, .ref th, .ref pa, vI (ss - 1), .ref sl, .ref sv, .ref tx, vI ty])), (no, .inl (cy 1, 118, .inl (iA (cpZ ap a (118 * (ss - 1)) 0 118)))), (pa, .inl (cy 1, 1652, .inl (iA ap)))] (some (vI (ss - 1))) := by
  refine Wr.of RX7 rfl [(0, .ref mo)] rfl (by decide +kernel) (Nat.le_of_ble_eq_true rfl) ?_
  intro p e s m args below meth c F hr hlocks hK hP hD hS hA ls hl
  have hn0 := hM.n
  have hw0 := hM.nw
  have hc0 := hM.wc
  refine lv_aload_n F.1 F.2.1 dX7_undo_0 rfl (lv_at hl 0 rfl) ?_
  refine lv_aload_n F.1 F.2.1 dX7_undo_1 rfl (lv_at hl 0 rfl) ?_
  refine gf7_4 F hK hP 0 rfl tw878 dX7_undo_2 ?_
  refine rr_if_ne F (tgt := 12) dX7_undo_5 (by decide) ⟨by omega, by omega⟩ (fun c_5 => ?_) (fun c_5 => ?_)
  · refine rr_iconst F dX7_undo_12 ?_
    refine rr_wrV (rest := []) (wr := [(no, .inl (cy 1, 118, .inl (iA a))), (pa, .inl (cy 1, 1652, .inl (iA ap)))]) (ws2 := [(mo, .inr (7, [vI 0, .ref no, .ref th, .ref pa, vI ss, .ref sl, .ref sv, .ref tx, vI ty])), (no, .inl (cy 1, 118, .inl (iA a))), (pa, .inl (cy 1, 1652, .inl (iA ap)))]) F hK (c_X7_refuses l D cy mo no th pa sl sv tx tr ss ty 0 (by first | assumption | omega | exact ⟨by omega, by omega⟩)) hP hD hS hA sf_X7_refuses tw910 7 rfl rfl ⟨Nat.le_of_ble_eq_true rfl, Nat.le_of_ble_eq_true rfl⟩ hl rfl (Nat.le_of_ble_eq_true rfl) dX7_undo_13 ⟨Nat.zero_le _, Nat.zero_le _⟩ [0] [1, 2] [2, 0, 1] rfl rfl (by decide) (by decide) (by decide) rfl rfl (by decide) (fun H locs hP hD hS => ?_)
    have hP : va_P D vwCl [(mo, .inr (7, [vI 0, .ref no, .ref th, .ref pa, vI ss, .ref sl, .ref sv, .ref tx, vI ty])), (no, .inl (cy 1, 118, .inl (iA a))), (pa, .inl (cy 1, 1652, .inl (iA ap)))] H := hP
    have hD : va_D _ [(mo, .inr (7, [vI 0, .ref no, .ref th, .ref pa, vI ss, .ref sl, .ref sv, .ref tx, vI ty])), (no, .inl (cy 1, 118, .inl (iA a))), (pa, .inl (cy 1, 1652, .inl (iA ap)))] := hD
    refine rr_ifP_eq F (tgt := 21) dX7_undo_16 (by decide) (fun c_16 => ?_) (fun c_16 => ?_)
    · refine lv_aload_n F.1 F.2.1 dX7_undo_21 rfl (lv_at hl 0 rfl) ?_
      refine lv_dup F.1 F.2.1 dX7_undo_22 rfl ?_
      refine gf7_4 F hK hP 0 rfl tw878 dX7_undo_23 ?_
      refine rr_iconst F dX7_undo_26 ?_
      refine rr_isub F (z := ss - 1) dX7_undo_27 (by first | rfl | omega) ?_
      refine pf7_4 F hK hP hD hS 0 rfl tw878 dX7_undo_28 (fun H locs hP hD hS => ?_)
      have hP : va_P D vwCl [(mo, .inr (7, [vI 0, .ref no, .ref th, .ref pa, vI (ss - 1), .ref sl, .ref sv, .ref tx, vI ty])), (no, .inl (cy 1, 118, .inl (iA a))), (pa, .inl (cy 1, 1652, .inl (iA ap)))] H := hP
      have hD : va_D _ [(mo, .inr (7, [vI 0, .ref no, .ref th, .ref pa, vI (ss - 1), .ref sl, .ref sv, .ref tx, vI ty])), (no, .inl (cy 1, 118, .inl (iA a))), (pa, .inl (cy 1, 1652, .inl (iA ap)))] := hD
      refine lv_aload_n F.1 F.2.1 dX7_undo_31 rfl (lv_at hl 0 rfl) ?_
      refine gf7_3 F hK hP 0 rfl tw877 dX7_undo_32 ?_
      refine rr_bipush F dX7_undo_35 (by decide) ?_
      refine lv_aload_n F.1 F.2.1 dX7_undo_37 rfl (lv_at hl 0 rfl) ?_
      refine gf7_4 F hK hP 0 rfl tw878 dX7_undo_38 ?_
      refine rr_imul F (z := 118 * (ss - 1)) dX7_undo_41 (by first | rfl | omega) ?_
      refine lv_aload_n F.1 F.2.1 dX7_undo_42 rfl (lv_at hl 0 rfl) ?_
      refine gf7_1 F hK hP 0 rfl tw875 dX7_undo_43 ?_
      refine rr_iconst F dX7_undo_46 ?_
      refine rr_wrS (rest := []) (wr := [(mo, .inr (7, [vI 0, .ref no, .ref th, .ref pa, vI (ss - 1), .ref sl, .ref sv, .ref tx, vI ty]))]) (ws2 := [(mo, .inr (7, [vI 0, .ref no, .ref th, .ref pa, vI (ss - 1), .ref sl, .ref sv, .ref tx, vI ty])), (no, .inl (cy 1, 118, .inl (iA (cpZ ap a (118 * (ss - 1)) 0 118)))), (pa, .inl (cy 1, 1652, .inl (iA ap)))]) F hK (c_X7_lays l D cy pa no 1652 118 ap a (118 * (ss - 1)) 0 (by first | assumption | omega | exact ⟨by omega, by omega⟩) (by first | assumption | omega | exact ⟨by omega, by omega⟩) (by first | assumption | omega | exact ⟨by omega, by omega⟩) (by first | assumption | omega | exact ⟨by omega, by omega⟩)) hP hD hS hA sf_X7_lays tw914 ⟨Nat.le_of_ble_eq_true rfl, Nat.le_of_ble_eq_true rfl⟩ hl rfl (Nat.le_of_ble_eq_true rfl) dX7_undo_47 ⟨Nat.zero_le _, Nat.zero_le _⟩ [2, 1] [0] [0, 2, 1] rfl rfl (by decide) (by decide) (by decide) rfl rfl (by decide) (fun H locs hP hD hS => ?_)
      have hP : va_P D vwCl [(mo, .inr (7, [vI 0, .ref no, .ref th, .ref pa, vI (ss - 1), .ref sl, .ref sv, .ref tx, vI ty])), (no, .inl (cy 1, 118, .inl (iA (cpZ ap a (118 * (ss - 1)) 0 118)))), (pa, .inl (cy 1, 1652, .inl (iA ap)))] H := hP
      have hD : va_D _ [(mo, .inr (7, [vI 0, .ref no, .ref th, .ref pa, vI (ss - 1), .ref sl, .ref sv, .ref tx, vI ty])), (no, .inl (cy 1, 118, .inl (iA (cpZ ap a (118 * (ss - 1)) 0 118)))), (pa, .inl (cy 1, 1652, .inl (iA ap)))] := hD
      refine lv_aload_n F.1 F.2.1 dX7_undo_50 rfl (lv_at hl 0 rfl) ?_
      refine gf7_4 F hK hP 0 rfl tw878 dX7_undo_51 ?_
      exact rr_wiret F hr hlocks dX7_undo_54 hP hS (rfl) (rfl)
    · exfalso; omega
  · refine rr_iconst F dX7_undo_8 ?_
    refine lv_goto (tgt := 13) F.1 F.2.1 dX7_undo_9 (by decide) ?_
    refine rr_wrV (rest := []) (wr := [(no, .inl (cy 1, 118, .inl (iA a))), (pa, .inl (cy 1, 1652, .inl (iA ap)))]) (ws2 := [(mo, .inr (7, [vI 1, .ref no, .ref th, .ref pa, vI ss, .ref sl, .ref sv, .ref tx, vI ty])), (no, .inl (cy 1, 118, .inl (iA a))), (pa, .inl (cy 1, 1652, .inl (iA ap)))]) F hK (c_X7_refuses l D cy mo no th pa sl sv tx tr ss ty 1 (by first | assumption | omega | exact ⟨by omega, by omega⟩)) hP hD hS hA sf_X7_refuses tw910 7 rfl rfl ⟨Nat.le_of_ble_eq_true rfl, Nat.le_of_ble_eq_true rfl⟩ hl rfl (Nat.le_of_ble_eq_true rfl) dX7_undo_13 ⟨Nat.zero_le _, Nat.zero_le _⟩ [0] [1, 2] [2, 0, 1] rfl rfl (by decide) (by decide) (by decide) rfl rfl (by decide) (fun H locs hP hD hS => ?_)
    have hP : va_P D vwCl [(mo, .inr (7, [vI 1, .ref no, .ref th, .ref pa, vI ss, .ref sl, .ref sv, .ref tx, vI ty])), (no, .inl (cy 1, 118, .inl (iA a))), (pa, .inl (cy 1, 1652, .inl (iA ap)))] H := hP
    have hD : va_D _ [(mo, .inr (7, [vI 1, .ref no, .ref th, .ref pa, vI ss, .ref sl, .ref sv, .ref tx, vI ty])), (no, .inl (cy 1, 118, .inl (iA a))), (pa, .inl (cy 1, 1652, .inl (iA ap)))] := hD
    refine rr_ifP_eq F (tgt := 21) dX7_undo_16 (by decide) (fun c_16 => ?_) (fun c_16 => ?_)
    · exfalso; omega
    · exfalso; omega
set_option maxRecDepth 100000 in
set_option maxHeartbeats 4000000 in
theorem n_X7_undo (l : Launch) (D : va_G) (cy : Nat → ClassId) (mo no th pa sl sv tx : Nat) (tr ss ty : Int) (a ap : Int → Int) (hM : MR a) (hs : 0 ≤ ss ∧ ss ≤ 14) (hbad : ¬ (0 < ss)) : Wr l yX7_undo cX7_undo 1 (some FieldType.int) 1 [.ref mo] D cy [(mo, .inr (7, [vI tr, .ref no, .ref th, .ref pa, vI ss, .ref sl, .ref sv, .ref tx, vI ty])), (no, .inl (cy 1, 118, .inl (iA a))), (pa, .inl (cy 1, 1652, .inl (iA ap)))] [(mo, .inr (7, [vI 1, .ref no, .ref th, .ref pa, vI ss, .ref sl, .ref sv, .ref tx, vI ty])), (no, .inl (cy 1, 118, .inl (iA a))), (pa, .inl (cy 1, 1652, .inl (iA ap)))] (some (vI 0)) := by
  refine Wr.of RX7 rfl [(0, .ref mo)] rfl (by decide +kernel) (Nat.le_of_ble_eq_true rfl) ?_
  intro p e s m args below meth c F hr hlocks hK hP hD hS hA ls hl
  have hn0 := hM.n
  have hw0 := hM.nw
  have hc0 := hM.wc
  refine lv_aload_n F.1 F.2.1 dX7_undo_0 rfl (lv_at hl 0 rfl) ?_
  refine lv_aload_n F.1 F.2.1 dX7_undo_1 rfl (lv_at hl 0 rfl) ?_
  refine gf7_4 F hK hP 0 rfl tw878 dX7_undo_2 ?_
  refine rr_if_ne F (tgt := 12) dX7_undo_5 (by decide) ⟨by omega, by omega⟩ (fun c_5 => ?_) (fun c_5 => ?_)
  · refine rr_iconst F dX7_undo_12 ?_
    refine rr_wrV (rest := []) (wr := [(no, .inl (cy 1, 118, .inl (iA a))), (pa, .inl (cy 1, 1652, .inl (iA ap)))]) (ws2 := [(mo, .inr (7, [vI 0, .ref no, .ref th, .ref pa, vI ss, .ref sl, .ref sv, .ref tx, vI ty])), (no, .inl (cy 1, 118, .inl (iA a))), (pa, .inl (cy 1, 1652, .inl (iA ap)))]) F hK (c_X7_refuses l D cy mo no th pa sl sv tx tr ss ty 0 (by first | assumption | omega | exact ⟨by omega, by omega⟩)) hP hD hS hA sf_X7_refuses tw910 7 rfl rfl ⟨Nat.le_of_ble_eq_true rfl, Nat.le_of_ble_eq_true rfl⟩ hl rfl (Nat.le_of_ble_eq_true rfl) dX7_undo_13 ⟨Nat.zero_le _, Nat.zero_le _⟩ [0] [1, 2] [2, 0, 1] rfl rfl (by decide) (by decide) (by decide) rfl rfl (by decide) (fun H locs hP hD hS => ?_)
    have hP : va_P D vwCl [(mo, .inr (7, [vI 0, .ref no, .ref th, .ref pa, vI ss, .ref sl, .ref sv, .ref tx, vI ty])), (no, .inl (cy 1, 118, .inl (iA a))), (pa, .inl (cy 1, 1652, .inl (iA ap)))] H := hP
    have hD : va_D _ [(mo, .inr (7, [vI 0, .ref no, .ref th, .ref pa, vI ss, .ref sl, .ref sv, .ref tx, vI ty])), (no, .inl (cy 1, 118, .inl (iA a))), (pa, .inl (cy 1, 1652, .inl (iA ap)))] := hD
    refine rr_ifP_eq F (tgt := 21) dX7_undo_16 (by decide) (fun c_16 => ?_) (fun c_16 => ?_)
    · exfalso; omega
    · exfalso; omega
  · refine rr_iconst F dX7_undo_8 ?_
    refine lv_goto (tgt := 13) F.1 F.2.1 dX7_undo_9 (by decide) ?_
    refine rr_wrV (rest := []) (wr := [(no, .inl (cy 1, 118, .inl (iA a))), (pa, .inl (cy 1, 1652, .inl (iA ap)))]) (ws2 := [(mo, .inr (7, [vI 1, .ref no, .ref th, .ref pa, vI ss, .ref sl, .ref sv, .ref tx, vI ty])), (no, .inl (cy 1, 118, .inl (iA a))), (pa, .inl (cy 1, 1652, .inl (iA ap)))]) F hK (c_X7_refuses l D cy mo no th pa sl sv tx tr ss ty 1 (by first | assumption | omega | exact ⟨by omega, by omega⟩)) hP hD hS hA sf_X7_refuses tw910 7 rfl rfl ⟨Nat.le_of_ble_eq_true rfl, Nat.le_of_ble_eq_true rfl⟩ hl rfl (Nat.le_of_ble_eq_true rfl) dX7_undo_13 ⟨Nat.zero_le _, Nat.zero_le _⟩ [0] [1, 2] [2, 0, 1] rfl rfl (by decide) (by decide) (by decide) rfl rfl (by decide) (fun H locs hP hD hS => ?_)
    have hP : va_P D vwCl [(mo, .inr (7, [vI 1, .ref no, .ref th, .ref pa, vI ss, .ref sl, .ref sv, .ref tx, vI ty])), (no, .inl (cy 1, 118, .inl (iA a))), (pa, .inl (cy 1, 1652, .inl (iA ap)))] H := hP
    have hD : va_D _ [(mo, .inr (7, [vI 1, .ref no, .ref th, .ref pa, vI ss, .ref sl, .ref sv, .ref tx, vI ty])), (no, .inl (cy 1, 118, .inl (iA a))), (pa, .inl (cy 1, 1652, .inl (iA ap)))] := hD
    refine rr_ifP_eq F (tgt := 21) dX7_undo_16 (by decide) (fun c_16 => ?_) (fun c_16 => ?_)
    · exfalso; omega
    · refine rr_iconst F dX7_undo_19 ?_
      exact rr_wiret F hr hlocks dX7_undo_20 hP hS (by repeat' (first | rfl | split | omega)) (rfl)
set_option maxRecDepth 100000 in
set_option maxHeartbeats 4000000 in
theorem c_X7_save (l : Launch) (D : va_G) (cy : Nat → ClassId) (mo no th pa sl sv tx : Nat) (tr ss ty : Int) (a asl asv : Int → Int) (x : Int) (hM : MR a) (hx : inR x) (h1 : 0 ≤ x ∧ x ≤ 1) : Wr l yX7_save cX7_save 2 (some FieldType.int) 1 [.ref mo, vI x] D cy [(mo, .inr (7, [vI tr, .ref no, .ref th, .ref pa, vI ss, .ref sl, .ref sv, .ref tx, vI ty])), (no, .inl (cy 1, 118, .inl (iA a))), (sl, .inl (cy 1, 236, .inl (iA asl))), (sv, .inl (cy 2, 2, .inl (iA asv)))] [(mo, .inr (7, [vI 0, .ref no, .ref th, .ref pa, vI ss, .ref sl, .ref sv, .ref tx, vI ty])), (no, .inl (cy 1, 118, .inl (iA a))), (sl, .inl (cy 1, 236, .inl (iA (cpZ a asl 0 (118 * x) 118)))), (sv, .inl (cy 2, 2, .inl (iA (updZ asv x 1))))] (some (vI (a 0))) := by
  refine Wr.of RX7 rfl [(0, .ref mo), (1, vI x)] rfl (by decide +kernel) (Nat.le_of_ble_eq_true rfl) ?_
  intro p e s m args below meth c F hr hlocks hK hP hD hS hA ls hl
  have hn0 := hM.n
  have hw0 := hM.nw
  have hc0 := hM.wc
  refine lv_aload_n F.1 F.2.1 dX7_save_0 rfl (lv_at hl 0 rfl) ?_
  refine lv_iload_n F.1 F.2.1 dX7_save_1 rfl (lv_at hl 1 rfl) ?_
  refine rr_iconst F dX7_save_2 ?_
  refine rr_iconst F dX7_save_3 ?_
  refine rr_rdS (rest := [.ref mo]) F hK (c_X7_in l D cy x 0 1 (by first | assumption | omega | exact ⟨by omega, by omega⟩) (by first | assumption | omega | exact ⟨by omega, by omega⟩) (by first | assumption | omega | exact ⟨by omega, by omega⟩)) (hP.sub [] rfl) sf_X7_in tw921 ⟨Nat.le_of_ble_eq_true rfl, Nat.le_of_ble_eq_true rfl⟩ hl rfl (Nat.le_of_ble_eq_true rfl) dX7_save_4 ⟨Nat.zero_le _, Nat.zero_le _⟩ ?_
  refine rr_ifP_eq F (tgt := 14) dX7_save_7 (by decide) (fun c_7 => ?_) (fun c_7 => ?_)
  · refine rr_iconst F dX7_save_14 ?_
    refine rr_wrV (rest := []) (wr := [(no, .inl (cy 1, 118, .inl (iA a))), (sl, .inl (cy 1, 236, .inl (iA asl))), (sv, .inl (cy 2, 2, .inl (iA asv)))]) (ws2 := [(mo, .inr (7, [vI 1, .ref no, .ref th, .ref pa, vI ss, .ref sl, .ref sv, .ref tx, vI ty])), (no, .inl (cy 1, 118, .inl (iA a))), (sl, .inl (cy 1, 236, .inl (iA asl))), (sv, .inl (cy 2, 2, .inl (iA asv)))]) F hK (c_X7_refuses l D cy mo no th pa sl sv tx tr ss ty 1 (by first | assumption | omega | exact ⟨by omega, by omega⟩)) hP hD hS hA sf_X7_refuses tw910 7 rfl rfl ⟨Nat.le_of_ble_eq_true rfl, Nat.le_of_ble_eq_true rfl⟩ hl rfl (Nat.le_of_ble_eq_true rfl) dX7_save_15 ⟨Nat.zero_le _, Nat.zero_le _⟩ [0] [1, 2, 3] [3, 0, 1, 2] rfl rfl (by decide) (by decide) (by decide) rfl rfl (by decide) (fun H locs hP hD hS => ?_)
    have hP : va_P D vwCl [(mo, .inr (7, [vI 1, .ref no, .ref th, .ref pa, vI ss, .ref sl, .ref sv, .ref tx, vI ty])), (no, .inl (cy 1, 118, .inl (iA a))), (sl, .inl (cy 1, 236, .inl (iA asl))), (sv, .inl (cy 2, 2, .inl (iA asv)))] H := hP
    have hD : va_D _ [(mo, .inr (7, [vI 1, .ref no, .ref th, .ref pa, vI ss, .ref sl, .ref sv, .ref tx, vI ty])), (no, .inl (cy 1, 118, .inl (iA a))), (sl, .inl (cy 1, 236, .inl (iA asl))), (sv, .inl (cy 2, 2, .inl (iA asv)))] := hD
    refine rr_ifP_eq F (tgt := 23) dX7_save_18 (by decide) (fun c_18 => ?_) (fun c_18 => ?_)
    · exfalso; omega
    · exfalso; omega
  · refine rr_iconst F dX7_save_10 ?_
    refine lv_goto (tgt := 15) F.1 F.2.1 dX7_save_11 (by decide) ?_
    refine rr_wrV (rest := []) (wr := [(no, .inl (cy 1, 118, .inl (iA a))), (sl, .inl (cy 1, 236, .inl (iA asl))), (sv, .inl (cy 2, 2, .inl (iA asv)))]) (ws2 := [(mo, .inr (7, [vI 0, .ref no, .ref th, .ref pa, vI ss, .ref sl, .ref sv, .ref tx, vI ty])), (no, .inl (cy 1, 118, .inl (iA a))), (sl, .inl (cy 1, 236, .inl (iA asl))), (sv, .inl (cy 2, 2, .inl (iA asv)))]) F hK (c_X7_refuses l D cy mo no th pa sl sv tx tr ss ty 0 (by first | assumption | omega | exact ⟨by omega, by omega⟩)) hP hD hS hA sf_X7_refuses tw910 7 rfl rfl ⟨Nat.le_of_ble_eq_true rfl, Nat.le_of_ble_eq_true rfl⟩ hl rfl (Nat.le_of_ble_eq_true rfl) dX7_save_15 ⟨Nat.zero_le _, Nat.zero_le _⟩ [0] [1, 2, 3] [3, 0, 1, 2] rfl rfl (by decide) (by decide) (by decide) rfl rfl (by decide) (fun H locs hP hD hS => ?_)
    have hP : va_P D vwCl [(mo, .inr (7, [vI 0, .ref no, .ref th, .ref pa, vI ss, .ref sl, .ref sv, .ref tx, vI ty])), (no, .inl (cy 1, 118, .inl (iA a))), (sl, .inl (cy 1, 236, .inl (iA asl))), (sv, .inl (cy 2, 2, .inl (iA asv)))] H := hP
    have hD : va_D _ [(mo, .inr (7, [vI 0, .ref no, .ref th, .ref pa, vI ss, .ref sl, .ref sv, .ref tx, vI ty])), (no, .inl (cy 1, 118, .inl (iA a))), (sl, .inl (cy 1, 236, .inl (iA asl))), (sv, .inl (cy 2, 2, .inl (iA asv)))] := hD
    refine rr_ifP_eq F (tgt := 23) dX7_save_18 (by decide) (fun c_18 => ?_) (fun c_18 => ?_)
    · refine lv_aload_n F.1 F.2.1 dX7_save_23 rfl (lv_at hl 0 rfl) ?_
      refine gf7_1 F hK hP 0 rfl tw875 dX7_save_24 ?_
      refine rr_iconst F dX7_save_27 ?_
      refine lv_aload_n F.1 F.2.1 dX7_save_28 rfl (lv_at hl 0 rfl) ?_
      refine gf7_5 F hK hP 0 rfl tw879 dX7_save_29 ?_
      refine rr_bipush F dX7_save_32 (by decide) ?_
      refine lv_iload_n F.1 F.2.1 dX7_save_34 rfl (lv_at hl 1 rfl) ?_
      refine rr_imul F (z := 118 * x) dX7_save_35 (by first | rfl | omega) ?_
      refine rr_wrS (rest := []) (wr := [(mo, .inr (7, [vI 0, .ref no, .ref th, .ref pa, vI ss, .ref sl, .ref sv, .ref tx, vI ty])), (sv, .inl (cy 2, 2, .inl (iA asv)))]) (ws2 := [(mo, .inr (7, [vI 0, .ref no, .ref th, .ref pa, vI ss, .ref sl, .ref sv, .ref tx, vI ty])), (no, .inl (cy 1, 118, .inl (iA a))), (sl, .inl (cy 1, 236, .inl (iA (cpZ a asl 0 (118 * x) 118)))), (sv, .inl (cy 2, 2, .inl (iA asv)))]) F hK (c_X7_lays l D cy no sl 118 236 a asl 0 (118 * x) (by first | assumption | omega | exact ⟨by omega, by omega⟩) (by first | assumption | omega | exact ⟨by omega, by omega⟩) (by first | assumption | omega | exact ⟨by omega, by omega⟩) (by first | assumption | omega | exact ⟨by omega, by omega⟩)) hP hD hS hA sf_X7_lays tw914 ⟨Nat.le_of_ble_eq_true rfl, Nat.le_of_ble_eq_true rfl⟩ hl rfl (Nat.le_of_ble_eq_true rfl) dX7_save_36 ⟨Nat.zero_le _, Nat.zero_le _⟩ [1, 2] [0, 3] [0, 2, 3, 1] rfl rfl (by decide) (by decide) (by decide) rfl rfl (by decide) (fun H locs hP hD hS => ?_)
      have hP : va_P D vwCl [(mo, .inr (7, [vI 0, .ref no, .ref th, .ref pa, vI ss, .ref sl, .ref sv, .ref tx, vI ty])), (no, .inl (cy 1, 118, .inl (iA a))), (sl, .inl (cy 1, 236, .inl (iA (cpZ a asl 0 (118 * x) 118)))), (sv, .inl (cy 2, 2, .inl (iA asv)))] H := hP
      have hD : va_D _ [(mo, .inr (7, [vI 0, .ref no, .ref th, .ref pa, vI ss, .ref sl, .ref sv, .ref tx, vI ty])), (no, .inl (cy 1, 118, .inl (iA a))), (sl, .inl (cy 1, 236, .inl (iA (cpZ a asl 0 (118 * x) 118)))), (sv, .inl (cy 2, 2, .inl (iA asv)))] := hD
      refine lv_aload_n F.1 F.2.1 dX7_save_39 rfl (lv_at hl 0 rfl) ?_
      refine gf7_6 F hK hP 0 rfl tw880 dX7_save_40 ?_
      refine lv_iload_n F.1 F.2.1 dX7_save_43 rfl (lv_at hl 1 rfl) ?_
      refine rr_iconst F dX7_save_44 ?_
      refine rr_zast1 F hK hP hD hS 3 rfl (by omega) (by omega) (by decide) dX7_save_45 (fun H locs hP hD hS => ?_)
      have hP : va_P D vwCl [(mo, .inr (7, [vI 0, .ref no, .ref th, .ref pa, vI ss, .ref sl, .ref sv, .ref tx, vI ty])), (no, .inl (cy 1, 118, .inl (iA a))), (sl, .inl (cy 1, 236, .inl (iA (cpZ a asl 0 (118 * x) 118)))), (sv, .inl (cy 2, 2, .inl (iA (updZ asv x 1))))] H := hP
      have hD : va_D _ [(mo, .inr (7, [vI 0, .ref no, .ref th, .ref pa, vI ss, .ref sl, .ref sv, .ref tx, vI ty])), (no, .inl (cy 1, 118, .inl (iA a))), (sl, .inl (cy 1, 236, .inl (iA (cpZ a asl 0 (118 * x) 118)))), (sv, .inl (cy 2, 2, .inl (iA (updZ asv x 1))))] := hD
      refine lv_aload_n F.1 F.2.1 dX7_save_46 rfl (lv_at hl 0 rfl) ?_
      refine gf7_1 F hK hP 0 rfl tw875 dX7_save_47 ?_
      refine rr_iconst F dX7_save_50 ?_
      refine rr_iald F hK hP 1 rfl (by omega) (by omega) (by decide) dX7_save_51 ?_
      exact rr_wiret F hr hlocks dX7_save_52 hP hS (rfl) (by first | rfl | omega)
    · exfalso; omega
set_option maxRecDepth 100000 in
set_option maxHeartbeats 4000000 in
theorem n_X7_save (l : Launch) (D : va_G) (cy : Nat → ClassId) (mo no th pa sl sv tx : Nat) (tr ss ty : Int) (a asl asv : Int → Int) (x : Int) (hM : MR a) (hx : inR x) (hbad : ¬ (0 ≤ x ∧ x ≤ 1)) : Wr l yX7_save cX7_save 2 (some FieldType.int) 1 [.ref mo, vI x] D cy [(mo, .inr (7, [vI tr, .ref no, .ref th, .ref pa, vI ss, .ref sl, .ref sv, .ref tx, vI ty])), (no, .inl (cy 1, 118, .inl (iA a))), (sl, .inl (cy 1, 236, .inl (iA asl))), (sv, .inl (cy 2, 2, .inl (iA asv)))] [(mo, .inr (7, [vI 1, .ref no, .ref th, .ref pa, vI ss, .ref sl, .ref sv, .ref tx, vI ty])), (no, .inl (cy 1, 118, .inl (iA a))), (sl, .inl (cy 1, 236, .inl (iA asl))), (sv, .inl (cy 2, 2, .inl (iA asv)))] (some (vI 0)) := by
  refine Wr.of RX7 rfl [(0, .ref mo), (1, vI x)] rfl (by decide +kernel) (Nat.le_of_ble_eq_true rfl) ?_
  intro p e s m args below meth c F hr hlocks hK hP hD hS hA ls hl
  have hn0 := hM.n
  have hw0 := hM.nw
  have hc0 := hM.wc
  refine lv_aload_n F.1 F.2.1 dX7_save_0 rfl (lv_at hl 0 rfl) ?_
  refine lv_iload_n F.1 F.2.1 dX7_save_1 rfl (lv_at hl 1 rfl) ?_
  refine rr_iconst F dX7_save_2 ?_
  refine rr_iconst F dX7_save_3 ?_
  refine rr_rdS (rest := [.ref mo]) F hK (c_X7_in l D cy x 0 1 (by first | assumption | omega | exact ⟨by omega, by omega⟩) (by first | assumption | omega | exact ⟨by omega, by omega⟩) (by first | assumption | omega | exact ⟨by omega, by omega⟩)) (hP.sub [] rfl) sf_X7_in tw921 ⟨Nat.le_of_ble_eq_true rfl, Nat.le_of_ble_eq_true rfl⟩ hl rfl (Nat.le_of_ble_eq_true rfl) dX7_save_4 ⟨Nat.zero_le _, Nat.zero_le _⟩ ?_
  refine rr_ifP_eq F (tgt := 14) dX7_save_7 (by decide) (fun c_7 => ?_) (fun c_7 => ?_)
  · refine rr_iconst F dX7_save_14 ?_
    refine rr_wrV (rest := []) (wr := [(no, .inl (cy 1, 118, .inl (iA a))), (sl, .inl (cy 1, 236, .inl (iA asl))), (sv, .inl (cy 2, 2, .inl (iA asv)))]) (ws2 := [(mo, .inr (7, [vI 1, .ref no, .ref th, .ref pa, vI ss, .ref sl, .ref sv, .ref tx, vI ty])), (no, .inl (cy 1, 118, .inl (iA a))), (sl, .inl (cy 1, 236, .inl (iA asl))), (sv, .inl (cy 2, 2, .inl (iA asv)))]) F hK (c_X7_refuses l D cy mo no th pa sl sv tx tr ss ty 1 (by first | assumption | omega | exact ⟨by omega, by omega⟩)) hP hD hS hA sf_X7_refuses tw910 7 rfl rfl ⟨Nat.le_of_ble_eq_true rfl, Nat.le_of_ble_eq_true rfl⟩ hl rfl (Nat.le_of_ble_eq_true rfl) dX7_save_15 ⟨Nat.zero_le _, Nat.zero_le _⟩ [0] [1, 2, 3] [3, 0, 1, 2] rfl rfl (by decide) (by decide) (by decide) rfl rfl (by decide) (fun H locs hP hD hS => ?_)
    have hP : va_P D vwCl [(mo, .inr (7, [vI 1, .ref no, .ref th, .ref pa, vI ss, .ref sl, .ref sv, .ref tx, vI ty])), (no, .inl (cy 1, 118, .inl (iA a))), (sl, .inl (cy 1, 236, .inl (iA asl))), (sv, .inl (cy 2, 2, .inl (iA asv)))] H := hP
    have hD : va_D _ [(mo, .inr (7, [vI 1, .ref no, .ref th, .ref pa, vI ss, .ref sl, .ref sv, .ref tx, vI ty])), (no, .inl (cy 1, 118, .inl (iA a))), (sl, .inl (cy 1, 236, .inl (iA asl))), (sv, .inl (cy 2, 2, .inl (iA asv)))] := hD
    refine rr_ifP_eq F (tgt := 23) dX7_save_18 (by decide) (fun c_18 => ?_) (fun c_18 => ?_)
    · exfalso; omega
    · refine rr_iconst F dX7_save_21 ?_
      exact rr_wiret F hr hlocks dX7_save_22 hP hS (by repeat' (first | rfl | split | omega)) (rfl)
  · refine rr_iconst F dX7_save_10 ?_
    refine lv_goto (tgt := 15) F.1 F.2.1 dX7_save_11 (by decide) ?_
    refine rr_wrV (rest := []) (wr := [(no, .inl (cy 1, 118, .inl (iA a))), (sl, .inl (cy 1, 236, .inl (iA asl))), (sv, .inl (cy 2, 2, .inl (iA asv)))]) (ws2 := [(mo, .inr (7, [vI 0, .ref no, .ref th, .ref pa, vI ss, .ref sl, .ref sv, .ref tx, vI ty])), (no, .inl (cy 1, 118, .inl (iA a))), (sl, .inl (cy 1, 236, .inl (iA asl))), (sv, .inl (cy 2, 2, .inl (iA asv)))]) F hK (c_X7_refuses l D cy mo no th pa sl sv tx tr ss ty 0 (by first | assumption | omega | exact ⟨by omega, by omega⟩)) hP hD hS hA sf_X7_refuses tw910 7 rfl rfl ⟨Nat.le_of_ble_eq_true rfl, Nat.le_of_ble_eq_true rfl⟩ hl rfl (Nat.le_of_ble_eq_true rfl) dX7_save_15 ⟨Nat.zero_le _, Nat.zero_le _⟩ [0] [1, 2, 3] [3, 0, 1, 2] rfl rfl (by decide) (by decide) (by decide) rfl rfl (by decide) (fun H locs hP hD hS => ?_)
    have hP : va_P D vwCl [(mo, .inr (7, [vI 0, .ref no, .ref th, .ref pa, vI ss, .ref sl, .ref sv, .ref tx, vI ty])), (no, .inl (cy 1, 118, .inl (iA a))), (sl, .inl (cy 1, 236, .inl (iA asl))), (sv, .inl (cy 2, 2, .inl (iA asv)))] H := hP
    have hD : va_D _ [(mo, .inr (7, [vI 0, .ref no, .ref th, .ref pa, vI ss, .ref sl, .ref sv, .ref tx, vI ty])), (no, .inl (cy 1, 118, .inl (iA a))), (sl, .inl (cy 1, 236, .inl (iA asl))), (sv, .inl (cy 2, 2, .inl (iA asv)))] := hD
    refine rr_ifP_eq F (tgt := 23) dX7_save_18 (by decide) (fun c_18 => ?_) (fun c_18 => ?_)
    · exfalso; omega
    · exfalso; omega
set_option maxRecDepth 100000 in
set_option maxHeartbeats 4000000 in
theorem c_X7_restore (l : Launch) (D : va_G) (cy : Nat → ClassId) (mo no th pa sl sv tx : Nat) (tr ss ty : Int) (a asl asv : Int → Int) (x : Int) (hM : MR a) (hx : inR x) (hv : ∀ j, 0 ≤ j → j < 2 → asv j = 0 ∨ asv j = 1) (h1 : 0 ≤ x ∧ x ≤ 1) (h2 : asv x = 1) : Wr l yX7_restore cX7_restore 3 (some FieldType.int) 1 [.ref mo, vI x] D cy [(mo, .inr (7, [vI tr, .ref no, .ref th, .ref pa, vI ss, .ref sl, .ref sv, .ref tx, vI ty])), (no, .inl (cy 1, 118, .inl (iA a))), (sl, .inl (cy 1, 236, .inl (iA asl))), (sv, .inl (cy 2, 2, .inl (iA asv)))] [(mo, .inr (7, [vI 0, .ref no, .ref th, .ref pa, vI 0, .ref sl, .ref sv, .ref tx, vI ty])), (no, .inl (cy 1, 118, .inl (iA (cpZ asl a (118 * x) 0 118)))), (sl, .inl (cy 1, 236, .inl (iA asl))), (sv, .inl (cy 2, 2, .inl (iA asv)))] (some (vI (asl (118 * x)))) := by
  refine Wr.of RX7 rfl [(0, .ref mo), (1, vI x)] rfl (by decide +kernel) (Nat.le_of_ble_eq_true rfl) ?_
  intro p e s m args below meth c F hr hlocks hK hP hD hS hA ls hl
  have hn0 := hM.n
  have hw0 := hM.nw
  have hc0 := hM.wc
  refine lv_iload_n F.1 F.2.1 dX7_restore_0 rfl (lv_at hl 1 rfl) ?_
  refine rr_iconst F dX7_restore_1 ?_
  refine rr_iconst F dX7_restore_2 ?_
  refine rr_rdS (rest := []) F hK (c_X7_in l D cy x 0 1 (by first | assumption | omega | exact ⟨by omega, by omega⟩) (by first | assumption | omega | exact ⟨by omega, by omega⟩) (by first | assumption | omega | exact ⟨by omega, by omega⟩)) (hP.sub [] rfl) sf_X7_in tw921 ⟨Nat.le_of_ble_eq_true rfl, Nat.le_of_ble_eq_true rfl⟩ hl rfl (Nat.le_of_ble_eq_true rfl) dX7_restore_3 ⟨Nat.zero_le _, Nat.zero_le _⟩ ?_
  refine lv_istore_n (lv' := [(2, vI (b2i (pB (0 ≤ x ∧ x ≤ 1)))), (0, .ref mo), (1, vI x)]) F.1 F.2.1 dX7_restore_6 rfl hl (by decide) rfl (fun ls hl => ?_)
  refine lv_aload_n F.1 F.2.1 dX7_restore_7 rfl (lv_at hl 1 rfl) ?_
  refine lv_iload_n F.1 F.2.1 dX7_restore_8 rfl (lv_at hl 0 rfl) ?_
  refine rr_ifP_ne F (tgt := 16) dX7_restore_9 (by decide) (fun c_9 => ?_) (fun c_9 => ?_)
  · refine lv_aload_n F.1 F.2.1 dX7_restore_16 rfl (lv_at hl 1 rfl) ?_
    refine gf7_6 F hK hP 0 rfl tw880 dX7_restore_17 ?_
    refine lv_iload_n F.1 F.2.1 dX7_restore_20 rfl (lv_at hl 2 rfl) ?_
    refine rr_zald F hK hP 3 rfl (by omega) (by omega) (by decide) dX7_restore_21 ?_
    have hvx := hv x (by omega) (by omega)
    refine rr_if_eq F (tgt := 29) dX7_restore_22 (by decide) ⟨by omega, by omega⟩ (fun c_22 => ?_) (fun c_22 => ?_)
    · refine rr_iconst F dX7_restore_29 ?_
      refine rr_wrV (rest := []) (wr := [(no, .inl (cy 1, 118, .inl (iA a))), (sl, .inl (cy 1, 236, .inl (iA asl))), (sv, .inl (cy 2, 2, .inl (iA asv)))]) (ws2 := [(mo, .inr (7, [vI 2, .ref no, .ref th, .ref pa, vI ss, .ref sl, .ref sv, .ref tx, vI ty])), (no, .inl (cy 1, 118, .inl (iA a))), (sl, .inl (cy 1, 236, .inl (iA asl))), (sv, .inl (cy 2, 2, .inl (iA asv)))]) F hK (c_X7_refuses l D cy mo no th pa sl sv tx tr ss ty 2 (by first | assumption | omega | exact ⟨by omega, by omega⟩)) hP hD hS hA sf_X7_refuses tw910 7 rfl rfl ⟨Nat.le_of_ble_eq_true rfl, Nat.le_of_ble_eq_true rfl⟩ hl rfl (Nat.le_of_ble_eq_true rfl) dX7_restore_30 ⟨Nat.zero_le _, Nat.zero_le _⟩ [0] [1, 2, 3] [3, 0, 1, 2] rfl rfl (by decide) (by decide) (by decide) rfl rfl (by decide) (fun H locs hP hD hS => ?_)
      have hP : va_P D vwCl [(mo, .inr (7, [vI 2, .ref no, .ref th, .ref pa, vI ss, .ref sl, .ref sv, .ref tx, vI ty])), (no, .inl (cy 1, 118, .inl (iA a))), (sl, .inl (cy 1, 236, .inl (iA asl))), (sv, .inl (cy 2, 2, .inl (iA asv)))] H := hP
      have hD : va_D _ [(mo, .inr (7, [vI 2, .ref no, .ref th, .ref pa, vI ss, .ref sl, .ref sv, .ref tx, vI ty])), (no, .inl (cy 1, 118, .inl (iA a))), (sl, .inl (cy 1, 236, .inl (iA asl))), (sv, .inl (cy 2, 2, .inl (iA asv)))] := hD
      refine rr_ifP_eq F (tgt := 38) dX7_restore_33 (by decide) (fun c_33 => ?_) (fun c_33 => ?_)
      · exfalso; omega
      · exfalso; omega
    · refine rr_iconst F dX7_restore_25 ?_
      refine lv_goto (tgt := 30) F.1 F.2.1 dX7_restore_26 (by decide) ?_
      refine rr_wrV (rest := []) (wr := [(no, .inl (cy 1, 118, .inl (iA a))), (sl, .inl (cy 1, 236, .inl (iA asl))), (sv, .inl (cy 2, 2, .inl (iA asv)))]) (ws2 := [(mo, .inr (7, [vI 0, .ref no, .ref th, .ref pa, vI ss, .ref sl, .ref sv, .ref tx, vI ty])), (no, .inl (cy 1, 118, .inl (iA a))), (sl, .inl (cy 1, 236, .inl (iA asl))), (sv, .inl (cy 2, 2, .inl (iA asv)))]) F hK (c_X7_refuses l D cy mo no th pa sl sv tx tr ss ty 0 (by first | assumption | omega | exact ⟨by omega, by omega⟩)) hP hD hS hA sf_X7_refuses tw910 7 rfl rfl ⟨Nat.le_of_ble_eq_true rfl, Nat.le_of_ble_eq_true rfl⟩ hl rfl (Nat.le_of_ble_eq_true rfl) dX7_restore_30 ⟨Nat.zero_le _, Nat.zero_le _⟩ [0] [1, 2, 3] [3, 0, 1, 2] rfl rfl (by decide) (by decide) (by decide) rfl rfl (by decide) (fun H locs hP hD hS => ?_)
      have hP : va_P D vwCl [(mo, .inr (7, [vI 0, .ref no, .ref th, .ref pa, vI ss, .ref sl, .ref sv, .ref tx, vI ty])), (no, .inl (cy 1, 118, .inl (iA a))), (sl, .inl (cy 1, 236, .inl (iA asl))), (sv, .inl (cy 2, 2, .inl (iA asv)))] H := hP
      have hD : va_D _ [(mo, .inr (7, [vI 0, .ref no, .ref th, .ref pa, vI ss, .ref sl, .ref sv, .ref tx, vI ty])), (no, .inl (cy 1, 118, .inl (iA a))), (sl, .inl (cy 1, 236, .inl (iA asl))), (sv, .inl (cy 2, 2, .inl (iA asv)))] := hD
      refine rr_ifP_eq F (tgt := 38) dX7_restore_33 (by decide) (fun c_33 => ?_) (fun c_33 => ?_)
      · refine lv_aload_n F.1 F.2.1 dX7_restore_38 rfl (lv_at hl 1 rfl) ?_
        refine gf7_5 F hK hP 0 rfl tw879 dX7_restore_39 ?_
        refine rr_bipush F dX7_restore_42 (by decide) ?_
        refine lv_iload_n F.1 F.2.1 dX7_restore_44 rfl (lv_at hl 2 rfl) ?_
        refine rr_imul F (z := 118 * x) dX7_restore_45 (by first | rfl | omega) ?_
        refine lv_aload_n F.1 F.2.1 dX7_restore_46 rfl (lv_at hl 1 rfl) ?_
        refine gf7_1 F hK hP 0 rfl tw875 dX7_restore_47 ?_
        refine rr_iconst F dX7_restore_50 ?_
        refine rr_wrS (rest := []) (wr := [(mo, .inr (7, [vI 0, .ref no, .ref th, .ref pa, vI ss, .ref sl, .ref sv, .ref tx, vI ty])), (sv, .inl (cy 2, 2, .inl (iA asv)))]) (ws2 := [(mo, .inr (7, [vI 0, .ref no, .ref th, .ref pa, vI ss, .ref sl, .ref sv, .ref tx, vI ty])), (no, .inl (cy 1, 118, .inl (iA (cpZ asl a (118 * x) 0 118)))), (sl, .inl (cy 1, 236, .inl (iA asl))), (sv, .inl (cy 2, 2, .inl (iA asv)))]) F hK (c_X7_lays l D cy sl no 236 118 asl a (118 * x) 0 (by first | assumption | omega | exact ⟨by omega, by omega⟩) (by first | assumption | omega | exact ⟨by omega, by omega⟩) (by first | assumption | omega | exact ⟨by omega, by omega⟩) (by first | assumption | omega | exact ⟨by omega, by omega⟩)) hP hD hS hA sf_X7_lays tw914 ⟨Nat.le_of_ble_eq_true rfl, Nat.le_of_ble_eq_true rfl⟩ hl rfl (Nat.le_of_ble_eq_true rfl) dX7_restore_51 ⟨Nat.zero_le _, Nat.zero_le _⟩ [2, 1] [0, 3] [0, 3, 2, 1] rfl rfl (by decide) (by decide) (by decide) rfl rfl (by decide) (fun H locs hP hD hS => ?_)
        have hP : va_P D vwCl [(mo, .inr (7, [vI 0, .ref no, .ref th, .ref pa, vI ss, .ref sl, .ref sv, .ref tx, vI ty])), (no, .inl (cy 1, 118, .inl (iA (cpZ asl a (118 * x) 0 118)))), (sl, .inl (cy 1, 236, .inl (iA asl))), (sv, .inl (cy 2, 2, .inl (iA asv)))] H := hP
        have hD : va_D _ [(mo, .inr (7, [vI 0, .ref no, .ref th, .ref pa, vI ss, .ref sl, .ref sv, .ref tx, vI ty])), (no, .inl (cy 1, 118, .inl (iA (cpZ asl a (118 * x) 0 118)))), (sl, .inl (cy 1, 236, .inl (iA asl))), (sv, .inl (cy 2, 2, .inl (iA asv)))] := hD
        refine lv_aload_n F.1 F.2.1 dX7_restore_54 rfl (lv_at hl 1 rfl) ?_
        refine rr_iconst F dX7_restore_55 ?_
        refine pf7_4 F hK hP hD hS 0 rfl tw878 dX7_restore_56 (fun H locs hP hD hS => ?_)
        have hP : va_P D vwCl [(mo, .inr (7, [vI 0, .ref no, .ref th, .ref pa, vI 0, .ref sl, .ref sv, .ref tx, vI ty])), (no, .inl (cy 1, 118, .inl (iA (cpZ asl a (118 * x) 0 118)))), (sl, .inl (cy 1, 236, .inl (iA asl))), (sv, .inl (cy 2, 2, .inl (iA asv)))] H := hP
        have hD : va_D _ [(mo, .inr (7, [vI 0, .ref no, .ref th, .ref pa, vI 0, .ref sl, .ref sv, .ref tx, vI ty])), (no, .inl (cy 1, 118, .inl (iA (cpZ asl a (118 * x) 0 118)))), (sl, .inl (cy 1, 236, .inl (iA asl))), (sv, .inl (cy 2, 2, .inl (iA asv)))] := hD
        refine lv_aload_n F.1 F.2.1 dX7_restore_59 rfl (lv_at hl 1 rfl) ?_
        refine gf7_1 F hK hP 0 rfl tw875 dX7_restore_60 ?_
        refine rr_iconst F dX7_restore_63 ?_
        refine rr_iald F hK hP 1 rfl (by omega) (by omega) (by decide) dX7_restore_64 ?_
        exact rr_wiret F hr hlocks dX7_restore_65 hP hS (rfl) (by rw [cpZ_in (by omega) (by omega), show 118 * x + (0 - 0) = 118 * x by omega])
      · exfalso; omega
  · refine rr_iconst F dX7_restore_12 ?_
    refine lv_goto (tgt := 30) F.1 F.2.1 dX7_restore_13 (by decide) ?_
    refine rr_wrV (rest := []) (wr := [(no, .inl (cy 1, 118, .inl (iA a))), (sl, .inl (cy 1, 236, .inl (iA asl))), (sv, .inl (cy 2, 2, .inl (iA asv)))]) (ws2 := [(mo, .inr (7, [vI 1, .ref no, .ref th, .ref pa, vI ss, .ref sl, .ref sv, .ref tx, vI ty])), (no, .inl (cy 1, 118, .inl (iA a))), (sl, .inl (cy 1, 236, .inl (iA asl))), (sv, .inl (cy 2, 2, .inl (iA asv)))]) F hK (c_X7_refuses l D cy mo no th pa sl sv tx tr ss ty 1 (by first | assumption | omega | exact ⟨by omega, by omega⟩)) hP hD hS hA sf_X7_refuses tw910 7 rfl rfl ⟨Nat.le_of_ble_eq_true rfl, Nat.le_of_ble_eq_true rfl⟩ hl rfl (Nat.le_of_ble_eq_true rfl) dX7_restore_30 ⟨Nat.zero_le _, Nat.zero_le _⟩ [0] [1, 2, 3] [3, 0, 1, 2] rfl rfl (by decide) (by decide) (by decide) rfl rfl (by decide) (fun H locs hP hD hS => ?_)
    have hP : va_P D vwCl [(mo, .inr (7, [vI 1, .ref no, .ref th, .ref pa, vI ss, .ref sl, .ref sv, .ref tx, vI ty])), (no, .inl (cy 1, 118, .inl (iA a))), (sl, .inl (cy 1, 236, .inl (iA asl))), (sv, .inl (cy 2, 2, .inl (iA asv)))] H := hP
    have hD : va_D _ [(mo, .inr (7, [vI 1, .ref no, .ref th, .ref pa, vI ss, .ref sl, .ref sv, .ref tx, vI ty])), (no, .inl (cy 1, 118, .inl (iA a))), (sl, .inl (cy 1, 236, .inl (iA asl))), (sv, .inl (cy 2, 2, .inl (iA asv)))] := hD
    refine rr_ifP_eq F (tgt := 38) dX7_restore_33 (by decide) (fun c_33 => ?_) (fun c_33 => ?_)
    · exfalso; omega
    · exfalso; omega
set_option maxRecDepth 100000 in
set_option maxHeartbeats 4000000 in
theorem n_X7_restore (l : Launch) (D : va_G) (cy : Nat → ClassId) (mo no th pa sl sv tx : Nat) (tr ss ty : Int) (a asl asv : Int → Int) (x : Int) (hM : MR a) (hx : inR x) (hv : ∀ j, 0 ≤ j → j < 2 → asv j = 0 ∨ asv j = 1) (hbad : ¬ ((0 ≤ x ∧ x ≤ 1) ∧ asv x = 1)) : Wr l yX7_restore cX7_restore 3 (some FieldType.int) 1 [.ref mo, vI x] D cy [(mo, .inr (7, [vI tr, .ref no, .ref th, .ref pa, vI ss, .ref sl, .ref sv, .ref tx, vI ty])), (no, .inl (cy 1, 118, .inl (iA a))), (sl, .inl (cy 1, 236, .inl (iA asl))), (sv, .inl (cy 2, 2, .inl (iA asv)))] [(mo, .inr (7, [vI (if 0 ≤ x ∧ x ≤ 1 then 2 else 1), .ref no, .ref th, .ref pa, vI ss, .ref sl, .ref sv, .ref tx, vI ty])), (no, .inl (cy 1, 118, .inl (iA a))), (sl, .inl (cy 1, 236, .inl (iA asl))), (sv, .inl (cy 2, 2, .inl (iA asv)))] (some (vI 0)) := by
  refine Wr.of RX7 rfl [(0, .ref mo), (1, vI x)] rfl (by decide +kernel) (Nat.le_of_ble_eq_true rfl) ?_
  intro p e s m args below meth c F hr hlocks hK hP hD hS hA ls hl
  have hn0 := hM.n
  have hw0 := hM.nw
  have hc0 := hM.wc
  refine lv_iload_n F.1 F.2.1 dX7_restore_0 rfl (lv_at hl 1 rfl) ?_
  refine rr_iconst F dX7_restore_1 ?_
  refine rr_iconst F dX7_restore_2 ?_
  refine rr_rdS (rest := []) F hK (c_X7_in l D cy x 0 1 (by first | assumption | omega | exact ⟨by omega, by omega⟩) (by first | assumption | omega | exact ⟨by omega, by omega⟩) (by first | assumption | omega | exact ⟨by omega, by omega⟩)) (hP.sub [] rfl) sf_X7_in tw921 ⟨Nat.le_of_ble_eq_true rfl, Nat.le_of_ble_eq_true rfl⟩ hl rfl (Nat.le_of_ble_eq_true rfl) dX7_restore_3 ⟨Nat.zero_le _, Nat.zero_le _⟩ ?_
  refine lv_istore_n (lv' := [(2, vI (b2i (pB (0 ≤ x ∧ x ≤ 1)))), (0, .ref mo), (1, vI x)]) F.1 F.2.1 dX7_restore_6 rfl hl (by decide) rfl (fun ls hl => ?_)
  refine lv_aload_n F.1 F.2.1 dX7_restore_7 rfl (lv_at hl 1 rfl) ?_
  refine lv_iload_n F.1 F.2.1 dX7_restore_8 rfl (lv_at hl 0 rfl) ?_
  refine rr_ifP_ne F (tgt := 16) dX7_restore_9 (by decide) (fun c_9 => ?_) (fun c_9 => ?_)
  · refine lv_aload_n F.1 F.2.1 dX7_restore_16 rfl (lv_at hl 1 rfl) ?_
    refine gf7_6 F hK hP 0 rfl tw880 dX7_restore_17 ?_
    refine lv_iload_n F.1 F.2.1 dX7_restore_20 rfl (lv_at hl 2 rfl) ?_
    refine rr_zald F hK hP 3 rfl (by omega) (by omega) (by decide) dX7_restore_21 ?_
    have hvx := hv x (by omega) (by omega)
    refine rr_if_eq F (tgt := 29) dX7_restore_22 (by decide) ⟨by omega, by omega⟩ (fun c_22 => ?_) (fun c_22 => ?_)
    · refine rr_iconst F dX7_restore_29 ?_
      refine rr_wrV (rest := []) (wr := [(no, .inl (cy 1, 118, .inl (iA a))), (sl, .inl (cy 1, 236, .inl (iA asl))), (sv, .inl (cy 2, 2, .inl (iA asv)))]) (ws2 := [(mo, .inr (7, [vI 2, .ref no, .ref th, .ref pa, vI ss, .ref sl, .ref sv, .ref tx, vI ty])), (no, .inl (cy 1, 118, .inl (iA a))), (sl, .inl (cy 1, 236, .inl (iA asl))), (sv, .inl (cy 2, 2, .inl (iA asv)))]) F hK (c_X7_refuses l D cy mo no th pa sl sv tx tr ss ty 2 (by first | assumption | omega | exact ⟨by omega, by omega⟩)) hP hD hS hA sf_X7_refuses tw910 7 rfl rfl ⟨Nat.le_of_ble_eq_true rfl, Nat.le_of_ble_eq_true rfl⟩ hl rfl (Nat.le_of_ble_eq_true rfl) dX7_restore_30 ⟨Nat.zero_le _, Nat.zero_le _⟩ [0] [1, 2, 3] [3, 0, 1, 2] rfl rfl (by decide) (by decide) (by decide) rfl rfl (by decide) (fun H locs hP hD hS => ?_)
      have hP : va_P D vwCl [(mo, .inr (7, [vI 2, .ref no, .ref th, .ref pa, vI ss, .ref sl, .ref sv, .ref tx, vI ty])), (no, .inl (cy 1, 118, .inl (iA a))), (sl, .inl (cy 1, 236, .inl (iA asl))), (sv, .inl (cy 2, 2, .inl (iA asv)))] H := hP
      have hD : va_D _ [(mo, .inr (7, [vI 2, .ref no, .ref th, .ref pa, vI ss, .ref sl, .ref sv, .ref tx, vI ty])), (no, .inl (cy 1, 118, .inl (iA a))), (sl, .inl (cy 1, 236, .inl (iA asl))), (sv, .inl (cy 2, 2, .inl (iA asv)))] := hD
      refine rr_ifP_eq F (tgt := 38) dX7_restore_33 (by decide) (fun c_33 => ?_) (fun c_33 => ?_)
      · exfalso; omega
      · refine rr_iconst F dX7_restore_36 ?_
        exact rr_wiret F hr hlocks dX7_restore_37 hP hS (by repeat' (first | rfl | split | omega)) (rfl)
    · refine rr_iconst F dX7_restore_25 ?_
      refine lv_goto (tgt := 30) F.1 F.2.1 dX7_restore_26 (by decide) ?_
      refine rr_wrV (rest := []) (wr := [(no, .inl (cy 1, 118, .inl (iA a))), (sl, .inl (cy 1, 236, .inl (iA asl))), (sv, .inl (cy 2, 2, .inl (iA asv)))]) (ws2 := [(mo, .inr (7, [vI 0, .ref no, .ref th, .ref pa, vI ss, .ref sl, .ref sv, .ref tx, vI ty])), (no, .inl (cy 1, 118, .inl (iA a))), (sl, .inl (cy 1, 236, .inl (iA asl))), (sv, .inl (cy 2, 2, .inl (iA asv)))]) F hK (c_X7_refuses l D cy mo no th pa sl sv tx tr ss ty 0 (by first | assumption | omega | exact ⟨by omega, by omega⟩)) hP hD hS hA sf_X7_refuses tw910 7 rfl rfl ⟨Nat.le_of_ble_eq_true rfl, Nat.le_of_ble_eq_true rfl⟩ hl rfl (Nat.le_of_ble_eq_true rfl) dX7_restore_30 ⟨Nat.zero_le _, Nat.zero_le _⟩ [0] [1, 2, 3] [3, 0, 1, 2] rfl rfl (by decide) (by decide) (by decide) rfl rfl (by decide) (fun H locs hP hD hS => ?_)
      have hP : va_P D vwCl [(mo, .inr (7, [vI 0, .ref no, .ref th, .ref pa, vI ss, .ref sl, .ref sv, .ref tx, vI ty])), (no, .inl (cy 1, 118, .inl (iA a))), (sl, .inl (cy 1, 236, .inl (iA asl))), (sv, .inl (cy 2, 2, .inl (iA asv)))] H := hP
      have hD : va_D _ [(mo, .inr (7, [vI 0, .ref no, .ref th, .ref pa, vI ss, .ref sl, .ref sv, .ref tx, vI ty])), (no, .inl (cy 1, 118, .inl (iA a))), (sl, .inl (cy 1, 236, .inl (iA asl))), (sv, .inl (cy 2, 2, .inl (iA asv)))] := hD
      refine rr_ifP_eq F (tgt := 38) dX7_restore_33 (by decide) (fun c_33 => ?_) (fun c_33 => ?_)
      · exfalso; omega
      · exfalso; omega
  · refine rr_iconst F dX7_restore_12 ?_
    refine lv_goto (tgt := 30) F.1 F.2.1 dX7_restore_13 (by decide) ?_
    refine rr_wrV (rest := []) (wr := [(no, .inl (cy 1, 118, .inl (iA a))), (sl, .inl (cy 1, 236, .inl (iA asl))), (sv, .inl (cy 2, 2, .inl (iA asv)))]) (ws2 := [(mo, .inr (7, [vI 1, .ref no, .ref th, .ref pa, vI ss, .ref sl, .ref sv, .ref tx, vI ty])), (no, .inl (cy 1, 118, .inl (iA a))), (sl, .inl (cy 1, 236, .inl (iA asl))), (sv, .inl (cy 2, 2, .inl (iA asv)))]) F hK (c_X7_refuses l D cy mo no th pa sl sv tx tr ss ty 1 (by first | assumption | omega | exact ⟨by omega, by omega⟩)) hP hD hS hA sf_X7_refuses tw910 7 rfl rfl ⟨Nat.le_of_ble_eq_true rfl, Nat.le_of_ble_eq_true rfl⟩ hl rfl (Nat.le_of_ble_eq_true rfl) dX7_restore_30 ⟨Nat.zero_le _, Nat.zero_le _⟩ [0] [1, 2, 3] [3, 0, 1, 2] rfl rfl (by decide) (by decide) (by decide) rfl rfl (by decide) (fun H locs hP hD hS => ?_)
    have hP : va_P D vwCl [(mo, .inr (7, [vI 1, .ref no, .ref th, .ref pa, vI ss, .ref sl, .ref sv, .ref tx, vI ty])), (no, .inl (cy 1, 118, .inl (iA a))), (sl, .inl (cy 1, 236, .inl (iA asl))), (sv, .inl (cy 2, 2, .inl (iA asv)))] H := hP
    have hD : va_D _ [(mo, .inr (7, [vI 1, .ref no, .ref th, .ref pa, vI ss, .ref sl, .ref sv, .ref tx, vI ty])), (no, .inl (cy 1, 118, .inl (iA a))), (sl, .inl (cy 1, 236, .inl (iA asl))), (sv, .inl (cy 2, 2, .inl (iA asv)))] := hD
    refine rr_ifP_eq F (tgt := 38) dX7_restore_33 (by decide) (fun c_33 => ?_) (fun c_33 => ?_)
    · exfalso; omega
    · refine rr_iconst F dX7_restore_36 ?_
      exact rr_wiret F hr hlocks dX7_restore_37 hP hS (by repeat' (first | rfl | split | omega)) (rfl)
