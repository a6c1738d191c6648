set_option maxRecDepth 100000 in
set_option maxHeartbeats 4000000 in
theorem c_X7_append (l : Launch) (D : va_G) (cy : Nat → ClassId) (mo no th pa sl sv tx : Nat) (tr ss ty : Int) (tc : Int → Int) (x : Int) (hT : (0 ≤ ty ∧ ty ≤ 40) ∧ CH 40 tc) (hx : inR x) (h1 : 0 ≤ x ∧ x ≤ 255) (h2 : ty < 40) : Wr l yX7_append cX7_append 2 (some FieldType.int) 1 [.ref mo, vI x] D cy [(mo, .inr (7, [vI tr, .ref no, .ref th, .ref pa, vI ss, .ref sl, .ref sv, .ref tx, vI ty])), (tx, .inl (cy 0, 40, .inl (iA tc)))] [(mo, .inr (7, [vI 0, .ref no, .ref th, .ref pa, vI ss, .ref sl, .ref sv, .ref tx, vI (ty + 1)])), (tx, .inl (cy 0, 40, .inl (iA (updZ tc ty x))))] (some (vI (ty + 1))) := by
  refine Wr.of RX7 rfl [(0, .ref mo), (1, vI x)] rfl (by decide +kernel) (Nat.le_of_ble_eq_true rfl) ?_
  intro p e s m args below meth c F hr hlocks hK hP hD hS hA ls hl
  obtain ⟨ht0, ht1⟩ := id hT
  refine lv_aload_n F.1 F.2.1 dX7_append_0 rfl (lv_at hl 0 rfl) ?_
  refine lv_iload_n F.1 F.2.1 dX7_append_1 rfl (lv_at hl 1 rfl) ?_
  refine rr_iconst F dX7_append_2 ?_
  refine rr_sipush F dX7_append_3 (by decide) ?_
  refine rr_rdS (rest := [.ref mo]) F hK (c_X7_in l D cy x 0 255 (by first | assumption | omega | exact ⟨by omega, by omega⟩) (by first | assumption | omega | exact ⟨by omega, by omega⟩) (by first | assumption | omega | exact ⟨by omega, by omega⟩)) (hP.sub [] rfl) sf_X7_in tw921 ⟨Nat.le_of_ble_eq_true rfl, Nat.le_of_ble_eq_true rfl⟩ hl rfl (Nat.le_of_ble_eq_true rfl) dX7_append_6 ⟨Nat.zero_le _, Nat.zero_le _⟩ ?_
  refine rr_ifP_ne F (tgt := 16) dX7_append_9 (by decide) (fun c_9 => ?_) (fun c_9 => ?_)
  · refine lv_aload_n F.1 F.2.1 dX7_append_16 rfl (lv_at hl 0 rfl) ?_
    refine gf7_8 F hK hP 0 rfl tw882 dX7_append_17 ?_
    refine rr_bipush F dX7_append_20 (by decide) ?_
    refine rr_icmp_ne F (tgt := 29) dX7_append_22 (by decide) ⟨by omega, by omega⟩ ⟨by omega, by omega⟩ (fun c_22 => ?_) (fun c_22 => ?_)
    · refine rr_iconst F dX7_append_29 ?_
      refine rr_wrV (rest := []) (wr := [(tx, .inl (cy 0, 40, .inl (iA tc)))]) (ws2 := [(mo, .inr (7, [vI 0, .ref no, .ref th, .ref pa, vI ss, .ref sl, .ref sv, .ref tx, vI ty])), (tx, .inl (cy 0, 40, .inl (iA tc)))]) F hK (c_X7_refuses l D cy mo no th pa sl sv tx tr ss ty 0 (by first | assumption | omega | exact ⟨by omega, by omega⟩)) hP hD hS hA sf_X7_refuses tw910 7 rfl rfl ⟨Nat.le_of_ble_eq_true rfl, Nat.le_of_ble_eq_true rfl⟩ hl rfl (Nat.le_of_ble_eq_true rfl) dX7_append_30 ⟨Nat.zero_le _, Nat.zero_le _⟩ [0] [1] [1, 0] rfl rfl (by decide) (by decide) (by decide) rfl rfl (by decide) (fun H locs hP hD hS => ?_)
      have hP : va_P D vwCl [(mo, .inr (7, [vI 0, .ref no, .ref th, .ref pa, vI ss, .ref sl, .ref sv, .ref tx, vI ty])), (tx, .inl (cy 0, 40, .inl (iA tc)))] H := hP
      have hD : va_D _ [(mo, .inr (7, [vI 0, .ref no, .ref th, .ref pa, vI ss, .ref sl, .ref sv, .ref tx, vI ty])), (tx, .inl (cy 0, 40, .inl (iA tc)))] := hD
      refine rr_ifP_eq F (tgt := 38) dX7_append_33 (by decide) (fun c_33 => ?_) (fun c_33 => ?_)
      · refine lv_aload_n F.1 F.2.1 dX7_append_38 rfl (lv_at hl 0 rfl) ?_
        refine gf7_7 F hK hP 0 rfl tw881 dX7_append_39 ?_
        refine lv_aload_n F.1 F.2.1 dX7_append_42 rfl (lv_at hl 0 rfl) ?_
        refine gf7_8 F hK hP 0 rfl tw882 dX7_append_43 ?_
        refine lv_iload_n F.1 F.2.1 dX7_append_46 rfl (lv_at hl 1 rfl) ?_
        refine rr_i2c F dX7_append_47 ⟨by omega, by omega⟩ ?_
        refine rr_cast F hK hP hD hS 1 rfl (by omega) (by omega) (by decide) ⟨by omega, by omega⟩ dX7_append_48 (fun H locs hP hD hS => ?_)
        have hP : va_P D vwCl [(mo, .inr (7, [vI 0, .ref no, .ref th, .ref pa, vI ss, .ref sl, .ref sv, .ref tx, vI ty])), (tx, .inl (cy 0, 40, .inl (iA (updZ tc ty x))))] H := hP
        have hD : va_D _ [(mo, .inr (7, [vI 0, .ref no, .ref th, .ref pa, vI ss, .ref sl, .ref sv, .ref tx, vI ty])), (tx, .inl (cy 0, 40, .inl (iA (updZ tc ty x))))] := hD
        refine lv_aload_n F.1 F.2.1 dX7_append_49 rfl (lv_at hl 0 rfl) ?_
        refine lv_dup F.1 F.2.1 dX7_append_50 rfl ?_
        refine gf7_8 F hK hP 0 rfl tw882 dX7_append_51 ?_
        refine rr_iconst F dX7_append_54 ?_
        refine rr_iadd F (z := ty + 1) dX7_append_55 (by first | rfl | omega) ?_
        refine pf7_8 F hK hP hD hS 0 rfl tw882 dX7_append_56 (fun H locs hP hD hS => ?_)
        have hP : va_P D vwCl [(mo, .inr (7, [vI 0, .ref no, .ref th, .ref pa, vI ss, .ref sl, .ref sv, .ref tx, vI (ty + 1)])), (tx, .inl (cy 0, 40, .inl (iA (updZ tc ty x))))] H := hP
        have hD : va_D _ [(mo, .inr (7, [vI 0, .ref no, .ref th, .ref pa, vI ss, .ref sl, .ref sv, .ref tx, vI (ty + 1)])), (tx, .inl (cy 0, 40, .inl (iA (updZ tc ty x))))] := hD
        refine lv_aload_n F.1 F.2.1 dX7_append_59 rfl (lv_at hl 0 rfl) ?_
        refine gf7_8 F hK hP 0 rfl tw882 dX7_append_60 ?_
        exact rr_wiret F hr hlocks dX7_append_63 hP hS (rfl) (by first | rfl | omega)
      · exfalso; omega
    · refine rr_iconst F dX7_append_25 ?_
      refine lv_goto (tgt := 30) F.1 F.2.1 dX7_append_26 (by decide) ?_
      refine rr_wrV (rest := []) (wr := [(tx, .inl (cy 0, 40, .inl (iA tc)))]) (ws2 := [(mo, .inr (7, [vI 2, .ref no, .ref th, .ref pa, vI ss, .ref sl, .ref sv, .ref tx, vI ty])), (tx, .inl (cy 0, 40, .inl (iA tc)))]) F hK (c_X7_refuses l D cy mo no th pa sl sv tx tr ss ty 2 (by first | assumption | omega | exact ⟨by omega, by omega⟩)) hP hD hS hA sf_X7_refuses tw910 7 rfl rfl ⟨Nat.le_of_ble_eq_true rfl, Nat.le_of_ble_eq_true rfl⟩ hl rfl (Nat.le_of_ble_eq_true rfl) dX7_append_30 ⟨Nat.zero_le _, Nat.zero_le _⟩ [0] [1] [1, 0] rfl rfl (by decide) (by decide) (by decide) rfl rfl (by decide) (fun H locs hP hD hS => ?_)
      have hP : va_P D vwCl [(mo, .inr (7, [vI 2, .ref no, .ref th, .ref pa, vI ss, .ref sl, .ref sv, .ref tx, vI ty])), (tx, .inl (cy 0, 40, .inl (iA tc)))] H := hP
      have hD : va_D _ [(mo, .inr (7, [vI 2, .ref no, .ref th, .ref pa, vI ss, .ref sl, .ref sv, .ref tx, vI ty])), (tx, .inl (cy 0, 40, .inl (iA tc)))] := hD
      refine rr_ifP_eq F (tgt := 38) dX7_append_33 (by decide) (fun c_33 => ?_) (fun c_33 => ?_)
      · exfalso; omega
      · exfalso; omega
  · refine rr_iconst F dX7_append_12 ?_
    refine lv_goto (tgt := 30) F.1 F.2.1 dX7_append_13 (by decide) ?_
    refine rr_wrV (rest := []) (wr := [(tx, .inl (cy 0, 40, .inl (iA tc)))]) (ws2 := [(mo, .inr (7, [vI 1, .ref no, .ref th, .ref pa, vI ss, .ref sl, .ref sv, .ref tx, vI ty])), (tx, .inl (cy 0, 40, .inl (iA tc)))]) F hK (c_X7_refuses l D cy mo no th pa sl sv tx tr ss ty 1 (by first | assumption | omega | exact ⟨by omega, by omega⟩)) hP hD hS hA sf_X7_refuses tw910 7 rfl rfl ⟨Nat.le_of_ble_eq_true rfl, Nat.le_of_ble_eq_true rfl⟩ hl rfl (Nat.le_of_ble_eq_true rfl) dX7_append_30 ⟨Nat.zero_le _, Nat.zero_le _⟩ [0] [1] [1, 0] rfl rfl (by decide) (by decide) (by decide) rfl rfl (by decide) (fun H locs hP hD hS => ?_)
    have hP : va_P D vwCl [(mo, .inr (7, [vI 1, .ref no, .ref th, .ref pa, vI ss, .ref sl, .ref sv, .ref tx, vI ty])), (tx, .inl (cy 0, 40, .inl (iA tc)))] H := hP
    have hD : va_D _ [(mo, .inr (7, [vI 1, .ref no, .ref th, .ref pa, vI ss, .ref sl, .ref sv, .ref tx, vI ty])), (tx, .inl (cy 0, 40, .inl (iA tc)))] := hD
    refine rr_ifP_eq F (tgt := 38) dX7_append_33 (by decide) (fun c_33 => ?_) (fun c_33 => ?_)
    · exfalso; omega
    · exfalso; omega
set_option maxRecDepth 100000 in
set_option maxHeartbeats 4000000 in
theorem n_X7_append (l : Launch) (D : va_G) (cy : Nat → ClassId) (mo no th pa sl sv tx : Nat) (tr ss ty : Int) (tc : Int → Int) (x : Int) (hT : (0 ≤ ty ∧ ty ≤ 40) ∧ CH 40 tc) (hx : inR x) (hbad : ¬ ((0 ≤ x ∧ x ≤ 255) ∧ ty < 40)) : Wr l yX7_append cX7_append 2 (some FieldType.int) 1 [.ref mo, vI x] D cy [(mo, .inr (7, [vI tr, .ref no, .ref th, .ref pa, vI ss, .ref sl, .ref sv, .ref tx, vI ty])), (tx, .inl (cy 0, 40, .inl (iA tc)))] [(mo, .inr (7, [vI (if 0 ≤ x ∧ x ≤ 255 then 2 else 1), .ref no, .ref th, .ref pa, vI ss, .ref sl, .ref sv, .ref tx, vI ty])), (tx, .inl (cy 0, 40, .inl (iA tc)))] (some (vI 0)) := by
  refine Wr.of RX7 rfl [(0, .ref mo), (1, vI x)] rfl (by decide +kernel) (Nat.le_of_ble_eq_true rfl) ?_
  intro p e s m args below meth c F hr hlocks hK hP hD hS hA ls hl
  obtain ⟨ht0, ht1⟩ := id hT
  refine lv_aload_n F.1 F.2.1 dX7_append_0 rfl (lv_at hl 0 rfl) ?_
  refine lv_iload_n F.1 F.2.1 dX7_append_1 rfl (lv_at hl 1 rfl) ?_
  refine rr_iconst F dX7_append_2 ?_
  refine rr_sipush F dX7_append_3 (by decide) ?_
  refine rr_rdS (rest := [.ref mo]) F hK (c_X7_in l D cy x 0 255 (by first | assumption | omega | exact ⟨by omega, by omega⟩) (by first | assumption | omega | exact ⟨by omega, by omega⟩) (by first | assumption | omega | exact ⟨by omega, by omega⟩)) (hP.sub [] rfl) sf_X7_in tw921 ⟨Nat.le_of_ble_eq_true rfl, Nat.le_of_ble_eq_true rfl⟩ hl rfl (Nat.le_of_ble_eq_true rfl) dX7_append_6 ⟨Nat.zero_le _, Nat.zero_le _⟩ ?_
  refine rr_ifP_ne F (tgt := 16) dX7_append_9 (by decide) (fun c_9 => ?_) (fun c_9 => ?_)
  · refine lv_aload_n F.1 F.2.1 dX7_append_16 rfl (lv_at hl 0 rfl) ?_
    refine gf7_8 F hK hP 0 rfl tw882 dX7_append_17 ?_
    refine rr_bipush F dX7_append_20 (by decide) ?_
    refine rr_icmp_ne F (tgt := 29) dX7_append_22 (by decide) ⟨by omega, by omega⟩ ⟨by omega, by omega⟩ (fun c_22 => ?_) (fun c_22 => ?_)
    · refine rr_iconst F dX7_append_29 ?_
      refine rr_wrV (rest := []) (wr := [(tx, .inl (cy 0, 40, .inl (iA tc)))]) (ws2 := [(mo, .inr (7, [vI 0, .ref no, .ref th, .ref pa, vI ss, .ref sl, .ref sv, .ref tx, vI ty])), (tx, .inl (cy 0, 40, .inl (iA tc)))]) F hK (c_X7_refuses l D cy mo no th pa sl sv tx tr ss ty 0 (by first | assumption | omega | exact ⟨by omega, by omega⟩)) hP hD hS hA sf_X7_refuses tw910 7 rfl rfl ⟨Nat.le_of_ble_eq_true rfl, Nat.le_of_ble_eq_true rfl⟩ hl rfl (Nat.le_of_ble_eq_true rfl) dX7_append_30 ⟨Nat.zero_le _, Nat.zero_le _⟩ [0] [1] [1, 0] rfl rfl (by decide) (by decide) (by decide) rfl rfl (by decide) (fun H locs hP hD hS => ?_)
      have hP : va_P D vwCl [(mo, .inr (7, [vI 0, .ref no, .ref th, .ref pa, vI ss, .ref sl, .ref sv, .ref tx, vI ty])), (tx, .inl (cy 0, 40, .inl (iA tc)))] H := hP
      have hD : va_D _ [(mo, .inr (7, [vI 0, .ref no, .ref th, .ref pa, vI ss, .ref sl, .ref sv, .ref tx, vI ty])), (tx, .inl (cy 0, 40, .inl (iA tc)))] := hD
      refine rr_ifP_eq F (tgt := 38) dX7_append_33 (by decide) (fun c_33 => ?_) (fun c_33 => ?_)
      · exfalso; omega
      · exfalso; omega
    · refine rr_iconst F dX7_append_25 ?_
      refine lv_goto (tgt := 30) F.1 F.2.1 dX7_append_26 (by decide) ?_
      refine rr_wrV (rest := []) (wr := [(tx, .inl (cy 0, 40, .inl (iA tc)))]) (ws2 := [(mo, .inr (7, [vI 2, .ref no, .ref th, .ref pa, vI ss, .ref sl, .ref sv, .ref tx, vI ty])), (tx, .inl (cy 0, 40, .inl (iA tc)))]) F hK (c_X7_refuses l D cy mo no th pa sl sv tx tr ss ty 2 (by first | assumption | omega | exact ⟨by omega, by omega⟩)) hP hD hS hA sf_X7_refuses tw910 7 rfl rfl ⟨Nat.le_of_ble_eq_true rfl, Nat.le_of_ble_eq_true rfl⟩ hl rfl (Nat.le_of_ble_eq_true rfl) dX7_append_30 ⟨Nat.zero_le _, Nat.zero_le _⟩ [0] [1] [1, 0] rfl rfl (by decide) (by decide) (by decide) rfl rfl (by decide) (fun H locs hP hD hS => ?_)
      have hP : va_P D vwCl [(mo, .inr (7, [vI 2, .ref no, .ref th, .ref pa, vI ss, .ref sl, .ref sv, .ref tx, vI ty])), (tx, .inl (cy 0, 40, .inl (iA tc)))] H := hP
      have hD : va_D _ [(mo, .inr (7, [vI 2, .ref no, .ref th, .ref pa, vI ss, .ref sl, .ref sv, .ref tx, vI ty])), (tx, .inl (cy 0, 40, .inl (iA tc)))] := hD
      refine rr_ifP_eq F (tgt := 38) dX7_append_33 (by decide) (fun c_33 => ?_) (fun c_33 => ?_)
      · exfalso; omega
      · refine rr_iconst F dX7_append_36 ?_
        exact rr_wiret F hr hlocks dX7_append_37 hP hS (by repeat' (first | rfl | split | omega)) (rfl)
  · refine rr_iconst F dX7_append_12 ?_
    refine lv_goto (tgt := 30) F.1 F.2.1 dX7_append_13 (by decide) ?_
    refine rr_wrV (rest := []) (wr := [(tx, .inl (cy 0, 40, .inl (iA tc)))]) (ws2 := [(mo, .inr (7, [vI 1, .ref no, .ref th, .ref pa, vI ss, .ref sl, .ref sv, .ref tx, vI ty])), (tx, .inl (cy 0, 40, .inl (iA tc)))]) F hK (c_X7_refuses l D cy mo no th pa sl sv tx tr ss ty 1 (by first | assumption | omega | exact ⟨by omega, by omega⟩)) hP hD hS hA sf_X7_refuses tw910 7 rfl rfl ⟨Nat.le_of_ble_eq_true rfl, Nat.le_of_ble_eq_true rfl⟩ hl rfl (Nat.le_of_ble_eq_true rfl) dX7_append_30 ⟨Nat.zero_le _, Nat.zero_le _⟩ [0] [1] [1, 0] rfl rfl (by decide) (by decide) (by decide) rfl rfl (by decide) (fun H locs hP hD hS => ?_)
    have hP : va_P D vwCl [(mo, .inr (7, [vI 1, .ref no, .ref th, .ref pa, vI ss, .ref sl, .ref sv, .ref tx, vI ty])), (tx, .inl (cy 0, 40, .inl (iA tc)))] H := hP
    have hD : va_D _ [(mo, .inr (7, [vI 1, .ref no, .ref th, .ref pa, vI ss, .ref sl, .ref sv, .ref tx, vI ty])), (tx, .inl (cy 0, 40, .inl (iA tc)))] := hD
    refine rr_ifP_eq F (tgt := 38) dX7_append_33 (by decide) (fun c_33 => ?_) (fun c_33 => ?_)
    · exfalso; omega
    · refine rr_iconst F dX7_append_36 ?_
      exact rr_wiret F hr hlocks dX7_append_37 hP hS (by repeat' (first | rfl | split | omega)) (rfl)
set_option maxRecDepth 100000 in
set_option maxHeartbeats 4000000 in
theorem c_X7_clearText (l : Launch) (D : va_G) (cy : Nat → ClassId) (mo no th pa sl sv tx : Nat) (tr ss ty : Int)  : Wr l yX7_clearText cX7_clearText 2 (some FieldType.int) 0 [.ref mo] D cy [(mo, .inr (7, [vI tr, .ref no, .ref th, .ref pa, vI ss, .ref sl, .ref sv, .ref tx, vI ty]))] [(mo, .inr (7, [vI 0, .ref no, .ref th, .ref pa, vI ss, .ref sl, .ref sv, .ref tx, vI 0]))] (some (vI ty)) := by
  refine Wr.of RX7 rfl [(0, .ref mo)] rfl (by decide +kernel) (Nat.le_of_ble_eq_true rfl) ?_
  intro p e s m args below meth c F hr hlocks hK hP hD hS hA ls hl
  refine lv_aload_n F.1 F.2.1 dX7_clearText_0 rfl (lv_at hl 0 rfl) ?_
  refine rr_iconst F dX7_clearText_1 ?_
  refine pf7_0 F hK hP hD hS 0 rfl tw874 dX7_clearText_2 (fun H locs hP hD hS => ?_)
  have hP : va_P D vwCl [(mo, .inr (7, [vI 0, .ref no, .ref th, .ref pa, vI ss, .ref sl, .ref sv, .ref tx, vI ty]))] H := hP
  have hD : va_D _ [(mo, .inr (7, [vI 0, .ref no, .ref th, .ref pa, vI ss, .ref sl, .ref sv, .ref tx, vI ty]))] := hD
  refine lv_aload_n F.1 F.2.1 dX7_clearText_5 rfl (lv_at hl 0 rfl) ?_
  refine gf7_8 F hK hP 0 rfl tw882 dX7_clearText_6 ?_
  refine lv_istore_n (lv' := [(1, vI ty), (0, .ref mo)]) F.1 F.2.1 dX7_clearText_9 rfl hl (by decide) rfl (fun ls hl => ?_)
  refine lv_aload_n F.1 F.2.1 dX7_clearText_10 rfl (lv_at hl 1 rfl) ?_
  refine rr_iconst F dX7_clearText_11 ?_
  refine pf7_8 F hK hP hD hS 0 rfl tw882 dX7_clearText_12 (fun H locs hP hD hS => ?_)
  have hP : va_P D vwCl [(mo, .inr (7, [vI 0, .ref no, .ref th, .ref pa, vI ss, .ref sl, .ref sv, .ref tx, vI 0]))] H := hP
  have hD : va_D _ [(mo, .inr (7, [vI 0, .ref no, .ref th, .ref pa, vI ss, .ref sl, .ref sv, .ref tx, vI 0]))] := hD
  refine lv_iload_n F.1 F.2.1 dX7_clearText_15 rfl (lv_at hl 0 rfl) ?_
  exact rr_wiret F hr hlocks dX7_clearText_16 hP hS (rfl) (by first | rfl | omega)
set_option maxRecDepth 100000 in
set_option maxHeartbeats 4000000 in
theorem c_X7_errorPosition (l : Launch) (D : va_G) (cy : Nat → ClassId) (mo no th pa sl sv tx : Nat) (tr ss ty : Int) (tc : Int → Int) (fb : Int) (hT : (0 ≤ ty ∧ ty ≤ 40) ∧ CH 40 tc) (hf : fb = 0 ∨ fb = 1) : Wr l yX7_errorPosition cX7_errorPosition 2 (some FieldType.int) 2 [.ref mo, vI fb] D cy [(mo, .inr (7, [vI tr, .ref no, .ref th, .ref pa, vI ss, .ref sl, .ref sv, .ref tx, vI ty])), (tx, .inl (cy 0, 40, .inl (iA tc)))] [(mo, .inr (7, [vI 0, .ref no, .ref th, .ref pa, vI ss, .ref sl, .ref sv, .ref tx, vI ty])), (tx, .inl (cy 0, 40, .inl (iA tc)))] (some (vI (ferr ty tc fb))) := by
  refine Wr.of RX7 rfl [(0, .ref mo), (1, vI fb)] rfl (by decide +kernel) (Nat.le_of_ble_eq_true rfl) ?_
  intro p e s m args below meth c F hr hlocks hK hP hD hS hA ls hl
  refine lv_aload_n F.1 F.2.1 dX7_errorPosition_0 rfl (lv_at hl 0 rfl) ?_
  refine rr_iconst F dX7_errorPosition_1 ?_
  refine pf7_0 F hK hP hD hS 0 rfl tw874 dX7_errorPosition_2 (fun H locs hP hD hS => ?_)
  have hP : va_P D vwCl [(mo, .inr (7, [vI 0, .ref no, .ref th, .ref pa, vI ss, .ref sl, .ref sv, .ref tx, vI ty])), (tx, .inl (cy 0, 40, .inl (iA tc)))] H := hP
  have hD : va_D _ [(mo, .inr (7, [vI 0, .ref no, .ref th, .ref pa, vI ss, .ref sl, .ref sv, .ref tx, vI ty])), (tx, .inl (cy 0, 40, .inl (iA tc)))] := hD
  refine lv_aload_n F.1 F.2.1 dX7_errorPosition_5 rfl (lv_at hl 0 rfl) ?_
  refine lv_iload_n F.1 F.2.1 dX7_errorPosition_6 rfl (lv_at hl 1 rfl) ?_
  refine rr_rdV (rest := []) F hK (c_X7_error l D cy mo no th pa sl sv tx 0 ss ty tc fb (by first | assumption | omega | exact ⟨by omega, by omega⟩) (by first | assumption | omega | exact ⟨by omega, by omega⟩)) hP sf_X7_error tw932 7 rfl rfl ⟨Nat.le_of_ble_eq_true rfl, Nat.le_of_ble_eq_true rfl⟩ hl rfl (Nat.le_of_ble_eq_true rfl) dX7_errorPosition_7 ⟨Nat.zero_le _, Nat.zero_le _⟩ ?_
  have q_7_0 := (ferr_rng (tl := ty) (tc := tc) (fb := fb) (by omega))
  exact rr_wiret F hr hlocks dX7_errorPosition_10 hP hS (rfl) (by first | rfl | omega)
set_option maxRecDepth 100000 in
set_option maxHeartbeats 4000000 in
theorem c_X7_about (l : Launch) (D : va_G) (cy : Nat → ClassId) (mo no th pa sl sv tx : Nat) (tr ss ty : Int) (a : Int → Int) (x : Int) (hM : MR a) (hx : inR x) (h1 : 0 ≤ x ∧ x ≤ 8) : Wr l yX7_about cX7_about 2 (some FieldType.int) 4 [.ref mo, vI x] D cy [(mo, .inr (7, [vI tr, .ref no, .ref th, .ref pa, vI ss, .ref sl, .ref sv, .ref tx, vI ty])), (no, .inl (cy 1, 118, .inl (iA a)))] [(mo, .inr (7, [vI 0, .ref no, .ref th, .ref pa, vI ss, .ref sl, .ref sv, .ref tx, vI ty])), (no, .inl (cy 1, 118, .inl (iA a)))] (some (vI (abt (a 0) (rq a) (a 25) (a 96) (a 117) x))) := by
  refine Wr.of RX7 rfl [(0, .ref mo), (1, vI x)] rfl (by decide +kernel) (Nat.le_of_ble_eq_true rfl) ?_
  intro p e s m args below meth c F hr hlocks hK hP hD hS hA ls hl
  have hn0 := hM.n
  have hw0 := hM.nw
  have hc0 := hM.wc
  refine lv_aload_n F.1 F.2.1 dX7_about_0 rfl (lv_at hl 0 rfl) ?_
  refine lv_iload_n F.1 F.2.1 dX7_about_1 rfl (lv_at hl 1 rfl) ?_
  refine rr_iconst F dX7_about_2 ?_
  refine rr_bipush F dX7_about_3 (by decide) ?_
  refine rr_rdS (rest := [.ref mo]) F hK (c_X7_in l D cy x 0 8 (by first | assumption | omega | exact ⟨by omega, by omega⟩) (by first | assumption | omega | exact ⟨by omega, by omega⟩) (by first | assumption | omega | exact ⟨by omega, by omega⟩)) (hP.sub [] rfl) sf_X7_in tw921 ⟨Nat.le_of_ble_eq_true rfl, Nat.le_of_ble_eq_true rfl⟩ hl rfl (Nat.le_of_ble_eq_true rfl) dX7_about_5 ⟨Nat.zero_le _, Nat.zero_le _⟩ ?_
  refine rr_ifP_eq F (tgt := 15) dX7_about_8 (by decide) (fun c_8 => ?_) (fun c_8 => ?_)
  · refine rr_iconst F dX7_about_15 ?_
    refine rr_wrV (rest := []) (wr := [(no, .inl (cy 1, 118, .inl (iA a)))]) (ws2 := [(mo, .inr (7, [vI 1, .ref no, .ref th, .ref pa, vI ss, .ref sl, .ref sv, .ref tx, vI ty])), (no, .inl (cy 1, 118, .inl (iA a)))]) F hK (c_X7_refuses l D cy mo no th pa sl sv tx tr ss ty 1 (by first | assumption | omega | exact ⟨by omega, by omega⟩)) hP hD hS hA sf_X7_refuses tw910 7 rfl rfl ⟨Nat.le_of_ble_eq_true rfl, Nat.le_of_ble_eq_true rfl⟩ hl rfl (Nat.le_of_ble_eq_true rfl) dX7_about_16 ⟨Nat.zero_le _, Nat.zero_le _⟩ [0] [1] [1, 0] rfl rfl (by decide) (by decide) (by decide) rfl rfl (by decide) (fun H locs hP hD hS => ?_)
    have hP : va_P D vwCl [(mo, .inr (7, [vI 1, .ref no, .ref th, .ref pa, vI ss, .ref sl, .ref sv, .ref tx, vI ty])), (no, .inl (cy 1, 118, .inl (iA a)))] H := hP
    have hD : va_D _ [(mo, .inr (7, [vI 1, .ref no, .ref th, .ref pa, vI ss, .ref sl, .ref sv, .ref tx, vI ty])), (no, .inl (cy 1, 118, .inl (iA a)))] := hD
    refine rr_ifP_eq F (tgt := 26) dX7_about_19 (by decide) (fun c_19 => ?_) (fun c_19 => ?_)
    · exfalso; omega
    · exfalso; omega
  · refine rr_iconst F dX7_about_11 ?_
    refine lv_goto (tgt := 16) F.1 F.2.1 dX7_about_12 (by decide) ?_
    refine rr_wrV (rest := []) (wr := [(no, .inl (cy 1, 118, .inl (iA a)))]) (ws2 := [(mo, .inr (7, [vI 0, .ref no, .ref th, .ref pa, vI ss, .ref sl, .ref sv, .ref tx, vI ty])), (no, .inl (cy 1, 118, .inl (iA a)))]) F hK (c_X7_refuses l D cy mo no th pa sl sv tx tr ss ty 0 (by first | assumption | omega | exact ⟨by omega, by omega⟩)) hP hD hS hA sf_X7_refuses tw910 7 rfl rfl ⟨Nat.le_of_ble_eq_true rfl, Nat.le_of_ble_eq_true rfl⟩ hl rfl (Nat.le_of_ble_eq_true rfl) dX7_about_16 ⟨Nat.zero_le _, Nat.zero_le _⟩ [0] [1] [1, 0] rfl rfl (by decide) (by decide) (by decide) rfl rfl (by decide) (fun H locs hP hD hS => ?_)
    have hP : va_P D vwCl [(mo, .inr (7, [vI 0, .ref no, .ref th, .ref pa, vI ss, .ref sl, .ref sv, .ref tx, vI ty])), (no, .inl (cy 1, 118, .inl (iA a)))] H := hP
    have hD : va_D _ [(mo, .inr (7, [vI 0, .ref no, .ref th, .ref pa, vI ss, .ref sl, .ref sv, .ref tx, vI ty])), (no, .inl (cy 1, 118, .inl (iA a)))] := hD
    refine rr_ifP_eq F (tgt := 26) dX7_about_19 (by decide) (fun c_19 => ?_) (fun c_19 => ?_)
    · refine lv_aload_n F.1 F.2.1 dX7_about_26 rfl (lv_at hl 0 rfl) ?_
      refine lv_iload_n F.1 F.2.1 dX7_about_27 rfl (lv_at hl 1 rfl) ?_
      refine rr_rdV (rest := []) F hK (c_X7_abouts l D cy mo no th pa sl sv tx 0 ss ty a x (by first | assumption | omega | exact ⟨by omega, by omega⟩) (by first | assumption | omega | exact ⟨by omega, by omega⟩)) hP sf_X7_abouts tw940 7 rfl rfl ⟨Nat.le_of_ble_eq_true rfl, Nat.le_of_ble_eq_true rfl⟩ hl rfl (Nat.le_of_ble_eq_true rfl) dX7_about_28 ⟨Nat.zero_le _, Nat.zero_le _⟩ ?_
      exact rr_wiret F hr hlocks dX7_about_31 hP hS (rfl) (by first | rfl | omega)
    · exfalso; omega
set_option maxRecDepth 100000 in
set_option maxHeartbeats 4000000 in
theorem n_X7_about (l : Launch) (D : va_G) (cy : Nat → ClassId) (mo no th pa sl sv tx : Nat) (tr ss ty : Int) (a : Int → Int) (x : Int) (hM : MR a) (hx : inR x) (hbad : ¬ (0 ≤ x ∧ x ≤ 8)) : Wr l yX7_about cX7_about 2 (some FieldType.int) 1 [.ref mo, vI x] D cy [(mo, .inr (7, [vI tr, .ref no, .ref th, .ref pa, vI ss, .ref sl, .ref sv, .ref tx, vI ty])), (no, .inl (cy 1, 118, .inl (iA a)))] [(mo, .inr (7, [vI 1, .ref no, .ref th, .ref pa, vI ss, .ref sl, .ref sv, .ref tx, vI ty])), (no, .inl (cy 1, 118, .inl (iA a)))] (some (vI 0)) := by
  refine Wr.of RX7 rfl [(0, .ref mo), (1, vI x)] rfl (by decide +kernel) (Nat.le_of_ble_eq_true rfl) ?_
  intro p e s m args below meth c F hr hlocks hK hP hD hS hA ls hl
  have hn0 := hM.n
  have hw0 := hM.nw
  have hc0 := hM.wc
  refine lv_aload_n F.1 F.2.1 dX7_about_0 rfl (lv_at hl 0 rfl) ?_
  refine lv_iload_n F.1 F.2.1 dX7_about_1 rfl (lv_at hl 1 rfl) ?_
  refine rr_iconst F dX7_about_2 ?_
  refine rr_bipush F dX7_about_3 (by decide) ?_
  refine rr_rdS (rest := [.ref mo]) F hK (c_X7_in l D cy x 0 8 (by first | assumption | omega | exact ⟨by omega, by omega⟩) (by first | assumption | omega | exact ⟨by omega, by omega⟩) (by first | assumption | omega | exact ⟨by omega, by omega⟩)) (hP.sub [] rfl) sf_X7_in tw921 ⟨Nat.le_of_ble_eq_true rfl, Nat.le_of_ble_eq_true rfl⟩ hl rfl (Nat.le_of_ble_eq_true rfl) dX7_about_5 ⟨Nat.zero_le _, Nat.zero_le _⟩ ?_
  refine rr_ifP_eq F (tgt := 15) dX7_about_8 (by decide) (fun c_8 => ?_) (fun c_8 => ?_)
  · refine rr_iconst F dX7_about_15 ?_
    refine rr_wrV (rest := []) (wr := [(no, .inl (cy 1, 118, .inl (iA a)))]) (ws2 := [(mo, .inr (7, [vI 1, .ref no, .ref th, .ref pa, vI ss, .ref sl, .ref sv, .ref tx, vI ty])), (no, .inl (cy 1, 118, .inl (iA a)))]) F hK (c_X7_refuses l D cy mo no th pa sl sv tx tr ss ty 1 (by first | assumption | omega | exact ⟨by omega, by omega⟩)) hP hD hS hA sf_X7_refuses tw910 7 rfl rfl ⟨Nat.le_of_ble_eq_true rfl, Nat.le_of_ble_eq_true rfl⟩ hl rfl (Nat.le_of_ble_eq_true rfl) dX7_about_16 ⟨Nat.zero_le _, Nat.zero_le _⟩ [0] [1] [1, 0] rfl rfl (by decide) (by decide) (by decide) rfl rfl (by decide) (fun H locs hP hD hS => ?_)
    have hP : va_P D vwCl [(mo, .inr (7, [vI 1, .ref no, .ref th, .ref pa, vI ss, .ref sl, .ref sv, .ref tx, vI ty])), (no, .inl (cy 1, 118, .inl (iA a)))] H := hP
    have hD : va_D _ [(mo, .inr (7, [vI 1, .ref no, .ref th, .ref pa, vI ss, .ref sl, .ref sv, .ref tx, vI ty])), (no, .inl (cy 1, 118, .inl (iA a)))] := hD
    refine rr_ifP_eq F (tgt := 26) dX7_about_19 (by decide) (fun c_19 => ?_) (fun c_19 => ?_)
    · exfalso; omega
    · refine rr_iconst F dX7_about_22 ?_
      refine lv_goto (tgt := 31) F.1 F.2.1 dX7_about_23 (by decide) ?_
      exact rr_wiret F hr hlocks dX7_about_31 hP hS (by repeat' (first | rfl | split | omega)) (rfl)
  · refine rr_iconst F dX7_about_11 ?_
    refine lv_goto (tgt := 16) F.1 F.2.1 dX7_about_12 (by decide) ?_
    refine rr_wrV (rest := []) (wr := [(no, .inl (cy 1, 118, .inl (iA a)))]) (ws2 := [(mo, .inr (7, [vI 0, .ref no, .ref th, .ref pa, vI ss, .ref sl, .ref sv, .ref tx, vI ty])), (no, .inl (cy 1, 118, .inl (iA a)))]) F hK (c_X7_refuses l D cy mo no th pa sl sv tx tr ss ty 0 (by first | assumption | omega | exact ⟨by omega, by omega⟩)) hP hD hS hA sf_X7_refuses tw910 7 rfl rfl ⟨Nat.le_of_ble_eq_true rfl, Nat.le_of_ble_eq_true rfl⟩ hl rfl (Nat.le_of_ble_eq_true rfl) dX7_about_16 ⟨Nat.zero_le _, Nat.zero_le _⟩ [0] [1] [1, 0] rfl rfl (by decide) (by decide) (by decide) rfl rfl (by decide) (fun H locs hP hD hS => ?_)
    have hP : va_P D vwCl [(mo, .inr (7, [vI 0, .ref no, .ref th, .ref pa, vI ss, .ref sl, .ref sv, .ref tx, vI ty])), (no, .inl (cy 1, 118, .inl (iA a)))] H := hP
    have hD : va_D _ [(mo, .inr (7, [vI 0, .ref no, .ref th, .ref pa, vI ss, .ref sl, .ref sv, .ref tx, vI ty])), (no, .inl (cy 1, 118, .inl (iA a)))] := hD
    refine rr_ifP_eq F (tgt := 26) dX7_about_19 (by decide) (fun c_19 => ?_) (fun c_19 => ?_)
    · exfalso; omega
    · exfalso; omega
set_option maxRecDepth 100000 in
set_option maxHeartbeats 4000000 in
theorem c_X7_at (l : Launch) (D : va_G) (cy : Nat → ClassId) (mo no th pa sl sv tx : Nat) (tr ss ty : Int) (a : Int → Int) (i : Int) (hM : MR a) (hi : inR i) (h1 : 0 ≤ i ∧ i < a 0) : Wr l yX7_at cX7_at 2 (some FieldType.int) 2 [.ref mo, vI i] D cy [(mo, .inr (7, [vI tr, .ref no, .ref th, .ref pa, vI ss, .ref sl, .ref sv, .ref tx, vI ty])), (no, .inl (cy 1, 118, .inl (iA a)))] [(mo, .inr (7, [vI 0, .ref no, .ref th, .ref pa, vI ss, .ref sl, .ref sv, .ref tx, vI ty])), (no, .inl (cy 1, 118, .inl (iA a)))] (some (vI (sc (a (1 + i))))) := by
  refine Wr.of RX7 rfl [(0, .ref mo), (1, vI i)] rfl (by decide +kernel) (Nat.le_of_ble_eq_true rfl) ?_
  intro p e s m args below meth c F hr hlocks hK hP hD hS hA ls hl
  have hn0 := hM.n
  have hw0 := hM.nw
  have hc0 := hM.wc
  refine lv_aload_n F.1 F.2.1 dX7_at_0 rfl (lv_at hl 0 rfl) ?_
  refine lv_aload_n F.1 F.2.1 dX7_at_1 rfl (lv_at hl 0 rfl) ?_
  refine lv_iload_n F.1 F.2.1 dX7_at_2 rfl (lv_at hl 1 rfl) ?_
  refine rr_rdV (rest := [.ref mo]) F hK (c_X7_isPlace l D cy mo no th pa sl sv tx tr ss ty a i (by first | assumption | omega | exact ⟨by omega, by omega⟩) (by first | assumption | omega | exact ⟨by omega, by omega⟩)) hP sf_X7_isPlace tw985 7 rfl rfl ⟨Nat.le_of_ble_eq_true rfl, Nat.le_of_ble_eq_true rfl⟩ hl rfl (Nat.le_of_ble_eq_true rfl) dX7_at_3 ⟨Nat.zero_le _, Nat.zero_le _⟩ ?_
  refine rr_ifP_eq F (tgt := 13) dX7_at_6 (by decide) (fun c_6 => ?_) (fun c_6 => ?_)
  · refine rr_iconst F dX7_at_13 ?_
    refine rr_wrV (rest := []) (wr := [(no, .inl (cy 1, 118, .inl (iA a)))]) (ws2 := [(mo, .inr (7, [vI 1, .ref no, .ref th, .ref pa, vI ss, .ref sl, .ref sv, .ref tx, vI ty])), (no, .inl (cy 1, 118, .inl (iA a)))]) F hK (c_X7_refuses l D cy mo no th pa sl sv tx tr ss ty 1 (by first | assumption | omega | exact ⟨by omega, by omega⟩)) hP hD hS hA sf_X7_refuses tw910 7 rfl rfl ⟨Nat.le_of_ble_eq_true rfl, Nat.le_of_ble_eq_true rfl⟩ hl rfl (Nat.le_of_ble_eq_true rfl) dX7_at_14 ⟨Nat.zero_le _, Nat.zero_le _⟩ [0] [1] [1, 0] rfl rfl (by decide) (by decide) (by decide) rfl rfl (by decide) (fun H locs hP hD hS => ?_)
    have hP : va_P D vwCl [(mo, .inr (7, [vI 1, .ref no, .ref th, .ref pa, vI ss, .ref sl, .ref sv, .ref tx, vI ty])), (no, .inl (cy 1, 118, .inl (iA a)))] H := hP
    have hD : va_D _ [(mo, .inr (7, [vI 1, .ref no, .ref th, .ref pa, vI ss, .ref sl, .ref sv, .ref tx, vI ty])), (no, .inl (cy 1, 118, .inl (iA a)))] := hD
    refine rr_ifP_eq F (tgt := 24) dX7_at_17 (by decide) (fun c_17 => ?_) (fun c_17 => ?_)
    · exfalso; omega
    · exfalso; omega
  · refine rr_iconst F dX7_at_9 ?_
    refine lv_goto (tgt := 14) F.1 F.2.1 dX7_at_10 (by decide) ?_
    refine rr_wrV (rest := []) (wr := [(no, .inl (cy 1, 118, .inl (iA a)))]) (ws2 := [(mo, .inr (7, [vI 0, .ref no, .ref th, .ref pa, vI ss, .ref sl, .ref sv, .ref tx, vI ty])), (no, .inl (cy 1, 118, .inl (iA a)))]) F hK (c_X7_refuses l D cy mo no th pa sl sv tx tr ss ty 0 (by first | assumption | omega | exact ⟨by omega, by omega⟩)) hP hD hS hA sf_X7_refuses tw910 7 rfl rfl ⟨Nat.le_of_ble_eq_true rfl, Nat.le_of_ble_eq_true rfl⟩ hl rfl (Nat.le_of_ble_eq_true rfl) dX7_at_14 ⟨Nat.zero_le _, Nat.zero_le _⟩ [0] [1] [1, 0] rfl rfl (by decide) (by decide) (by decide) rfl rfl (by decide) (fun H locs hP hD hS => ?_)
    have hP : va_P D vwCl [(mo, .inr (7, [vI 0, .ref no, .ref th, .ref pa, vI ss, .ref sl, .ref sv, .ref tx, vI ty])), (no, .inl (cy 1, 118, .inl (iA a)))] H := hP
    have hD : va_D _ [(mo, .inr (7, [vI 0, .ref no, .ref th, .ref pa, vI ss, .ref sl, .ref sv, .ref tx, vI ty])), (no, .inl (cy 1, 118, .inl (iA a)))] := hD
    refine rr_ifP_eq F (tgt := 24) dX7_at_17 (by decide) (fun c_17 => ?_) (fun c_17 => ?_)
    · refine lv_aload_n F.1 F.2.1 dX7_at_24 rfl (lv_at hl 0 rfl) ?_
      refine gf7_1 F hK hP 0 rfl tw875 dX7_at_25 ?_
      refine rr_iconst F dX7_at_28 ?_
      refine lv_iload_n F.1 F.2.1 dX7_at_29 rfl (lv_at hl 1 rfl) ?_
      refine rr_iadd F (z := 1 + i) dX7_at_30 (by first | rfl | omega) ?_
      refine rr_iald F hK hP 1 rfl (by omega) (by omega) (by decide) dX7_at_31 ?_
      refine rr_rdS (rest := []) F hK (c_X7_codeOf l D cy (a (1 + i)) (hM.q (by omega) (by omega))) (hP.sub [] rfl) sf_X7_codeOf tw989 ⟨Nat.le_of_ble_eq_true rfl, Nat.le_of_ble_eq_true rfl⟩ hl rfl (Nat.le_of_ble_eq_true rfl) dX7_at_32 ⟨Nat.zero_le _, Nat.zero_le _⟩ ?_
      exact rr_wiret F hr hlocks dX7_at_35 hP hS (rfl) (by first | rfl | omega)
    · exfalso; omega
set_option maxRecDepth 100000 in
set_option maxHeartbeats 4000000 in
theorem n_X7_at (l : Launch) (D : va_G) (cy : Nat → ClassId) (mo no th pa sl sv tx : Nat) (tr ss ty : Int) (a : Int → Int) (i : Int) (hM : MR a) (hi : inR i) (hbad : ¬ (0 ≤ i ∧ i < a 0)) : Wr l yX7_at cX7_at 2 (some FieldType.int) 2 [.ref mo, vI i] D cy [(mo, .inr (7, [vI tr, .ref no, .ref th, .ref pa, vI ss, .ref sl, .ref sv, .ref tx, vI ty])), (no, .inl (cy 1, 118, .inl (iA a)))] [(mo, .inr (7, [vI 1, .ref no, .ref th, .ref pa, vI ss, .ref sl, .ref sv, .ref tx, vI ty])), (no, .inl (cy 1, 118, .inl (iA a)))] (some (vI 0)) := by
  refine Wr.of RX7 rfl [(0, .ref mo), (1, vI i)] rfl (by decide +kernel) (Nat.le_of_ble_eq_true rfl) ?_
  intro p e s m args below meth c F hr hlocks hK hP hD hS hA ls hl
  have hn0 := hM.n
  have hw0 := hM.nw
  have hc0 := hM.wc
  refine lv_aload_n F.1 F.2.1 dX7_at_0 rfl (lv_at hl 0 rfl) ?_
  refine lv_aload_n F.1 F.2.1 dX7_at_1 rfl (lv_at hl 0 rfl) ?_
  refine lv_iload_n F.1 F.2.1 dX7_at_2 rfl (lv_at hl 1 rfl) ?_
  refine rr_rdV (rest := [.ref mo]) F hK (c_X7_isPlace l D cy mo no th pa sl sv tx tr ss ty a i (by first | assumption | omega | exact ⟨by omega, by omega⟩) (by first | assumption | omega | exact ⟨by omega, by omega⟩)) hP sf_X7_isPlace tw985 7 rfl rfl ⟨Nat.le_of_ble_eq_true rfl, Nat.le_of_ble_eq_true rfl⟩ hl rfl (Nat.le_of_ble_eq_true rfl) dX7_at_3 ⟨Nat.zero_le _, Nat.zero_le _⟩ ?_
  refine rr_ifP_eq F (tgt := 13) dX7_at_6 (by decide) (fun c_6 => ?_) (fun c_6 => ?_)
  · refine rr_iconst F dX7_at_13 ?_
    refine rr_wrV (rest := []) (wr := [(no, .inl (cy 1, 118, .inl (iA a)))]) (ws2 := [(mo, .inr (7, [vI 1, .ref no, .ref th, .ref pa, vI ss, .ref sl, .ref sv, .ref tx, vI ty])), (no, .inl (cy 1, 118, .inl (iA a)))]) F hK (c_X7_refuses l D cy mo no th pa sl sv tx tr ss ty 1 (by first | assumption | omega | exact ⟨by omega, by omega⟩)) hP hD hS hA sf_X7_refuses tw910 7 rfl rfl ⟨Nat.le_of_ble_eq_true rfl, Nat.le_of_ble_eq_true rfl⟩ hl rfl (Nat.le_of_ble_eq_true rfl) dX7_at_14 ⟨Nat.zero_le _, Nat.zero_le _⟩ [0] [1] [1, 0] rfl rfl (by decide) (by decide) (by decide) rfl rfl (by decide) (fun H locs hP hD hS => ?_)
    have hP : va_P D vwCl [(mo, .inr (7, [vI 1, .ref no, .ref th, .ref pa, vI ss, .ref sl, .ref sv, .ref tx, vI ty])), (no, .inl (cy 1, 118, .inl (iA a)))] H := hP
    have hD : va_D _ [(mo, .inr (7, [vI 1, .ref no, .ref th, .ref pa, vI ss, .ref sl, .ref sv, .ref tx, vI ty])), (no, .inl (cy 1, 118, .inl (iA a)))] := hD
    refine rr_ifP_eq F (tgt := 24) dX7_at_17 (by decide) (fun c_17 => ?_) (fun c_17 => ?_)
    · exfalso; omega
    · refine rr_iconst F dX7_at_20 ?_
      refine lv_goto (tgt := 35) F.1 F.2.1 dX7_at_21 (by decide) ?_
      exact rr_wiret F hr hlocks dX7_at_35 hP hS (by repeat' (first | rfl | split | omega)) (rfl)
  · refine rr_iconst F dX7_at_9 ?_
    refine lv_goto (tgt := 14) F.1 F.2.1 dX7_at_10 (by decide) ?_
    refine rr_wrV (rest := []) (wr := [(no, .inl (cy 1, 118, .inl (iA a)))]) (ws2 := [(mo, .inr (7, [vI 0, .ref no, .ref th, .ref pa, vI ss, .ref sl, .ref sv, .ref tx, vI ty])), (no, .inl (cy 1, 118, .inl (iA a)))]) F hK (c_X7_refuses l D cy mo no th pa sl sv tx tr ss ty 0 (by first | assumption | omega | exact ⟨by omega, by omega⟩)) hP hD hS hA sf_X7_refuses tw910 7 rfl rfl ⟨Nat.le_of_ble_eq_true rfl, Nat.le_of_ble_eq_true rfl⟩ hl rfl (Nat.le_of_ble_eq_true rfl) dX7_at_14 ⟨Nat.zero_le _, Nat.zero_le _⟩ [0] [1] [1, 0] rfl rfl (by decide) (by decide) (by decide) rfl rfl (by decide) (fun H locs hP hD hS => ?_)
    have hP : va_P D vwCl [(mo, .inr (7, [vI 0, .ref no, .ref th, .ref pa, vI ss, .ref sl, .ref sv, .ref tx, vI ty])), (no, .inl (cy 1, 118, .inl (iA a)))] H := hP
    have hD : va_D _ [(mo, .inr (7, [vI 0, .ref no, .ref th, .ref pa, vI ss, .ref sl, .ref sv, .ref tx, vI ty])), (no, .inl (cy 1, 118, .inl (iA a)))] := hD
    refine rr_ifP_eq F (tgt := 24) dX7_at_17 (by decide) (fun c_17 => ?_) (fun c_17 => ?_)
    · exfalso; omega
    · exfalso; omega
set_option maxRecDepth 100000 in
set_option maxHeartbeats 4000000 in
theorem c_X7_letter (l : Launch) (D : va_G) (cy : Nat → ClassId) (mo no th pa sl sv tx : Nat) (tr ss ty : Int) (a : Int → Int) (w i : Int) (hM : MR a) (hw : inR w) (hi : inR i) (h1 : 0 ≤ w ∧ w < a 25) (h2 : 0 ≤ i) : Wr l yX7_letter cX7_letter 3 (some FieldType.int) 2 [.ref mo, vI w, vI i] D cy [(mo, .inr (7, [vI tr, .ref no, .ref th, .ref pa, vI ss, .ref sl, .ref sv, .ref tx, vI ty])), (no, .inl (cy 1, 118, .inl (iA a)))] [(mo, .inr (7, [vI 0, .ref no, .ref th, .ref pa, vI ss, .ref sl, .ref sv, .ref tx, vI ty])), (no, .inl (cy 1, 118, .inl (iA a)))] (some (vI (if i < a (26 + 7 * w) then sc (a (26 + 7 * w + 1 + i)) else -1))) := by
  refine Wr.of RX7 rfl [(0, .ref mo), (1, vI w), (2, vI i)] rfl (by decide +kernel) (Nat.le_of_ble_eq_true rfl) ?_
  intro p e s m args below meth c F hr hlocks hK hP hD hS hA ls hl
  have hn0 := hM.n
  have hw0 := hM.nw
  have hc0 := hM.wc
  have hi2 : -2147483648 ≤ i ∧ i < 2147483648 := hi
  refine lv_aload_n F.1 F.2.1 dX7_letter_0 rfl (lv_at hl 0 rfl) ?_
  refine lv_aload_n F.1 F.2.1 dX7_letter_1 rfl (lv_at hl 0 rfl) ?_
  refine lv_iload_n F.1 F.2.1 dX7_letter_2 rfl (lv_at hl 1 rfl) ?_
  refine rr_rdV (rest := [.ref mo]) F hK (c_X7_isWord l D cy mo no th pa sl sv tx tr ss ty a w (by first | assumption | omega | exact ⟨by omega, by omega⟩) (by first | assumption | omega | exact ⟨by omega, by omega⟩)) hP sf_X7_isWord tw996 7 rfl rfl ⟨Nat.le_of_ble_eq_true rfl, Nat.le_of_ble_eq_true rfl⟩ hl rfl (Nat.le_of_ble_eq_true rfl) dX7_letter_3 ⟨Nat.zero_le _, Nat.zero_le _⟩ ?_
  refine rr_ifP_ne F (tgt := 13) dX7_letter_6 (by decide) (fun c_6 => ?_) (fun c_6 => ?_)
  · refine lv_iload_n F.1 F.2.1 dX7_letter_13 rfl (lv_at hl 2 rfl) ?_
    refine rr_if_ge F (tgt := 21) dX7_letter_14 (by decide) ⟨by omega, by omega⟩ (fun c_14 => ?_) (fun c_14 => ?_)
    · refine rr_iconst F dX7_letter_21 ?_
      refine rr_wrV (rest := []) (wr := [(no, .inl (cy 1, 118, .inl (iA a)))]) (ws2 := [(mo, .inr (7, [vI 0, .ref no, .ref th, .ref pa, vI ss, .ref sl, .ref sv, .ref tx, vI ty])), (no, .inl (cy 1, 118, .inl (iA a)))]) F hK (c_X7_refuses l D cy mo no th pa sl sv tx tr ss ty 0 (by first | assumption | omega | exact ⟨by omega, by omega⟩)) hP hD hS hA sf_X7_refuses tw910 7 rfl rfl ⟨Nat.le_of_ble_eq_true rfl, Nat.le_of_ble_eq_true rfl⟩ hl rfl (Nat.le_of_ble_eq_true rfl) dX7_letter_22 ⟨Nat.zero_le _, Nat.zero_le _⟩ [0] [1] [1, 0] rfl rfl (by decide) (by decide) (by decide) rfl rfl (by decide) (fun H locs hP hD hS => ?_)
      have hP : va_P D vwCl [(mo, .inr (7, [vI 0, .ref no, .ref th, .ref pa, vI ss, .ref sl, .ref sv, .ref tx, vI ty])), (no, .inl (cy 1, 118, .inl (iA a)))] H := hP
      have hD : va_D _ [(mo, .inr (7, [vI 0, .ref no, .ref th, .ref pa, vI ss, .ref sl, .ref sv, .ref tx, vI ty])), (no, .inl (cy 1, 118, .inl (iA a)))] := hD
      refine rr_ifP_eq F (tgt := 30) dX7_letter_25 (by decide) (fun c_25 => ?_) (fun c_25 => ?_)
      · have hb := hM.b h1.1 h1.2
        refine lv_iload_n F.1 F.2.1 dX7_letter_30 rfl (lv_at hl 2 rfl) ?_
        refine lv_aload_n F.1 F.2.1 dX7_letter_31 rfl (lv_at hl 0 rfl) ?_
        refine gf7_1 F hK hP 0 rfl tw875 dX7_letter_32 ?_
        refine rr_bipush F dX7_letter_35 (by decide) ?_
        refine rr_bipush F dX7_letter_37 (by decide) ?_
        refine lv_iload_n F.1 F.2.1 dX7_letter_39 rfl (lv_at hl 1 rfl) ?_
        refine rr_imul F (z := 7 * w) dX7_letter_40 (by first | rfl | omega) ?_
        refine rr_iadd F (z := 26 + (7 * w)) dX7_letter_41 (by first | rfl | omega) ?_
        refine rr_iald F hK hP 1 rfl (by omega) (by omega) (by decide) dX7_letter_42 ?_
        refine rr_icmp_ge F (tgt := 68) dX7_letter_43 (by decide) ⟨by omega, by omega⟩ ⟨by omega, by omega⟩ (fun c_43 => ?_) (fun c_43 => ?_)
        · refine rr_iconst F dX7_letter_68 ?_
          exact rr_wiret F hr hlocks dX7_letter_69 hP hS (rfl) (by first | rw [if_pos (by omega)] | rw [if_neg (by omega)])
        · have hbi := hb.2 i h2 (by omega)
          refine lv_aload_n F.1 F.2.1 dX7_letter_46 rfl (lv_at hl 0 rfl) ?_
          refine gf7_1 F hK hP 0 rfl tw875 dX7_letter_47 ?_
          refine rr_bipush F dX7_letter_50 (by decide) ?_
          refine rr_bipush F dX7_letter_52 (by decide) ?_
          refine lv_iload_n F.1 F.2.1 dX7_letter_54 rfl (lv_at hl 1 rfl) ?_
          refine rr_imul F (z := 7 * w) dX7_letter_55 (by first | rfl | omega) ?_
          refine rr_iadd F (z := 26 + (7 * w)) dX7_letter_56 (by first | rfl | omega) ?_
          refine rr_iconst F dX7_letter_57 ?_
          refine rr_iadd F (z := (26 + (7 * w)) + 1) dX7_letter_58 (by first | rfl | omega) ?_
          refine lv_iload_n F.1 F.2.1 dX7_letter_59 rfl (lv_at hl 2 rfl) ?_
          refine rr_iadd F (z := ((26 + (7 * w)) + 1) + i) dX7_letter_60 (by first | rfl | omega) ?_
          refine rr_iald F hK hP 1 rfl (by omega) (by omega) (by decide) dX7_letter_61 ?_
          refine rr_rdS (rest := []) F hK (c_X7_codeOf l D cy (a (((26 + (7 * w)) + 1) + i)) (⟨by omega, by omega⟩)) (hP.sub [] rfl) sf_X7_codeOf tw989 ⟨Nat.le_of_ble_eq_true rfl, Nat.le_of_ble_eq_true rfl⟩ hl rfl (Nat.le_of_ble_eq_true rfl) dX7_letter_62 ⟨Nat.zero_le _, Nat.zero_le _⟩ ?_
          refine lv_goto (tgt := 69) F.1 F.2.1 dX7_letter_65 (by decide) ?_
          exact rr_wiret F hr hlocks dX7_letter_69 hP hS (rfl) (by first | rw [if_pos (by omega)] | rw [if_neg (by omega)])
      · exfalso; omega
    · refine rr_iconst F dX7_letter_17 ?_
      refine lv_goto (tgt := 22) F.1 F.2.1 dX7_letter_18 (by decide) ?_
      refine rr_wrV (rest := []) (wr := [(no, .inl (cy 1, 118, .inl (iA a)))]) (ws2 := [(mo, .inr (7, [vI 2, .ref no, .ref th, .ref pa, vI ss, .ref sl, .ref sv, .ref tx, vI ty])), (no, .inl (cy 1, 118, .inl (iA a)))]) F hK (c_X7_refuses l D cy mo no th pa sl sv tx tr ss ty 2 (by first | assumption | omega | exact ⟨by omega, by omega⟩)) hP hD hS hA sf_X7_refuses tw910 7 rfl rfl ⟨Nat.le_of_ble_eq_true rfl, Nat.le_of_ble_eq_true rfl⟩ hl rfl (Nat.le_of_ble_eq_true rfl) dX7_letter_22 ⟨Nat.zero_le _, Nat.zero_le _⟩ [0] [1] [1, 0] rfl rfl (by decide) (by decide) (by decide) rfl rfl (by decide) (fun H locs hP hD hS => ?_)
      have hP : va_P D vwCl [(mo, .inr (7, [vI 2, .ref no, .ref th, .ref pa, vI ss, .ref sl, .ref sv, .ref tx, vI ty])), (no, .inl (cy 1, 118, .inl (iA a)))] H := hP
      have hD : va_D _ [(mo, .inr (7, [vI 2, .ref no, .ref th, .ref pa, vI ss, .ref sl, .ref sv, .ref tx, vI ty])), (no, .inl (cy 1, 118, .inl (iA a)))] := hD
      refine rr_ifP_eq F (tgt := 30) dX7_letter_25 (by decide) (fun c_25 => ?_) (fun c_25 => ?_)
      · exfalso; omega
      · exfalso; omega
  · refine rr_iconst F dX7_letter_9 ?_
    refine lv_goto (tgt := 22) F.1 F.2.1 dX7_letter_10 (by decide) ?_
    refine rr_wrV (rest := []) (wr := [(no, .inl (cy 1, 118, .inl (iA a)))]) (ws2 := [(mo, .inr (7, [vI 1, .ref no, .ref th, .ref pa, vI ss, .ref sl, .ref sv, .ref tx, vI ty])), (no, .inl (cy 1, 118, .inl (iA a)))]) F hK (c_X7_refuses l D cy mo no th pa sl sv tx tr ss ty 1 (by first | assumption | omega | exact ⟨by omega, by omega⟩)) hP hD hS hA sf_X7_refuses tw910 7 rfl rfl ⟨Nat.le_of_ble_eq_true rfl, Nat.le_of_ble_eq_true rfl⟩ hl rfl (Nat.le_of_ble_eq_true rfl) dX7_letter_22 ⟨Nat.zero_le _, Nat.zero_le _⟩ [0] [1] [1, 0] rfl rfl (by decide) (by decide) (by decide) rfl rfl (by decide) (fun H locs hP hD hS => ?_)
    have hP : va_P D vwCl [(mo, .inr (7, [vI 1, .ref no, .ref th, .ref pa, vI ss, .ref sl, .ref sv, .ref tx, vI ty])), (no, .inl (cy 1, 118, .inl (iA a)))] H := hP
    have hD : va_D _ [(mo, .inr (7, [vI 1, .ref no, .ref th, .ref pa, vI ss, .ref sl, .ref sv, .ref tx, vI ty])), (no, .inl (cy 1, 118, .inl (iA a)))] := hD
    refine rr_ifP_eq F (tgt := 30) dX7_letter_25 (by decide) (fun c_25 => ?_) (fun c_25 => ?_)
    · exfalso; omega
    · exfalso; omega
set_option maxRecDepth 100000 in
set_option maxHeartbeats 4000000 in
theorem n_X7_letter (l : Launch) (D : va_G) (cy : Nat → ClassId) (mo no th pa sl sv tx : Nat) (tr ss ty : Int) (a : Int → Int) (w i : Int) (hM : MR a) (hw : inR w) (hi : inR i) (hbad : ¬ ((0 ≤ w ∧ w < a 25) ∧ 0 ≤ i)) : Wr l yX7_letter cX7_letter 3 (some FieldType.int) 2 [.ref mo, vI w, vI i] D cy [(mo, .inr (7, [vI tr, .ref no, .ref th, .ref pa, vI ss, .ref sl, .ref sv, .ref tx, vI ty])), (no, .inl (cy 1, 118, .inl (iA a)))] [(mo, .inr (7, [vI (if 0 ≤ w ∧ w < a 25 then 2 else 1), .ref no, .ref th, .ref pa, vI ss, .ref sl, .ref sv, .ref tx, vI ty])), (no, .inl (cy 1, 118, .inl (iA a)))] (some (vI 0)) := by
  refine Wr.of RX7 rfl [(0, .ref mo), (1, vI w), (2, vI i)] rfl (by decide +kernel) (Nat.le_of_ble_eq_true rfl) ?_
  intro p e s m args below meth c F hr hlocks hK hP hD hS hA ls hl
  have hn0 := hM.n
  have hw0 := hM.nw
  have hc0 := hM.wc
  have hi2 : -2147483648 ≤ i ∧ i < 2147483648 := hi
  refine lv_aload_n F.1 F.2.1 dX7_letter_0 rfl (lv_at hl 0 rfl) ?_
  refine lv_aload_n F.1 F.2.1 dX7_letter_1 rfl (lv_at hl 0 rfl) ?_
  refine lv_iload_n F.1 F.2.1 dX7_letter_2 rfl (lv_at hl 1 rfl) ?_
  refine rr_rdV (rest := [.ref mo]) F hK (c_X7_isWord l D cy mo no th pa sl sv tx tr ss ty a w (by first | assumption | omega | exact ⟨by omega, by omega⟩) (by first | assumption | omega | exact ⟨by omega, by omega⟩)) hP sf_X7_isWord tw996 7 rfl rfl ⟨Nat.le_of_ble_eq_true rfl, Nat.le_of_ble_eq_true rfl⟩ hl rfl (Nat.le_of_ble_eq_true rfl) dX7_letter_3 ⟨Nat.zero_le _, Nat.zero_le _⟩ ?_
  refine rr_ifP_ne F (tgt := 13) dX7_letter_6 (by decide) (fun c_6 => ?_) (fun c_6 => ?_)
  · refine lv_iload_n F.1 F.2.1 dX7_letter_13 rfl (lv_at hl 2 rfl) ?_
    refine rr_if_ge F (tgt := 21) dX7_letter_14 (by decide) ⟨by omega, by omega⟩ (fun c_14 => ?_) (fun c_14 => ?_)
    · refine rr_iconst F dX7_letter_21 ?_
      refine rr_wrV (rest := []) (wr := [(no, .inl (cy 1, 118, .inl (iA a)))]) (ws2 := [(mo, .inr (7, [vI 0, .ref no, .ref th, .ref pa, vI ss, .ref sl, .ref sv, .ref tx, vI ty])), (no, .inl (cy 1, 118, .inl (iA a)))]) F hK (c_X7_refuses l D cy mo no th pa sl sv tx tr ss ty 0 (by first | assumption | omega | exact ⟨by omega, by omega⟩)) hP hD hS hA sf_X7_refuses tw910 7 rfl rfl ⟨Nat.le_of_ble_eq_true rfl, Nat.le_of_ble_eq_true rfl⟩ hl rfl (Nat.le_of_ble_eq_true rfl) dX7_letter_22 ⟨Nat.zero_le _, Nat.zero_le _⟩ [0] [1] [1, 0] rfl rfl (by decide) (by decide) (by decide) rfl rfl (by decide) (fun H locs hP hD hS => ?_)
      have hP : va_P D vwCl [(mo, .inr (7, [vI 0, .ref no, .ref th, .ref pa, vI ss, .ref sl, .ref sv, .ref tx, vI ty])), (no, .inl (cy 1, 118, .inl (iA a)))] H := hP
      have hD : va_D _ [(mo, .inr (7, [vI 0, .ref no, .ref th, .ref pa, vI ss, .ref sl, .ref sv, .ref tx, vI ty])), (no, .inl (cy 1, 118, .inl (iA a)))] := hD
      refine rr_ifP_eq F (tgt := 30) dX7_letter_25 (by decide) (fun c_25 => ?_) (fun c_25 => ?_)
      · exfalso; omega
      · exfalso; omega
    · refine rr_iconst F dX7_letter_17 ?_
      refine lv_goto (tgt := 22) F.1 F.2.1 dX7_letter_18 (by decide) ?_
      refine rr_wrV (rest := []) (wr := [(no, .inl (cy 1, 118, .inl (iA a)))]) (ws2 := [(mo, .inr (7, [vI 2, .ref no, .ref th, .ref pa, vI ss, .ref sl, .ref sv, .ref tx, vI ty])), (no, .inl (cy 1, 118, .inl (iA a)))]) F hK (c_X7_refuses l D cy mo no th pa sl sv tx tr ss ty 2 (by first | assumption | omega | exact ⟨by omega, by omega⟩)) hP hD hS hA sf_X7_refuses tw910 7 rfl rfl ⟨Nat.le_of_ble_eq_true rfl, Nat.le_of_ble_eq_true rfl⟩ hl rfl (Nat.le_of_ble_eq_true rfl) dX7_letter_22 ⟨Nat.zero_le _, Nat.zero_le _⟩ [0] [1] [1, 0] rfl rfl (by decide) (by decide) (by decide) rfl rfl (by decide) (fun H locs hP hD hS => ?_)
      have hP : va_P D vwCl [(mo, .inr (7, [vI 2, .ref no, .ref th, .ref pa, vI ss, .ref sl, .ref sv, .ref tx, vI ty])), (no, .inl (cy 1, 118, .inl (iA a)))] H := hP
      have hD : va_D _ [(mo, .inr (7, [vI 2, .ref no, .ref th, .ref pa, vI ss, .ref sl, .ref sv, .ref tx, vI ty])), (no, .inl (cy 1, 118, .inl (iA a)))] := hD
      refine rr_ifP_eq F (tgt := 30) dX7_letter_25 (by decide) (fun c_25 => ?_) (fun c_25 => ?_)
      · exfalso; omega
      · refine rr_iconst F dX7_letter_28 ?_
        exact rr_wiret F hr hlocks dX7_letter_29 hP hS (by repeat' (first | rfl | split | omega)) (rfl)
  · refine rr_iconst F dX7_letter_9 ?_
    refine lv_goto (tgt := 22) F.1 F.2.1 dX7_letter_10 (by decide) ?_
    refine rr_wrV (rest := []) (wr := [(no, .inl (cy 1, 118, .inl (iA a)))]) (ws2 := [(mo, .inr (7, [vI 1, .ref no, .ref th, .ref pa, vI ss, .ref sl, .ref sv, .ref tx, vI ty])), (no, .inl (cy 1, 118, .inl (iA a)))]) F hK (c_X7_refuses l D cy mo no th pa sl sv tx tr ss ty 1 (by first | assumption | omega | exact ⟨by omega, by omega⟩)) hP hD hS hA sf_X7_refuses tw910 7 rfl rfl ⟨Nat.le_of_ble_eq_true rfl, Nat.le_of_ble_eq_true rfl⟩ hl rfl (Nat.le_of_ble_eq_true rfl) dX7_letter_22 ⟨Nat.zero_le _, Nat.zero_le _⟩ [0] [1] [1, 0] rfl rfl (by decide) (by decide) (by decide) rfl rfl (by decide) (fun H locs hP hD hS => ?_)
    have hP : va_P D vwCl [(mo, .inr (7, [vI 1, .ref no, .ref th, .ref pa, vI ss, .ref sl, .ref sv, .ref tx, vI ty])), (no, .inl (cy 1, 118, .inl (iA a)))] H := hP
    have hD : va_D _ [(mo, .inr (7, [vI 1, .ref no, .ref th, .ref pa, vI ss, .ref sl, .ref sv, .ref tx, vI ty])), (no, .inl (cy 1, 118, .inl (iA a)))] := hD
    refine rr_ifP_eq F (tgt := 30) dX7_letter_25 (by decide) (fun c_25 => ?_) (fun c_25 => ?_)
    · exfalso; omega
    · refine rr_iconst F dX7_letter_28 ?_
      exact rr_wiret F hr hlocks dX7_letter_29 hP hS (by repeat' (first | rfl | split | omega)) (rfl)
set_option maxRecDepth 100000 in
set_option maxHeartbeats 4000000 in
theorem c_X7_reading (l : Launch) (D : va_G) (cy : Nat → ClassId) (mo no th pa sl sv tx : Nat) (tr ss ty : Int) (a : Int → Int) (d x : Int) (hM : MR a) (hd : inR d) (hx : inR x) (h1 : 0 ≤ d ∧ d ≤ 1) (h2 : 0 ≤ x ∧ x ≤ 3) : Wr l yX7_reading cX7_reading 3 (some FieldType.int) 6 [.ref mo, vI d, vI x] D cy [(mo, .inr (7, [vI tr, .ref no, .ref th, .ref pa, vI ss, .ref sl, .ref sv, .ref tx, vI ty])), (no, .inl (cy 1, 118, .inl (iA a)))] [(mo, .inr (7, [vI 0, .ref no, .ref th, .ref pa, vI ss, .ref sl, .ref sv, .ref tx, vI ty])), (no, .inl (cy 1, 118, .inl (iA a)))] (some (vI (rdv (a 0) (rq a) (a 25) (rbl a) (rbc a) d x))) := by
  refine Wr.of RX7 rfl [(0, .ref mo), (1, vI d), (2, vI x)] rfl (by decide +kernel) (Nat.le_of_ble_eq_true rfl) ?_
  intro p e s m args below meth c F hr hlocks hK hP hD hS hA ls hl
  have hn0 := hM.n
  have hw0 := hM.nw
  have hc0 := hM.wc
  refine lv_aload_n F.1 F.2.1 dX7_reading_0 rfl (lv_at hl 0 rfl) ?_
  refine lv_iload_n F.1 F.2.1 dX7_reading_1 rfl (lv_at hl 1 rfl) ?_
  refine rr_rdS (rest := [.ref mo]) F hK (c_X7_isWay l D cy d (by first | assumption | omega | exact ⟨by omega, by omega⟩)) (hP.sub [] rfl) sf_X7_isWay tw1004 ⟨Nat.le_of_ble_eq_true rfl, Nat.le_of_ble_eq_true rfl⟩ hl rfl (Nat.le_of_ble_eq_true rfl) dX7_reading_2 ⟨Nat.zero_le _, Nat.zero_le _⟩ ?_
  refine rr_ifP_ne F (tgt := 12) dX7_reading_5 (by decide) (fun c_5 => ?_) (fun c_5 => ?_)
  · refine lv_iload_n F.1 F.2.1 dX7_reading_12 rfl (lv_at hl 2 rfl) ?_
    refine rr_iconst F dX7_reading_13 ?_
    refine rr_iconst F dX7_reading_14 ?_
    refine rr_rdS (rest := [.ref mo]) F hK (c_X7_in l D cy x 0 3 (by first | assumption | omega | exact ⟨by omega, by omega⟩) (by first | assumption | omega | exact ⟨by omega, by omega⟩) (by first | assumption | omega | exact ⟨by omega, by omega⟩)) (hP.sub [] rfl) sf_X7_in tw921 ⟨Nat.le_of_ble_eq_true rfl, Nat.le_of_ble_eq_true rfl⟩ hl rfl (Nat.le_of_ble_eq_true rfl) dX7_reading_15 ⟨Nat.zero_le _, Nat.zero_le _⟩ ?_
    refine rr_ifP_eq F (tgt := 25) dX7_reading_18 (by decide) (fun c_18 => ?_) (fun c_18 => ?_)
    · refine rr_iconst F dX7_reading_25 ?_
      refine rr_wrV (rest := []) (wr := [(no, .inl (cy 1, 118, .inl (iA a)))]) (ws2 := [(mo, .inr (7, [vI 2, .ref no, .ref th, .ref pa, vI ss, .ref sl, .ref sv, .ref tx, vI ty])), (no, .inl (cy 1, 118, .inl (iA a)))]) F hK (c_X7_refuses l D cy mo no th pa sl sv tx tr ss ty 2 (by first | assumption | omega | exact ⟨by omega, by omega⟩)) hP hD hS hA sf_X7_refuses tw910 7 rfl rfl ⟨Nat.le_of_ble_eq_true rfl, Nat.le_of_ble_eq_true rfl⟩ hl rfl (Nat.le_of_ble_eq_true rfl) dX7_reading_26 ⟨Nat.zero_le _, Nat.zero_le _⟩ [0] [1] [1, 0] rfl rfl (by decide) (by decide) (by decide) rfl rfl (by decide) (fun H locs hP hD hS => ?_)
      have hP : va_P D vwCl [(mo, .inr (7, [vI 2, .ref no, .ref th, .ref pa, vI ss, .ref sl, .ref sv, .ref tx, vI ty])), (no, .inl (cy 1, 118, .inl (iA a)))] H := hP
      have hD : va_D _ [(mo, .inr (7, [vI 2, .ref no, .ref th, .ref pa, vI ss, .ref sl, .ref sv, .ref tx, vI ty])), (no, .inl (cy 1, 118, .inl (iA a)))] := hD
      refine rr_ifP_eq F (tgt := 36) dX7_reading_29 (by decide) (fun c_29 => ?_) (fun c_29 => ?_)
      · exfalso; omega
      · exfalso; omega
    · refine rr_iconst F dX7_reading_21 ?_
      refine lv_goto (tgt := 26) F.1 F.2.1 dX7_reading_22 (by decide) ?_
      refine rr_wrV (rest := []) (wr := [(no, .inl (cy 1, 118, .inl (iA a)))]) (ws2 := [(mo, .inr (7, [vI 0, .ref no, .ref th, .ref pa, vI ss, .ref sl, .ref sv, .ref tx, vI ty])), (no, .inl (cy 1, 118, .inl (iA a)))]) F hK (c_X7_refuses l D cy mo no th pa sl sv tx tr ss ty 0 (by first | assumption | omega | exact ⟨by omega, by omega⟩)) hP hD hS hA sf_X7_refuses tw910 7 rfl rfl ⟨Nat.le_of_ble_eq_true rfl, Nat.le_of_ble_eq_true rfl⟩ hl rfl (Nat.le_of_ble_eq_true rfl) dX7_reading_26 ⟨Nat.zero_le _, Nat.zero_le _⟩ [0] [1] [1, 0] rfl rfl (by decide) (by decide) (by decide) rfl rfl (by decide) (fun H locs hP hD hS => ?_)
      have hP : va_P D vwCl [(mo, .inr (7, [vI 0, .ref no, .ref th, .ref pa, vI ss, .ref sl, .ref sv, .ref tx, vI ty])), (no, .inl (cy 1, 118, .inl (iA a)))] H := hP
      have hD : va_D _ [(mo, .inr (7, [vI 0, .ref no, .ref th, .ref pa, vI ss, .ref sl, .ref sv, .ref tx, vI ty])), (no, .inl (cy 1, 118, .inl (iA a)))] := hD
      refine rr_ifP_eq F (tgt := 36) dX7_reading_29 (by decide) (fun c_29 => ?_) (fun c_29 => ?_)
      · refine lv_aload_n F.1 F.2.1 dX7_reading_36 rfl (lv_at hl 0 rfl) ?_
        refine lv_iload_n F.1 F.2.1 dX7_reading_37 rfl (lv_at hl 1 rfl) ?_
        refine lv_iload_n F.1 F.2.1 dX7_reading_38 rfl (lv_at hl 2 rfl) ?_
        refine rr_rdV (rest := []) F hK (c_X7_ofReading l D cy mo no th pa sl sv tx 0 ss ty a d x (by first | assumption | omega | exact ⟨by omega, by omega⟩) (by first | assumption | omega | exact ⟨by omega, by omega⟩) (by first | assumption | omega | exact ⟨by omega, by omega⟩)) hP sf_X7_ofReading tw1007 7 rfl rfl ⟨Nat.le_of_ble_eq_true rfl, Nat.le_of_ble_eq_true rfl⟩ hl rfl (Nat.le_of_ble_eq_true rfl) dX7_reading_39 ⟨Nat.zero_le _, Nat.zero_le _⟩ ?_
        exact rr_wiret F hr hlocks dX7_reading_42 hP hS (rfl) (by first | rfl | omega)
      · exfalso; omega
  · refine rr_iconst F dX7_reading_8 ?_
    refine lv_goto (tgt := 26) F.1 F.2.1 dX7_reading_9 (by decide) ?_
    refine rr_wrV (rest := []) (wr := [(no, .inl (cy 1, 118, .inl (iA a)))]) (ws2 := [(mo, .inr (7, [vI 1, .ref no, .ref th, .ref pa, vI ss, .ref sl, .ref sv, .ref tx, vI ty])), (no, .inl (cy 1, 118, .inl (iA a)))]) F hK (c_X7_refuses l D cy mo no th pa sl sv tx tr ss ty 1 (by first | assumption | omega | exact ⟨by omega, by omega⟩)) hP hD hS hA sf_X7_refuses tw910 7 rfl rfl ⟨Nat.le_of_ble_eq_true rfl, Nat.le_of_ble_eq_true rfl⟩ hl rfl (Nat.le_of_ble_eq_true rfl) dX7_reading_26 ⟨Nat.zero_le _, Nat.zero_le _⟩ [0] [1] [1, 0] rfl rfl (by decide) (by decide) (by decide) rfl rfl (by decide) (fun H locs hP hD hS => ?_)
    have hP : va_P D vwCl [(mo, .inr (7, [vI 1, .ref no, .ref th, .ref pa, vI ss, .ref sl, .ref sv, .ref tx, vI ty])), (no, .inl (cy 1, 118, .inl (iA a)))] H := hP
    have hD : va_D _ [(mo, .inr (7, [vI 1, .ref no, .ref th, .ref pa, vI ss, .ref sl, .ref sv, .ref tx, vI ty])), (no, .inl (cy 1, 118, .inl (iA a)))] := hD
    refine rr_ifP_eq F (tgt := 36) dX7_reading_29 (by decide) (fun c_29 => ?_) (fun c_29 => ?_)
    · exfalso; omega
    · exfalso; omega
set_option maxRecDepth 100000 in
set_option maxHeartbeats 4000000 in
theorem n_X7_reading (l : Launch) (D : va_G) (cy : Nat → ClassId) (mo no th pa sl sv tx : Nat) (tr ss ty : Int) (a : Int → Int) (d x : Int) (hM : MR a) (hd : inR d) (hx : inR x) (hbad : ¬ ((0 ≤ d ∧ d ≤ 1) ∧ 0 ≤ x ∧ x ≤ 3)) : Wr l yX7_reading cX7_reading 3 (some FieldType.int) 2 [.ref mo, vI d, vI x] D cy [(mo, .inr (7, [vI tr, .ref no, .ref th, .ref pa, vI ss, .ref sl, .ref sv, .ref tx, vI ty])), (no, .inl (cy 1, 118, .inl (iA a)))] [(mo, .inr (7, [vI (if 0 ≤ d ∧ d ≤ 1 then 2 else 1), .ref no, .ref th, .ref pa, vI ss, .ref sl, .ref sv, .ref tx, vI ty])), (no, .inl (cy 1, 118, .inl (iA a)))] (some (vI 0)) := by
  refine Wr.of RX7 rfl [(0, .ref mo), (1, vI d), (2, vI x)] rfl (by decide +kernel) (Nat.le_of_ble_eq_true rfl) ?_
  intro p e s m args below meth c F hr hlocks hK hP hD hS hA ls hl
  have hn0 := hM.n
  have hw0 := hM.nw
  have hc0 := hM.wc
  refine lv_aload_n F.1 F.2.1 dX7_reading_0 rfl (lv_at hl 0 rfl) ?_
  refine lv_iload_n F.1 F.2.1 dX7_reading_1 rfl (lv_at hl 1 rfl) ?_
  refine rr_rdS (rest := [.ref mo]) F hK (c_X7_isWay l D cy d (by first | assumption | omega | exact ⟨by omega, by omega⟩)) (hP.sub [] rfl) sf_X7_isWay tw1004 ⟨Nat.le_of_ble_eq_true rfl, Nat.le_of_ble_eq_true rfl⟩ hl rfl (Nat.le_of_ble_eq_true rfl) dX7_reading_2 ⟨Nat.zero_le _, Nat.zero_le _⟩ ?_
  refine rr_ifP_ne F (tgt := 12) dX7_reading_5 (by decide) (fun c_5 => ?_) (fun c_5 => ?_)
  · refine lv_iload_n F.1 F.2.1 dX7_reading_12 rfl (lv_at hl 2 rfl) ?_
    refine rr_iconst F dX7_reading_13 ?_
    refine rr_iconst F dX7_reading_14 ?_
    refine rr_rdS (rest := [.ref mo]) F hK (c_X7_in l D cy x 0 3 (by first | assumption | omega | exact ⟨by omega, by omega⟩) (by first | assumption | omega | exact ⟨by omega, by omega⟩) (by first | assumption | omega | exact ⟨by omega, by omega⟩)) (hP.sub [] rfl) sf_X7_in tw921 ⟨Nat.le_of_ble_eq_true rfl, Nat.le_of_ble_eq_true rfl⟩ hl rfl (Nat.le_of_ble_eq_true rfl) dX7_reading_15 ⟨Nat.zero_le _, Nat.zero_le _⟩ ?_
    refine rr_ifP_eq F (tgt := 25) dX7_reading_18 (by decide) (fun c_18 => ?_) (fun c_18 => ?_)
    · refine rr_iconst F dX7_reading_25 ?_
      refine rr_wrV (rest := []) (wr := [(no, .inl (cy 1, 118, .inl (iA a)))]) (ws2 := [(mo, .inr (7, [vI 2, .ref no, .ref th, .ref pa, vI ss, .ref sl, .ref sv, .ref tx, vI ty])), (no, .inl (cy 1, 118, .inl (iA a)))]) F hK (c_X7_refuses l D cy mo no th pa sl sv tx tr ss ty 2 (by first | assumption | omega | exact ⟨by omega, by omega⟩)) hP hD hS hA sf_X7_refuses tw910 7 rfl rfl ⟨Nat.le_of_ble_eq_true rfl, Nat.le_of_ble_eq_true rfl⟩ hl rfl (Nat.le_of_ble_eq_true rfl) dX7_reading_26 ⟨Nat.zero_le _, Nat.zero_le _⟩ [0] [1] [1, 0] rfl rfl (by decide) (by decide) (by decide) rfl rfl (by decide) (fun H locs hP hD hS => ?_)
      have hP : va_P D vwCl [(mo, .inr (7, [vI 2, .ref no, .ref th, .ref pa, vI ss, .ref sl, .ref sv, .ref tx, vI ty])), (no, .inl (cy 1, 118, .inl (iA a)))] H := hP
      have hD : va_D _ [(mo, .inr (7, [vI 2, .ref no, .ref th, .ref pa, vI ss, .ref sl, .ref sv, .ref tx, vI ty])), (no, .inl (cy 1, 118, .inl (iA a)))] := hD
      refine rr_ifP_eq F (tgt := 36) dX7_reading_29 (by decide) (fun c_29 => ?_) (fun c_29 => ?_)
      · exfalso; omega
      · refine rr_iconst F dX7_reading_32 ?_
        refine lv_goto (tgt := 42) F.1 F.2.1 dX7_reading_33 (by decide) ?_
        exact rr_wiret F hr hlocks dX7_reading_42 hP hS (by repeat' (first | rfl | split | omega)) (rfl)
    · refine rr_iconst F dX7_reading_21 ?_
      refine lv_goto (tgt := 26) F.1 F.2.1 dX7_reading_22 (by decide) ?_
      refine rr_wrV (rest := []) (wr := [(no, .inl (cy 1, 118, .inl (iA a)))]) (ws2 := [(mo, .inr (7, [vI 0, .ref no, .ref th, .ref pa, vI ss, .ref sl, .ref sv, .ref tx, vI ty])), (no, .inl (cy 1, 118, .inl (iA a)))]) F hK (c_X7_refuses l D cy mo no th pa sl sv tx tr ss ty 0 (by first | assumption | omega | exact ⟨by omega, by omega⟩)) hP hD hS hA sf_X7_refuses tw910 7 rfl rfl ⟨Nat.le_of_ble_eq_true rfl, Nat.le_of_ble_eq_true rfl⟩ hl rfl (Nat.le_of_ble_eq_true rfl) dX7_reading_26 ⟨Nat.zero_le _, Nat.zero_le _⟩ [0] [1] [1, 0] rfl rfl (by decide) (by decide) (by decide) rfl rfl (by decide) (fun H locs hP hD hS => ?_)
      have hP : va_P D vwCl [(mo, .inr (7, [vI 0, .ref no, .ref th, .ref pa, vI ss, .ref sl, .ref sv, .ref tx, vI ty])), (no, .inl (cy 1, 118, .inl (iA a)))] H := hP
      have hD : va_D _ [(mo, .inr (7, [vI 0, .ref no, .ref th, .ref pa, vI ss, .ref sl, .ref sv, .ref tx, vI ty])), (no, .inl (cy 1, 118, .inl (iA a)))] := hD
      refine rr_ifP_eq F (tgt := 36) dX7_reading_29 (by decide) (fun c_29 => ?_) (fun c_29 => ?_)
      · exfalso; omega
      · exfalso; omega
  · refine rr_iconst F dX7_reading_8 ?_
    refine lv_goto (tgt := 26) F.1 F.2.1 dX7_reading_9 (by decide) ?_
    refine rr_wrV (rest := []) (wr := [(no, .inl (cy 1, 118, .inl (iA a)))]) (ws2 := [(mo, .inr (7, [vI 1, .ref no, .ref th, .ref pa, vI ss, .ref sl, .ref sv, .ref tx, vI ty])), (no, .inl (cy 1, 118, .inl (iA a)))]) F hK (c_X7_refuses l D cy mo no th pa sl sv tx tr ss ty 1 (by first | assumption | omega | exact ⟨by omega, by omega⟩)) hP hD hS hA sf_X7_refuses tw910 7 rfl rfl ⟨Nat.le_of_ble_eq_true rfl, Nat.le_of_ble_eq_true rfl⟩ hl rfl (Nat.le_of_ble_eq_true rfl) dX7_reading_26 ⟨Nat.zero_le _, Nat.zero_le _⟩ [0] [1] [1, 0] rfl rfl (by decide) (by decide) (by decide) rfl rfl (by decide) (fun H locs hP hD hS => ?_)
    have hP : va_P D vwCl [(mo, .inr (7, [vI 1, .ref no, .ref th, .ref pa, vI ss, .ref sl, .ref sv, .ref tx, vI ty])), (no, .inl (cy 1, 118, .inl (iA a)))] H := hP
    have hD : va_D _ [(mo, .inr (7, [vI 1, .ref no, .ref th, .ref pa, vI ss, .ref sl, .ref sv, .ref tx, vI ty])), (no, .inl (cy 1, 118, .inl (iA a)))] := hD
    refine rr_ifP_eq F (tgt := 36) dX7_reading_29 (by decide) (fun c_29 => ?_) (fun c_29 => ?_)
    · exfalso; omega
    · refine rr_iconst F dX7_reading_32 ?_
      refine lv_goto (tgt := 42) F.1 F.2.1 dX7_reading_33 (by decide) ?_
      exact rr_wiret F hr hlocks dX7_reading_42 hP hS (by repeat' (first | rfl | split | omega)) (rfl)
set_option maxRecDepth 100000 in
set_option maxHeartbeats 4000000 in
theorem c_X7_find (l : Launch) (D : va_G) (cy : Nat → ClassId) (mo no th pa sl sv tx : Nat) (tr ss ty : Int) (a : Int → Int) (w d kk : Int) (hM : MR a) (hw : inR w) (hd : inR d) (hk : inR kk) (h1 : 0 ≤ w ∧ w < a 25) (h2 : 0 ≤ d ∧ d ≤ 1) (h3 : 0 ≤ kk) : Wr l yX7_find cX7_find 4 (some FieldType.int) 3 [.ref mo, vI w, vI d, vI kk] D cy [(mo, .inr (7, [vI tr, .ref no, .ref th, .ref pa, vI ss, .ref sl, .ref sv, .ref tx, vI ty])), (no, .inl (cy 1, 118, .inl (iA a)))] [(mo, .inr (7, [vI 0, .ref no, .ref th, .ref pa, vI ss, .ref sl, .ref sv, .ref tx, vI ty])), (no, .inl (cy 1, 118, .inl (iA a)))] (some (vI (kpl (fun j => rbl a w ≤ a 0 ∧ stn (a 0) (rq a) (rbl a w) (rbc a w) j d) kk (a 0)))) := by
  refine Wr.of RX7 rfl [(0, .ref mo), (1, vI w), (2, vI d), (3, vI kk)] rfl (by decide +kernel) (Nat.le_of_ble_eq_true rfl) ?_
  intro p e s m args below meth c F hr hlocks hK hP hD hS hA ls hl
  have hn0 := hM.n
  have hw0 := hM.nw
  have hc0 := hM.wc
  refine lv_aload_n F.1 F.2.1 dX7_find_0 rfl (lv_at hl 0 rfl) ?_
  refine lv_aload_n F.1 F.2.1 dX7_find_1 rfl (lv_at hl 0 rfl) ?_
  refine lv_iload_n F.1 F.2.1 dX7_find_2 rfl (lv_at hl 1 rfl) ?_
  refine rr_rdV (rest := [.ref mo]) F hK (c_X7_isWord l D cy mo no th pa sl sv tx tr ss ty a w (by first | assumption | omega | exact ⟨by omega, by omega⟩) (by first | assumption | omega | exact ⟨by omega, by omega⟩)) hP sf_X7_isWord tw996 7 rfl rfl ⟨Nat.le_of_ble_eq_true rfl, Nat.le_of_ble_eq_true rfl⟩ hl rfl (Nat.le_of_ble_eq_true rfl) dX7_find_3 ⟨Nat.zero_le _, Nat.zero_le _⟩ ?_
  refine rr_ifP_eq F (tgt := 16) dX7_find_6 (by decide) (fun c_6 => ?_) (fun c_6 => ?_)
  · refine rr_iconst F dX7_find_16 ?_
    refine lv_goto (tgt := 29) F.1 F.2.1 dX7_find_17 (by decide) ?_
    refine rr_wrV (rest := []) (wr := [(no, .inl (cy 1, 118, .inl (iA a)))]) (ws2 := [(mo, .inr (7, [vI 1, .ref no, .ref th, .ref pa, vI ss, .ref sl, .ref sv, .ref tx, vI ty])), (no, .inl (cy 1, 118, .inl (iA a)))]) F hK (c_X7_refuses l D cy mo no th pa sl sv tx tr ss ty 1 (by first | assumption | omega | exact ⟨by omega, by omega⟩)) hP hD hS hA sf_X7_refuses tw910 7 rfl rfl ⟨Nat.le_of_ble_eq_true rfl, Nat.le_of_ble_eq_true rfl⟩ hl rfl (Nat.le_of_ble_eq_true rfl) dX7_find_29 ⟨Nat.zero_le _, Nat.zero_le _⟩ [0] [1] [1, 0] rfl rfl (by decide) (by decide) (by decide) rfl rfl (by decide) (fun H locs hP hD hS => ?_)
    have hP : va_P D vwCl [(mo, .inr (7, [vI 1, .ref no, .ref th, .ref pa, vI ss, .ref sl, .ref sv, .ref tx, vI ty])), (no, .inl (cy 1, 118, .inl (iA a)))] H := hP
    have hD : va_D _ [(mo, .inr (7, [vI 1, .ref no, .ref th, .ref pa, vI ss, .ref sl, .ref sv, .ref tx, vI ty])), (no, .inl (cy 1, 118, .inl (iA a)))] := hD
    refine rr_ifP_eq F (tgt := 39) dX7_find_32 (by decide) (fun c_32 => ?_) (fun c_32 => ?_)
    · exfalso; omega
    · exfalso; omega
  · refine lv_iload_n F.1 F.2.1 dX7_find_9 rfl (lv_at hl 2 rfl) ?_
    refine rr_rdS (rest := [.ref mo]) F hK (c_X7_isWay l D cy d (by first | assumption | omega | exact ⟨by omega, by omega⟩)) (hP.sub [] rfl) sf_X7_isWay tw1004 ⟨Nat.le_of_ble_eq_true rfl, Nat.le_of_ble_eq_true rfl⟩ hl rfl (Nat.le_of_ble_eq_true rfl) dX7_find_10 ⟨Nat.zero_le _, Nat.zero_le _⟩ ?_
    refine rr_ifP_ne F (tgt := 20) dX7_find_13 (by decide) (fun c_13 => ?_) (fun c_13 => ?_)
    · refine lv_iload_n F.1 F.2.1 dX7_find_20 rfl (lv_at hl 3 rfl) ?_
      refine rr_if_ge F (tgt := 28) dX7_find_21 (by decide) hk (fun c_21 => ?_) (fun c_21 => ?_)
      · refine rr_iconst F dX7_find_28 ?_
        refine rr_wrV (rest := []) (wr := [(no, .inl (cy 1, 118, .inl (iA a)))]) (ws2 := [(mo, .inr (7, [vI 0, .ref no, .ref th, .ref pa, vI ss, .ref sl, .ref sv, .ref tx, vI ty])), (no, .inl (cy 1, 118, .inl (iA a)))]) F hK (c_X7_refuses l D cy mo no th pa sl sv tx tr ss ty 0 (by first | assumption | omega | exact ⟨by omega, by omega⟩)) hP hD hS hA sf_X7_refuses tw910 7 rfl rfl ⟨Nat.le_of_ble_eq_true rfl, Nat.le_of_ble_eq_true rfl⟩ hl rfl (Nat.le_of_ble_eq_true rfl) dX7_find_29 ⟨Nat.zero_le _, Nat.zero_le _⟩ [0] [1] [1, 0] rfl rfl (by decide) (by decide) (by decide) rfl rfl (by decide) (fun H locs hP hD hS => ?_)
        have hP : va_P D vwCl [(mo, .inr (7, [vI 0, .ref no, .ref th, .ref pa, vI ss, .ref sl, .ref sv, .ref tx, vI ty])), (no, .inl (cy 1, 118, .inl (iA a)))] H := hP
        have hD : va_D _ [(mo, .inr (7, [vI 0, .ref no, .ref th, .ref pa, vI ss, .ref sl, .ref sv, .ref tx, vI ty])), (no, .inl (cy 1, 118, .inl (iA a)))] := hD
        refine rr_ifP_eq F (tgt := 39) dX7_find_32 (by decide) (fun c_32 => ?_) (fun c_32 => ?_)
        · refine lv_aload_n F.1 F.2.1 dX7_find_39 rfl (lv_at hl 0 rfl) ?_
          refine lv_iload_n F.1 F.2.1 dX7_find_40 rfl (lv_at hl 1 rfl) ?_
          refine lv_iload_n F.1 F.2.1 dX7_find_41 rfl (lv_at hl 2 rfl) ?_
          refine lv_iload_n F.1 F.2.1 dX7_find_42 rfl (lv_at hl 3 rfl) ?_
          refine rr_rdV (rest := []) F hK (c_X7_found l D cy mo no th pa sl sv tx 0 ss ty a w d kk (by first | assumption | omega | exact ⟨by omega, by omega⟩) (by first | assumption | omega | exact ⟨by omega, by omega⟩) (by first | assumption | omega | exact ⟨by omega, by omega⟩) (⟨h3, hk.2⟩)) hP sf_X7_found tw1060 7 rfl rfl ⟨Nat.le_of_ble_eq_true rfl, Nat.le_of_ble_eq_true rfl⟩ hl rfl (Nat.le_of_ble_eq_true rfl) dX7_find_43 ⟨Nat.zero_le _, Nat.zero_le _⟩ ?_
          exact rr_wiret F hr hlocks dX7_find_46 hP hS (rfl) (by first | rfl | omega)
        · exfalso; omega
      · refine rr_iconst F dX7_find_24 ?_
        refine lv_goto (tgt := 29) F.1 F.2.1 dX7_find_25 (by decide) ?_
        refine rr_wrV (rest := []) (wr := [(no, .inl (cy 1, 118, .inl (iA a)))]) (ws2 := [(mo, .inr (7, [vI 2, .ref no, .ref th, .ref pa, vI ss, .ref sl, .ref sv, .ref tx, vI ty])), (no, .inl (cy 1, 118, .inl (iA a)))]) F hK (c_X7_refuses l D cy mo no th pa sl sv tx tr ss ty 2 (by first | assumption | omega | exact ⟨by omega, by omega⟩)) hP hD hS hA sf_X7_refuses tw910 7 rfl rfl ⟨Nat.le_of_ble_eq_true rfl, Nat.le_of_ble_eq_true rfl⟩ hl rfl (Nat.le_of_ble_eq_true rfl) dX7_find_29 ⟨Nat.zero_le _, Nat.zero_le _⟩ [0] [1] [1, 0] rfl rfl (by decide) (by decide) (by decide) rfl rfl (by decide) (fun H locs hP hD hS => ?_)
        have hP : va_P D vwCl [(mo, .inr (7, [vI 2, .ref no, .ref th, .ref pa, vI ss, .ref sl, .ref sv, .ref tx, vI ty])), (no, .inl (cy 1, 118, .inl (iA a)))] H := hP
        have hD : va_D _ [(mo, .inr (7, [vI 2, .ref no, .ref th, .ref pa, vI ss, .ref sl, .ref sv, .ref tx, vI ty])), (no, .inl (cy 1, 118, .inl (iA a)))] := hD
        refine rr_ifP_eq F (tgt := 39) dX7_find_32 (by decide) (fun c_32 => ?_) (fun c_32 => ?_)
        · exfalso; omega
        · exfalso; omega
    · refine rr_iconst F dX7_find_16 ?_
      refine lv_goto (tgt := 29) F.1 F.2.1 dX7_find_17 (by decide) ?_
      refine rr_wrV (rest := []) (wr := [(no, .inl (cy 1, 118, .inl (iA a)))]) (ws2 := [(mo, .inr (7, [vI 1, .ref no, .ref th, .ref pa, vI ss, .ref sl, .ref sv, .ref tx, vI ty])), (no, .inl (cy 1, 118, .inl (iA a)))]) F hK (c_X7_refuses l D cy mo no th pa sl sv tx tr ss ty 1 (by first | assumption | omega | exact ⟨by omega, by omega⟩)) hP hD hS hA sf_X7_refuses tw910 7 rfl rfl ⟨Nat.le_of_ble_eq_true rfl, Nat.le_of_ble_eq_true rfl⟩ hl rfl (Nat.le_of_ble_eq_true rfl) dX7_find_29 ⟨Nat.zero_le _, Nat.zero_le _⟩ [0] [1] [1, 0] rfl rfl (by decide) (by decide) (by decide) rfl rfl (by decide) (fun H locs hP hD hS => ?_)
      have hP : va_P D vwCl [(mo, .inr (7, [vI 1, .ref no, .ref th, .ref pa, vI ss, .ref sl, .ref sv, .ref tx, vI ty])), (no, .inl (cy 1, 118, .inl (iA a)))] H := hP
      have hD : va_D _ [(mo, .inr (7, [vI 1, .ref no, .ref th, .ref pa, vI ss, .ref sl, .ref sv, .ref tx, vI ty])), (no, .inl (cy 1, 118, .inl (iA a)))] := hD
      refine rr_ifP_eq F (tgt := 39) dX7_find_32 (by decide) (fun c_32 => ?_) (fun c_32 => ?_)
      · exfalso; omega
      · exfalso; omega
set_option maxRecDepth 100000 in
set_option maxHeartbeats 4000000 in
theorem n_X7_find (l : Launch) (D : va_G) (cy : Nat → ClassId) (mo no th pa sl sv tx : Nat) (tr ss ty : Int) (a : Int → Int) (w d kk : Int) (hM : MR a) (hw : inR w) (hd : inR d) (hk : inR kk) (hbad : ¬ ((0 ≤ w ∧ w < a 25) ∧ (0 ≤ d ∧ d ≤ 1) ∧ 0 ≤ kk)) : Wr l yX7_find cX7_find 4 (some FieldType.int) 2 [.ref mo, vI w, vI d, vI kk] D cy [(mo, .inr (7, [vI tr, .ref no, .ref th, .ref pa, vI ss, .ref sl, .ref sv, .ref tx, vI ty])), (no, .inl (cy 1, 118, .inl (iA a)))] [(mo, .inr (7, [vI (if (0 ≤ w ∧ w < a 25) ∧ (0 ≤ d ∧ d ≤ 1) then 2 else 1), .ref no, .ref th, .ref pa, vI ss, .ref sl, .ref sv, .ref tx, vI ty])), (no, .inl (cy 1, 118, .inl (iA a)))] (some (vI 0)) := by
  refine Wr.of RX7 rfl [(0, .ref mo), (1, vI w), (2, vI d), (3, vI kk)] rfl (by decide +kernel) (Nat.le_of_ble_eq_true rfl) ?_
  intro p e s m args below meth c F hr hlocks hK hP hD hS hA ls hl
  have hn0 := hM.n
  have hw0 := hM.nw
  have hc0 := hM.wc
  refine lv_aload_n F.1 F.2.1 dX7_find_0 rfl (lv_at hl 0 rfl) ?_
  refine lv_aload_n F.1 F.2.1 dX7_find_1 rfl (lv_at hl 0 rfl) ?_
  refine lv_iload_n F.1 F.2.1 dX7_find_2 rfl (lv_at hl 1 rfl) ?_
  refine rr_rdV (rest := [.ref mo]) F hK (c_X7_isWord l D cy mo no th pa sl sv tx tr ss ty a w (by first | assumption | omega | exact ⟨by omega, by omega⟩) (by first | assumption | omega | exact ⟨by omega, by omega⟩)) hP sf_X7_isWord tw996 7 rfl rfl ⟨Nat.le_of_ble_eq_true rfl, Nat.le_of_ble_eq_true rfl⟩ hl rfl (Nat.le_of_ble_eq_true rfl) dX7_find_3 ⟨Nat.zero_le _, Nat.zero_le _⟩ ?_
  refine rr_ifP_eq F (tgt := 16) dX7_find_6 (by decide) (fun c_6 => ?_) (fun c_6 => ?_)
  · refine rr_iconst F dX7_find_16 ?_
    refine lv_goto (tgt := 29) F.1 F.2.1 dX7_find_17 (by decide) ?_
    refine rr_wrV (rest := []) (wr := [(no, .inl (cy 1, 118, .inl (iA a)))]) (ws2 := [(mo, .inr (7, [vI 1, .ref no, .ref th, .ref pa, vI ss, .ref sl, .ref sv, .ref tx, vI ty])), (no, .inl (cy 1, 118, .inl (iA a)))]) F hK (c_X7_refuses l D cy mo no th pa sl sv tx tr ss ty 1 (by first | assumption | omega | exact ⟨by omega, by omega⟩)) hP hD hS hA sf_X7_refuses tw910 7 rfl rfl ⟨Nat.le_of_ble_eq_true rfl, Nat.le_of_ble_eq_true rfl⟩ hl rfl (Nat.le_of_ble_eq_true rfl) dX7_find_29 ⟨Nat.zero_le _, Nat.zero_le _⟩ [0] [1] [1, 0] rfl rfl (by decide) (by decide) (by decide) rfl rfl (by decide) (fun H locs hP hD hS => ?_)
    have hP : va_P D vwCl [(mo, .inr (7, [vI 1, .ref no, .ref th, .ref pa, vI ss, .ref sl, .ref sv, .ref tx, vI ty])), (no, .inl (cy 1, 118, .inl (iA a)))] H := hP
    have hD : va_D _ [(mo, .inr (7, [vI 1, .ref no, .ref th, .ref pa, vI ss, .ref sl, .ref sv, .ref tx, vI ty])), (no, .inl (cy 1, 118, .inl (iA a)))] := hD
    refine rr_ifP_eq F (tgt := 39) dX7_find_32 (by decide) (fun c_32 => ?_) (fun c_32 => ?_)
    · exfalso; omega
    · refine rr_iconst F dX7_find_35 ?_
      refine lv_goto (tgt := 46) F.1 F.2.1 dX7_find_36 (by decide) ?_
      exact rr_wiret F hr hlocks dX7_find_46 hP hS (by repeat' (first | rfl | split | omega)) (rfl)
  · refine lv_iload_n F.1 F.2.1 dX7_find_9 rfl (lv_at hl 2 rfl) ?_
    refine rr_rdS (rest := [.ref mo]) F hK (c_X7_isWay l D cy d (by first | assumption | omega | exact ⟨by omega, by omega⟩)) (hP.sub [] rfl) sf_X7_isWay tw1004 ⟨Nat.le_of_ble_eq_true rfl, Nat.le_of_ble_eq_true rfl⟩ hl rfl (Nat.le_of_ble_eq_true rfl) dX7_find_10 ⟨Nat.zero_le _, Nat.zero_le _⟩ ?_
    refine rr_ifP_ne F (tgt := 20) dX7_find_13 (by decide) (fun c_13 => ?_) (fun c_13 => ?_)
    · refine lv_iload_n F.1 F.2.1 dX7_find_20 rfl (lv_at hl 3 rfl) ?_
      refine rr_if_ge F (tgt := 28) dX7_find_21 (by decide) hk (fun c_21 => ?_) (fun c_21 => ?_)
      · refine rr_iconst F dX7_find_28 ?_
        refine rr_wrV (rest := []) (wr := [(no, .inl (cy 1, 118, .inl (iA a)))]) (ws2 := [(mo, .inr (7, [vI 0, .ref no, .ref th, .ref pa, vI ss, .ref sl, .ref sv, .ref tx, vI ty])), (no, .inl (cy 1, 118, .inl (iA a)))]) F hK (c_X7_refuses l D cy mo no th pa sl sv tx tr ss ty 0 (by first | assumption | omega | exact ⟨by omega, by omega⟩)) hP hD hS hA sf_X7_refuses tw910 7 rfl rfl ⟨Nat.le_of_ble_eq_true rfl, Nat.le_of_ble_eq_true rfl⟩ hl rfl (Nat.le_of_ble_eq_true rfl) dX7_find_29 ⟨Nat.zero_le _, Nat.zero_le _⟩ [0] [1] [1, 0] rfl rfl (by decide) (by decide) (by decide) rfl rfl (by decide) (fun H locs hP hD hS => ?_)
        have hP : va_P D vwCl [(mo, .inr (7, [vI 0, .ref no, .ref th, .ref pa, vI ss, .ref sl, .ref sv, .ref tx, vI ty])), (no, .inl (cy 1, 118, .inl (iA a)))] H := hP
        have hD : va_D _ [(mo, .inr (7, [vI 0, .ref no, .ref th, .ref pa, vI ss, .ref sl, .ref sv, .ref tx, vI ty])), (no, .inl (cy 1, 118, .inl (iA a)))] := hD
        refine rr_ifP_eq F (tgt := 39) dX7_find_32 (by decide) (fun c_32 => ?_) (fun c_32 => ?_)
        · exfalso; omega
        · exfalso; omega
      · refine rr_iconst F dX7_find_24 ?_
        refine lv_goto (tgt := 29) F.1 F.2.1 dX7_find_25 (by decide) ?_
        refine rr_wrV (rest := []) (wr := [(no, .inl (cy 1, 118, .inl (iA a)))]) (ws2 := [(mo, .inr (7, [vI 2, .ref no, .ref th, .ref pa, vI ss, .ref sl, .ref sv, .ref tx, vI ty])), (no, .inl (cy 1, 118, .inl (iA a)))]) F hK (c_X7_refuses l D cy mo no th pa sl sv tx tr ss ty 2 (by first | assumption | omega | exact ⟨by omega, by omega⟩)) hP hD hS hA sf_X7_refuses tw910 7 rfl rfl ⟨Nat.le_of_ble_eq_true rfl, Nat.le_of_ble_eq_true rfl⟩ hl rfl (Nat.le_of_ble_eq_true rfl) dX7_find_29 ⟨Nat.zero_le _, Nat.zero_le _⟩ [0] [1] [1, 0] rfl rfl (by decide) (by decide) (by decide) rfl rfl (by decide) (fun H locs hP hD hS => ?_)
        have hP : va_P D vwCl [(mo, .inr (7, [vI 2, .ref no, .ref th, .ref pa, vI ss, .ref sl, .ref sv, .ref tx, vI ty])), (no, .inl (cy 1, 118, .inl (iA a)))] H := hP
        have hD : va_D _ [(mo, .inr (7, [vI 2, .ref no, .ref th, .ref pa, vI ss, .ref sl, .ref sv, .ref tx, vI ty])), (no, .inl (cy 1, 118, .inl (iA a)))] := hD
        refine rr_ifP_eq F (tgt := 39) dX7_find_32 (by decide) (fun c_32 => ?_) (fun c_32 => ?_)
        · exfalso; omega
        · refine rr_iconst F dX7_find_35 ?_
          refine lv_goto (tgt := 46) F.1 F.2.1 dX7_find_36 (by decide) ?_
          exact rr_wiret F hr hlocks dX7_find_46 hP hS (by repeat' (first | rfl | split | omega)) (rfl)
    · refine rr_iconst F dX7_find_16 ?_
      refine lv_goto (tgt := 29) F.1 F.2.1 dX7_find_17 (by decide) ?_
      refine rr_wrV (rest := []) (wr := [(no, .inl (cy 1, 118, .inl (iA a)))]) (ws2 := [(mo, .inr (7, [vI 1, .ref no, .ref th, .ref pa, vI ss, .ref sl, .ref sv, .ref tx, vI ty])), (no, .inl (cy 1, 118, .inl (iA a)))]) F hK (c_X7_refuses l D cy mo no th pa sl sv tx tr ss ty 1 (by first | assumption | omega | exact ⟨by omega, by omega⟩)) hP hD hS hA sf_X7_refuses tw910 7 rfl rfl ⟨Nat.le_of_ble_eq_true rfl, Nat.le_of_ble_eq_true rfl⟩ hl rfl (Nat.le_of_ble_eq_true rfl) dX7_find_29 ⟨Nat.zero_le _, Nat.zero_le _⟩ [0] [1] [1, 0] rfl rfl (by decide) (by decide) (by decide) rfl rfl (by decide) (fun H locs hP hD hS => ?_)
      have hP : va_P D vwCl [(mo, .inr (7, [vI 1, .ref no, .ref th, .ref pa, vI ss, .ref sl, .ref sv, .ref tx, vI ty])), (no, .inl (cy 1, 118, .inl (iA a)))] H := hP
      have hD : va_D _ [(mo, .inr (7, [vI 1, .ref no, .ref th, .ref pa, vI ss, .ref sl, .ref sv, .ref tx, vI ty])), (no, .inl (cy 1, 118, .inl (iA a)))] := hD
      refine rr_ifP_eq F (tgt := 39) dX7_find_32 (by decide) (fun c_32 => ?_) (fun c_32 => ?_)
      · exfalso; omega
      · refine rr_iconst F dX7_find_35 ?_
        refine lv_goto (tgt := 46) F.1 F.2.1 dX7_find_36 (by decide) ?_
        exact rr_wiret F hr hlocks dX7_find_46 hP hS (by repeat' (first | rfl | split | omega)) (rfl)
set_option maxRecDepth 100000 in
set_option maxHeartbeats 4000000 in
theorem c_X7_walker (l : Launch) (D : va_G) (cy : Nat → ClassId) (mo no th pa sl sv tx : Nat) (tr ss ty : Int) (a : Int → Int) (w x : Int) (hM : MR a) (hw : inR w) (hx : inR x) (h1 : 0 ≤ w ∧ w < a 96) (h2 : 0 ≤ x ∧ x ≤ 6) : Wr l yX7_walker cX7_walker 3 (some FieldType.int) 6 [.ref mo, vI w, vI x] D cy [(mo, .inr (7, [vI tr, .ref no, .ref th, .ref pa, vI ss, .ref sl, .ref sv, .ref tx, vI ty])), (no, .inl (cy 1, 118, .inl (iA a)))] [(mo, .inr (7, [vI 0, .ref no, .ref th, .ref pa, vI ss, .ref sl, .ref sv, .ref tx, vI ty])), (no, .inl (cy 1, 118, .inl (iA a)))] (some (vI (wkv (a 0) (rq a) (a 25) (rbl a) (rbc a) (a (97 + 5 * w + 0)) (a (97 + 5 * w + 1)) (a (97 + 5 * w + 2)) (a (97 + 5 * w + 3)) (a (97 + 5 * w + 4)) x))) := by
  refine Wr.of RX7 rfl [(0, .ref mo), (1, vI w), (2, vI x)] rfl (by decide +kernel) (Nat.le_of_ble_eq_true rfl) ?_
  intro p e s m args below meth c F hr hlocks hK hP hD hS hA ls hl
  have hn0 := hM.n
  have hw0 := hM.nw
  have hc0 := hM.wc
  refine lv_aload_n F.1 F.2.1 dX7_walker_0 rfl (lv_at hl 0 rfl) ?_
  refine lv_aload_n F.1 F.2.1 dX7_walker_1 rfl (lv_at hl 0 rfl) ?_
  refine lv_iload_n F.1 F.2.1 dX7_walker_2 rfl (lv_at hl 1 rfl) ?_
  refine rr_rdV (rest := [.ref mo]) F hK (c_X7_isWalker l D cy mo no th pa sl sv tx tr ss ty a w (by first | assumption | omega | exact ⟨by omega, by omega⟩) (by first | assumption | omega | exact ⟨by omega, by omega⟩)) hP sf_X7_isWalker tw1068 7 rfl rfl ⟨Nat.le_of_ble_eq_true rfl, Nat.le_of_ble_eq_true rfl⟩ hl rfl (Nat.le_of_ble_eq_true rfl) dX7_walker_3 ⟨Nat.zero_le _, Nat.zero_le _⟩ ?_
  refine rr_ifP_ne F (tgt := 13) dX7_walker_6 (by decide) (fun c_6 => ?_) (fun c_6 => ?_)
  · refine lv_iload_n F.1 F.2.1 dX7_walker_13 rfl (lv_at hl 2 rfl) ?_
    refine rr_iconst F dX7_walker_14 ?_
    refine rr_bipush F dX7_walker_15 (by decide) ?_
    refine rr_rdS (rest := [.ref mo]) F hK (c_X7_in l D cy x 0 6 (by first | assumption | omega | exact ⟨by omega, by omega⟩) (by first | assumption | omega | exact ⟨by omega, by omega⟩) (by first | assumption | omega | exact ⟨by omega, by omega⟩)) (hP.sub [] rfl) sf_X7_in tw921 ⟨Nat.le_of_ble_eq_true rfl, Nat.le_of_ble_eq_true rfl⟩ hl rfl (Nat.le_of_ble_eq_true rfl) dX7_walker_17 ⟨Nat.zero_le _, Nat.zero_le _⟩ ?_
    refine rr_ifP_eq F (tgt := 27) dX7_walker_20 (by decide) (fun c_20 => ?_) (fun c_20 => ?_)
    · refine rr_iconst F dX7_walker_27 ?_
      refine rr_wrV (rest := []) (wr := [(no, .inl (cy 1, 118, .inl (iA a)))]) (ws2 := [(mo, .inr (7, [vI 2, .ref no, .ref th, .ref pa, vI ss, .ref sl, .ref sv, .ref tx, vI ty])), (no, .inl (cy 1, 118, .inl (iA a)))]) F hK (c_X7_refuses l D cy mo no th pa sl sv tx tr ss ty 2 (by first | assumption | omega | exact ⟨by omega, by omega⟩)) hP hD hS hA sf_X7_refuses tw910 7 rfl rfl ⟨Nat.le_of_ble_eq_true rfl, Nat.le_of_ble_eq_true rfl⟩ hl rfl (Nat.le_of_ble_eq_true rfl) dX7_walker_28 ⟨Nat.zero_le _, Nat.zero_le _⟩ [0] [1] [1, 0] rfl rfl (by decide) (by decide) (by decide) rfl rfl (by decide) (fun H locs hP hD hS => ?_)
      have hP : va_P D vwCl [(mo, .inr (7, [vI 2, .ref no, .ref th, .ref pa, vI ss, .ref sl, .ref sv, .ref tx, vI ty])), (no, .inl (cy 1, 118, .inl (iA a)))] H := hP
      have hD : va_D _ [(mo, .inr (7, [vI 2, .ref no, .ref th, .ref pa, vI ss, .ref sl, .ref sv, .ref tx, vI ty])), (no, .inl (cy 1, 118, .inl (iA a)))] := hD
      refine rr_ifP_eq F (tgt := 38) dX7_walker_31 (by decide) (fun c_31 => ?_) (fun c_31 => ?_)
      · exfalso; omega
      · exfalso; omega
    · refine rr_iconst F dX7_walker_23 ?_
      refine lv_goto (tgt := 28) F.1 F.2.1 dX7_walker_24 (by decide) ?_
      refine rr_wrV (rest := []) (wr := [(no, .inl (cy 1, 118, .inl (iA a)))]) (ws2 := [(mo, .inr (7, [vI 0, .ref no, .ref th, .ref pa, vI ss, .ref sl, .ref sv, .ref tx, vI ty])), (no, .inl (cy 1, 118, .inl (iA a)))]) F hK (c_X7_refuses l D cy mo no th pa sl sv tx tr ss ty 0 (by first | assumption | omega | exact ⟨by omega, by omega⟩)) hP hD hS hA sf_X7_refuses tw910 7 rfl rfl ⟨Nat.le_of_ble_eq_true rfl, Nat.le_of_ble_eq_true rfl⟩ hl rfl (Nat.le_of_ble_eq_true rfl) dX7_walker_28 ⟨Nat.zero_le _, Nat.zero_le _⟩ [0] [1] [1, 0] rfl rfl (by decide) (by decide) (by decide) rfl rfl (by decide) (fun H locs hP hD hS => ?_)
      have hP : va_P D vwCl [(mo, .inr (7, [vI 0, .ref no, .ref th, .ref pa, vI ss, .ref sl, .ref sv, .ref tx, vI ty])), (no, .inl (cy 1, 118, .inl (iA a)))] H := hP
      have hD : va_D _ [(mo, .inr (7, [vI 0, .ref no, .ref th, .ref pa, vI ss, .ref sl, .ref sv, .ref tx, vI ty])), (no, .inl (cy 1, 118, .inl (iA a)))] := hD
      refine rr_ifP_eq F (tgt := 38) dX7_walker_31 (by decide) (fun c_31 => ?_) (fun c_31 => ?_)
      · refine lv_aload_n F.1 F.2.1 dX7_walker_38 rfl (lv_at hl 0 rfl) ?_
        refine lv_iload_n F.1 F.2.1 dX7_walker_39 rfl (lv_at hl 1 rfl) ?_
        refine lv_iload_n F.1 F.2.1 dX7_walker_40 rfl (lv_at hl 2 rfl) ?_
        refine rr_rdV (rest := []) F hK (c_X7_ofWalker l D cy mo no th pa sl sv tx 0 ss ty a w x (by first | assumption | omega | exact ⟨by omega, by omega⟩) (by first | assumption | omega | exact ⟨by omega, by omega⟩) (by first | assumption | omega | exact ⟨by omega, by omega⟩)) hP sf_X7_ofWalker tw1072 7 rfl rfl ⟨Nat.le_of_ble_eq_true rfl, Nat.le_of_ble_eq_true rfl⟩ hl rfl (Nat.le_of_ble_eq_true rfl) dX7_walker_41 ⟨Nat.zero_le _, Nat.zero_le _⟩ ?_
        exact rr_wiret F hr hlocks dX7_walker_44 hP hS (rfl) (by first | rfl | omega)
      · exfalso; omega
  · refine rr_iconst F dX7_walker_9 ?_
    refine lv_goto (tgt := 28) F.1 F.2.1 dX7_walker_10 (by decide) ?_
    refine rr_wrV (rest := []) (wr := [(no, .inl (cy 1, 118, .inl (iA a)))]) (ws2 := [(mo, .inr (7, [vI 1, .ref no, .ref th, .ref pa, vI ss, .ref sl, .ref sv, .ref tx, vI ty])), (no, .inl (cy 1, 118, .inl (iA a)))]) F hK (c_X7_refuses l D cy mo no th pa sl sv tx tr ss ty 1 (by first | assumption | omega | exact ⟨by omega, by omega⟩)) hP hD hS hA sf_X7_refuses tw910 7 rfl rfl ⟨Nat.le_of_ble_eq_true rfl, Nat.le_of_ble_eq_true rfl⟩ hl rfl (Nat.le_of_ble_eq_true rfl) dX7_walker_28 ⟨Nat.zero_le _, Nat.zero_le _⟩ [0] [1] [1, 0] rfl rfl (by decide) (by decide) (by decide) rfl rfl (by decide) (fun H locs hP hD hS => ?_)
    have hP : va_P D vwCl [(mo, .inr (7, [vI 1, .ref no, .ref th, .ref pa, vI ss, .ref sl, .ref sv, .ref tx, vI ty])), (no, .inl (cy 1, 118, .inl (iA a)))] H := hP
    have hD : va_D _ [(mo, .inr (7, [vI 1, .ref no, .ref th, .ref pa, vI ss, .ref sl, .ref sv, .ref tx, vI ty])), (no, .inl (cy 1, 118, .inl (iA a)))] := hD
    refine rr_ifP_eq F (tgt := 38) dX7_walker_31 (by decide) (fun c_31 => ?_) (fun c_31 => ?_)
    · exfalso; omega
    · exfalso; omega
set_option maxRecDepth 100000 in
set_option maxHeartbeats 4000000 in
theorem n_X7_walker (l : Launch) (D : va_G) (cy : Nat → ClassId) (mo no th pa sl sv tx : Nat) (tr ss ty : Int) (a : Int → Int) (w x : Int) (hM : MR a) (hw : inR w) (hx : inR x) (hbad : ¬ ((0 ≤ w ∧ w < a 96) ∧ 0 ≤ x ∧ x ≤ 6)) : Wr l yX7_walker cX7_walker 3 (some FieldType.int) 2 [.ref mo, vI w, vI x] D cy [(mo, .inr (7, [vI tr, .ref no, .ref th, .ref pa, vI ss, .ref sl, .ref sv, .ref tx, vI ty])), (no, .inl (cy 1, 118, .inl (iA a)))] [(mo, .inr (7, [vI (if 0 ≤ w ∧ w < a 96 then 2 else 1), .ref no, .ref th, .ref pa, vI ss, .ref sl, .ref sv, .ref tx, vI ty])), (no, .inl (cy 1, 118, .inl (iA a)))] (some (vI 0)) := by
  refine Wr.of RX7 rfl [(0, .ref mo), (1, vI w), (2, vI x)] rfl (by decide +kernel) (Nat.le_of_ble_eq_true rfl) ?_
  intro p e s m args below meth c F hr hlocks hK hP hD hS hA ls hl
  have hn0 := hM.n
  have hw0 := hM.nw
  have hc0 := hM.wc
  refine lv_aload_n F.1 F.2.1 dX7_walker_0 rfl (lv_at hl 0 rfl) ?_
  refine lv_aload_n F.1 F.2.1 dX7_walker_1 rfl (lv_at hl 0 rfl) ?_
  refine lv_iload_n F.1 F.2.1 dX7_walker_2 rfl (lv_at hl 1 rfl) ?_
  refine rr_rdV (rest := [.ref mo]) F hK (c_X7_isWalker l D cy mo no th pa sl sv tx tr ss ty a w (by first | assumption | omega | exact ⟨by omega, by omega⟩) (by first | assumption | omega | exact ⟨by omega, by omega⟩)) hP sf_X7_isWalker tw1068 7 rfl rfl ⟨Nat.le_of_ble_eq_true rfl, Nat.le_of_ble_eq_true rfl⟩ hl rfl (Nat.le_of_ble_eq_true rfl) dX7_walker_3 ⟨Nat.zero_le _, Nat.zero_le _⟩ ?_
  refine rr_ifP_ne F (tgt := 13) dX7_walker_6 (by decide) (fun c_6 => ?_) (fun c_6 => ?_)
  · refine lv_iload_n F.1 F.2.1 dX7_walker_13 rfl (lv_at hl 2 rfl) ?_
    refine rr_iconst F dX7_walker_14 ?_
    refine rr_bipush F dX7_walker_15 (by decide) ?_
    refine rr_rdS (rest := [.ref mo]) F hK (c_X7_in l D cy x 0 6 (by first | assumption | omega | exact ⟨by omega, by omega⟩) (by first | assumption | omega | exact ⟨by omega, by omega⟩) (by first | assumption | omega | exact ⟨by omega, by omega⟩)) (hP.sub [] rfl) sf_X7_in tw921 ⟨Nat.le_of_ble_eq_true rfl, Nat.le_of_ble_eq_true rfl⟩ hl rfl (Nat.le_of_ble_eq_true rfl) dX7_walker_17 ⟨Nat.zero_le _, Nat.zero_le _⟩ ?_
    refine rr_ifP_eq F (tgt := 27) dX7_walker_20 (by decide) (fun c_20 => ?_) (fun c_20 => ?_)
    · refine rr_iconst F dX7_walker_27 ?_
      refine rr_wrV (rest := []) (wr := [(no, .inl (cy 1, 118, .inl (iA a)))]) (ws2 := [(mo, .inr (7, [vI 2, .ref no, .ref th, .ref pa, vI ss, .ref sl, .ref sv, .ref tx, vI ty])), (no, .inl (cy 1, 118, .inl (iA a)))]) F hK (c_X7_refuses l D cy mo no th pa sl sv tx tr ss ty 2 (by first | assumption | omega | exact ⟨by omega, by omega⟩)) hP hD hS hA sf_X7_refuses tw910 7 rfl rfl ⟨Nat.le_of_ble_eq_true rfl, Nat.le_of_ble_eq_true rfl⟩ hl rfl (Nat.le_of_ble_eq_true rfl) dX7_walker_28 ⟨Nat.zero_le _, Nat.zero_le _⟩ [0] [1] [1, 0] rfl rfl (by decide) (by decide) (by decide) rfl rfl (by decide) (fun H locs hP hD hS => ?_)
      have hP : va_P D vwCl [(mo, .inr (7, [vI 2, .ref no, .ref th, .ref pa, vI ss, .ref sl, .ref sv, .ref tx, vI ty])), (no, .inl (cy 1, 118, .inl (iA a)))] H := hP
      have hD : va_D _ [(mo, .inr (7, [vI 2, .ref no, .ref th, .ref pa, vI ss, .ref sl, .ref sv, .ref tx, vI ty])), (no, .inl (cy 1, 118, .inl (iA a)))] := hD
      refine rr_ifP_eq F (tgt := 38) dX7_walker_31 (by decide) (fun c_31 => ?_) (fun c_31 => ?_)
      · exfalso; omega
      · refine rr_iconst F dX7_walker_34 ?_
        refine lv_goto (tgt := 44) F.1 F.2.1 dX7_walker_35 (by decide) ?_
        exact rr_wiret F hr hlocks dX7_walker_44 hP hS (by repeat' (first | rfl | split | omega)) (rfl)
    · refine rr_iconst F dX7_walker_23 ?_
      refine lv_goto (tgt := 28) F.1 F.2.1 dX7_walker_24 (by decide) ?_
      refine rr_wrV (rest := []) (wr := [(no, .inl (cy 1, 118, .inl (iA a)))]) (ws2 := [(mo, .inr (7, [vI 0, .ref no, .ref th, .ref pa, vI ss, .ref sl, .ref sv, .ref tx, vI ty])), (no, .inl (cy 1, 118, .inl (iA a)))]) F hK (c_X7_refuses l D cy mo no th pa sl sv tx tr ss ty 0 (by first | assumption | omega | exact ⟨by omega, by omega⟩)) hP hD hS hA sf_X7_refuses tw910 7 rfl rfl ⟨Nat.le_of_ble_eq_true rfl, Nat.le_of_ble_eq_true rfl⟩ hl rfl (Nat.le_of_ble_eq_true rfl) dX7_walker_28 ⟨Nat.zero_le _, Nat.zero_le _⟩ [0] [1] [1, 0] rfl rfl (by decide) (by decide) (by decide) rfl rfl (by decide) (fun H locs hP hD hS => ?_)
      have hP : va_P D vwCl [(mo, .inr (7, [vI 0, .ref no, .ref th, .ref pa, vI ss, .ref sl, .ref sv, .ref tx, vI ty])), (no, .inl (cy 1, 118, .inl (iA a)))] H := hP
      have hD : va_D _ [(mo, .inr (7, [vI 0, .ref no, .ref th, .ref pa, vI ss, .ref sl, .ref sv, .ref tx, vI ty])), (no, .inl (cy 1, 118, .inl (iA a)))] := hD
      refine rr_ifP_eq F (tgt := 38) dX7_walker_31 (by decide) (fun c_31 => ?_) (fun c_31 => ?_)
      · exfalso; omega
      · exfalso; omega
  · refine rr_iconst F dX7_walker_9 ?_
    refine lv_goto (tgt := 28) F.1 F.2.1 dX7_walker_10 (by decide) ?_
    refine rr_wrV (rest := []) (wr := [(no, .inl (cy 1, 118, .inl (iA a)))]) (ws2 := [(mo, .inr (7, [vI 1, .ref no, .ref th, .ref pa, vI ss, .ref sl, .ref sv, .ref tx, vI ty])), (no, .inl (cy 1, 118, .inl (iA a)))]) F hK (c_X7_refuses l D cy mo no th pa sl sv tx tr ss ty 1 (by first | assumption | omega | exact ⟨by omega, by omega⟩)) hP hD hS hA sf_X7_refuses tw910 7 rfl rfl ⟨Nat.le_of_ble_eq_true rfl, Nat.le_of_ble_eq_true rfl⟩ hl rfl (Nat.le_of_ble_eq_true rfl) dX7_walker_28 ⟨Nat.zero_le _, Nat.zero_le _⟩ [0] [1] [1, 0] rfl rfl (by decide) (by decide) (by decide) rfl rfl (by decide) (fun H locs hP hD hS => ?_)
    have hP : va_P D vwCl [(mo, .inr (7, [vI 1, .ref no, .ref th, .ref pa, vI ss, .ref sl, .ref sv, .ref tx, vI ty])), (no, .inl (cy 1, 118, .inl (iA a)))] H := hP
    have hD : va_D _ [(mo, .inr (7, [vI 1, .ref no, .ref th, .ref pa, vI ss, .ref sl, .ref sv, .ref tx, vI ty])), (no, .inl (cy 1, 118, .inl (iA a)))] := hD
    refine rr_ifP_eq F (tgt := 38) dX7_walker_31 (by decide) (fun c_31 => ?_) (fun c_31 => ?_)
    · exfalso; omega
    · refine rr_iconst F dX7_walker_34 ?_
      refine lv_goto (tgt := 44) F.1 F.2.1 dX7_walker_35 (by decide) ?_
      exact rr_wiret F hr hlocks dX7_walker_44 hP hS (by repeat' (first | rfl | split | omega)) (rfl)
set_option maxRecDepth 100000 in
set_option maxHeartbeats 4000000 in
theorem c_X7_meet (l : Launch) (D : va_G) (cy : Nat → ClassId) (mo no th pa sl sv tx : Nat) (tr ss ty : Int) (a a2 : Int → Int) (w v : Int) (hM : MR a) (hw : inR w) (hv : inR v) (h1 : 0 ≤ w ∧ w < a 96) (h2 : 0 ≤ v ∧ v < a 96) (h3 : ¬ w = v) : Wr l yX7_meet cX7_meet 3 (some FieldType.int) 4 [.ref mo, vI w, vI v] D cy [(mo, .inr (7, [vI tr, .ref no, .ref th, .ref pa, vI ss, .ref sl, .ref sv, .ref tx, vI ty])), (no, .inl (cy 1, 118, .inl (iA a))), (th, .inl (cy 1, 118, .inl (iA a2)))] [(mo, .inr (7, [vI 0, .ref no, .ref th, .ref pa, vI ss, .ref sl, .ref sv, .ref tx, vI ty])), (no, .inl (cy 1, 118, .inl (iA a))), (th, .inl (cy 1, 118, .inl (iA (stW (stW a w (r25 (low (fun t => ps (a 0) (a (97 + 5 * w + 0)) (a (97 + 5 * w + 1)) (a (97 + 5 * w + 2)) t = ps (a 0) (a (97 + 5 * v + 0)) (a (97 + 5 * v + 1)) (a (97 + 5 * v + 2)) t) 25))) v (r25 (low (fun t => ps (a 0) (a (97 + 5 * w + 0)) (a (97 + 5 * w + 1)) (a (97 + 5 * w + 2)) t = ps (a 0) (a (97 + 5 * v + 0)) (a (97 + 5 * v + 1)) (a (97 + 5 * v + 2)) t) 25))))))] (some (vI (low (fun t => ps (a 0) (a (97 + 5 * w + 0)) (a (97 + 5 * w + 1)) (a (97 + 5 * w + 2)) t = ps (a 0) (a (97 + 5 * v + 0)) (a (97 + 5 * v + 1)) (a (97 + 5 * v + 2)) t) 25))) := by
  refine Wr.of RX7 rfl [(0, .ref mo), (1, vI w), (2, vI v)] rfl (by decide +kernel) (Nat.le_of_ble_eq_true rfl) ?_
  intro p e s m args below meth c F hr hlocks hK hP hD hS hA ls hl
  have hn0 := hM.n
  have hw0 := hM.nw
  have hc0 := hM.wc
  refine lv_aload_n F.1 F.2.1 dX7_meet_0 rfl (lv_at hl 0 rfl) ?_
  refine lv_aload_n F.1 F.2.1 dX7_meet_1 rfl (lv_at hl 0 rfl) ?_
  refine lv_iload_n F.1 F.2.1 dX7_meet_2 rfl (lv_at hl 1 rfl) ?_
  refine rr_rdV (rest := [.ref mo]) F hK (c_X7_isWalker l D cy mo no th pa sl sv tx tr ss ty a w (by first | assumption | omega | exact ⟨by omega, by omega⟩) (by first | assumption | omega | exact ⟨by omega, by omega⟩)) (hP.sub [0, 1] rfl) sf_X7_isWalker tw1068 7 rfl rfl ⟨Nat.le_of_ble_eq_true rfl, Nat.le_of_ble_eq_true rfl⟩ hl rfl (Nat.le_of_ble_eq_true rfl) dX7_meet_3 ⟨Nat.zero_le _, Nat.zero_le _⟩ ?_
  refine rr_ifP_eq F (tgt := 17) dX7_meet_6 (by decide) (fun c_6 => ?_) (fun c_6 => ?_)
  · refine rr_iconst F dX7_meet_17 ?_
    refine lv_goto (tgt := 31) F.1 F.2.1 dX7_meet_18 (by decide) ?_
    refine rr_wrV (rest := []) (wr := [(no, .inl (cy 1, 118, .inl (iA a))), (th, .inl (cy 1, 118, .inl (iA a2)))]) (ws2 := [(mo, .inr (7, [vI 1, .ref no, .ref th, .ref pa, vI ss, .ref sl, .ref sv, .ref tx, vI ty])), (no, .inl (cy 1, 118, .inl (iA a))), (th, .inl (cy 1, 118, .inl (iA a2)))]) F hK (c_X7_refuses l D cy mo no th pa sl sv tx tr ss ty 1 (by first | assumption | omega | exact ⟨by omega, by omega⟩)) hP hD hS hA sf_X7_refuses tw910 7 rfl rfl ⟨Nat.le_of_ble_eq_true rfl, Nat.le_of_ble_eq_true rfl⟩ hl rfl (Nat.le_of_ble_eq_true rfl) dX7_meet_31 ⟨Nat.zero_le _, Nat.zero_le _⟩ [0] [1, 2] [2, 0, 1] rfl rfl (by decide) (by decide) (by decide) rfl rfl (by decide) (fun H locs hP hD hS => ?_)
    have hP : va_P D vwCl [(mo, .inr (7, [vI 1, .ref no, .ref th, .ref pa, vI ss, .ref sl, .ref sv, .ref tx, vI ty])), (no, .inl (cy 1, 118, .inl (iA a))), (th, .inl (cy 1, 118, .inl (iA a2)))] H := hP
    have hD : va_D _ [(mo, .inr (7, [vI 1, .ref no, .ref th, .ref pa, vI ss, .ref sl, .ref sv, .ref tx, vI ty])), (no, .inl (cy 1, 118, .inl (iA a))), (th, .inl (cy 1, 118, .inl (iA a2)))] := hD
    refine rr_ifP_eq F (tgt := 41) dX7_meet_34 (by decide) (fun c_34 => ?_) (fun c_34 => ?_)
    · exfalso; omega
    · exfalso; omega
  · refine lv_aload_n F.1 F.2.1 dX7_meet_9 rfl (lv_at hl 0 rfl) ?_
    refine lv_iload_n F.1 F.2.1 dX7_meet_10 rfl (lv_at hl 2 rfl) ?_
    refine rr_rdV (rest := [.ref mo]) F hK (c_X7_isWalker l D cy mo no th pa sl sv tx tr ss ty a v (by first | assumption | omega | exact ⟨by omega, by omega⟩) (by first | assumption | omega | exact ⟨by omega, by omega⟩)) (hP.sub [0, 1] rfl) sf_X7_isWalker tw1068 7 rfl rfl ⟨Nat.le_of_ble_eq_true rfl, Nat.le_of_ble_eq_true rfl⟩ hl rfl (Nat.le_of_ble_eq_true rfl) dX7_meet_11 ⟨Nat.zero_le _, Nat.zero_le _⟩ ?_
    refine rr_ifP_ne F (tgt := 21) dX7_meet_14 (by decide) (fun c_14 => ?_) (fun c_14 => ?_)
    · refine lv_iload_n F.1 F.2.1 dX7_meet_21 rfl (lv_at hl 1 rfl) ?_
      refine lv_iload_n F.1 F.2.1 dX7_meet_22 rfl (lv_at hl 2 rfl) ?_
      refine rr_icmp_ne F (tgt := 30) dX7_meet_23 (by decide) hw hv (fun c_23 => ?_) (fun c_23 => ?_)
      · refine rr_iconst F dX7_meet_30 ?_
        refine rr_wrV (rest := []) (wr := [(no, .inl (cy 1, 118, .inl (iA a))), (th, .inl (cy 1, 118, .inl (iA a2)))]) (ws2 := [(mo, .inr (7, [vI 0, .ref no, .ref th, .ref pa, vI ss, .ref sl, .ref sv, .ref tx, vI ty])), (no, .inl (cy 1, 118, .inl (iA a))), (th, .inl (cy 1, 118, .inl (iA a2)))]) F hK (c_X7_refuses l D cy mo no th pa sl sv tx tr ss ty 0 (by first | assumption | omega | exact ⟨by omega, by omega⟩)) hP hD hS hA sf_X7_refuses tw910 7 rfl rfl ⟨Nat.le_of_ble_eq_true rfl, Nat.le_of_ble_eq_true rfl⟩ hl rfl (Nat.le_of_ble_eq_true rfl) dX7_meet_31 ⟨Nat.zero_le _, Nat.zero_le _⟩ [0] [1, 2] [2, 0, 1] rfl rfl (by decide) (by decide) (by decide) rfl rfl (by decide) (fun H locs hP hD hS => ?_)
        have hP : va_P D vwCl [(mo, .inr (7, [vI 0, .ref no, .ref th, .ref pa, vI ss, .ref sl, .ref sv, .ref tx, vI ty])), (no, .inl (cy 1, 118, .inl (iA a))), (th, .inl (cy 1, 118, .inl (iA a2)))] H := hP
        have hD : va_D _ [(mo, .inr (7, [vI 0, .ref no, .ref th, .ref pa, vI ss, .ref sl, .ref sv, .ref tx, vI ty])), (no, .inl (cy 1, 118, .inl (iA a))), (th, .inl (cy 1, 118, .inl (iA a2)))] := hD
        refine rr_ifP_eq F (tgt := 41) dX7_meet_34 (by decide) (fun c_34 => ?_) (fun c_34 => ?_)
        · refine lv_aload_n F.1 F.2.1 dX7_meet_41 rfl (lv_at hl 0 rfl) ?_
          refine lv_iload_n F.1 F.2.1 dX7_meet_42 rfl (lv_at hl 1 rfl) ?_
          refine lv_iload_n F.1 F.2.1 dX7_meet_43 rfl (lv_at hl 2 rfl) ?_
          refine rr_wrV (rest := []) (wr := []) (ws2 := [(mo, .inr (7, [vI 0, .ref no, .ref th, .ref pa, vI ss, .ref sl, .ref sv, .ref tx, vI ty])), (no, .inl (cy 1, 118, .inl (iA a))), (th, .inl (cy 1, 118, .inl (iA (stW (stW a w (r25 (low (fun u_t => ps (a 0) (a (97 + 5 * w + 0)) (a (97 + 5 * w + 1)) (a (97 + 5 * w + 2)) u_t = ps (a 0) (a (97 + 5 * v + 0)) (a (97 + 5 * v + 1)) (a (97 + 5 * v + 2)) u_t) 25))) v (r25 (low (fun u_t => ps (a 0) (a (97 + 5 * w + 0)) (a (97 + 5 * w + 1)) (a (97 + 5 * w + 2)) u_t = ps (a 0) (a (97 + 5 * v + 0)) (a (97 + 5 * v + 1)) (a (97 + 5 * v + 2)) u_t) 25))))))]) F hK (c_X7_meets l D cy mo no th pa sl sv tx 0 ss ty a a2 w v (by first | assumption | omega | exact ⟨by omega, by omega⟩) (by first | assumption | omega | exact ⟨by omega, by omega⟩) (by first | assumption | omega | exact ⟨by omega, by omega⟩) (by first | assumption | omega | exact ⟨by omega, by omega⟩)) hP hD hS hA sf_X7_meets tw1176 7 rfl rfl ⟨Nat.le_of_ble_eq_true rfl, Nat.le_of_ble_eq_true rfl⟩ hl rfl (Nat.le_of_ble_eq_true rfl) dX7_meet_44 ⟨Nat.zero_le _, Nat.zero_le _⟩ [0, 1, 2] [] [0, 1, 2] rfl rfl (by decide) (by decide) (by decide) rfl rfl (by decide) (fun H locs hP hD hS => ?_)
          have hP : va_P D vwCl [(mo, .inr (7, [vI 0, .ref no, .ref th, .ref pa, vI ss, .ref sl, .ref sv, .ref tx, vI ty])), (no, .inl (cy 1, 118, .inl (iA a))), (th, .inl (cy 1, 118, .inl (iA (stW (stW a w (r25 (low (fun u_t => ps (a 0) (a (97 + 5 * w + 0)) (a (97 + 5 * w + 1)) (a (97 + 5 * w + 2)) u_t = ps (a 0) (a (97 + 5 * v + 0)) (a (97 + 5 * v + 1)) (a (97 + 5 * v + 2)) u_t) 25))) v (r25 (low (fun u_t => ps (a 0) (a (97 + 5 * w + 0)) (a (97 + 5 * w + 1)) (a (97 + 5 * w + 2)) u_t = ps (a 0) (a (97 + 5 * v + 0)) (a (97 + 5 * v + 1)) (a (97 + 5 * v + 2)) u_t) 25))))))] H := hP
          have hD : va_D _ [(mo, .inr (7, [vI 0, .ref no, .ref th, .ref pa, vI ss, .ref sl, .ref sv, .ref tx, vI ty])), (no, .inl (cy 1, 118, .inl (iA a))), (th, .inl (cy 1, 118, .inl (iA (stW (stW a w (r25 (low (fun u_t => ps (a 0) (a (97 + 5 * w + 0)) (a (97 + 5 * w + 1)) (a (97 + 5 * w + 2)) u_t = ps (a 0) (a (97 + 5 * v + 0)) (a (97 + 5 * v + 1)) (a (97 + 5 * v + 2)) u_t) 25))) v (r25 (low (fun u_t => ps (a 0) (a (97 + 5 * w + 0)) (a (97 + 5 * w + 1)) (a (97 + 5 * w + 2)) u_t = ps (a 0) (a (97 + 5 * v + 0)) (a (97 + 5 * v + 1)) (a (97 + 5 * v + 2)) u_t) 25))))))] := hD
          exact rr_wiret F hr hlocks dX7_meet_47 hP hS (rfl) (by first | rfl | omega)
        · exfalso; omega
      · refine rr_iconst F dX7_meet_26 ?_
        refine lv_goto (tgt := 31) F.1 F.2.1 dX7_meet_27 (by decide) ?_
        refine rr_wrV (rest := []) (wr := [(no, .inl (cy 1, 118, .inl (iA a))), (th, .inl (cy 1, 118, .inl (iA a2)))]) (ws2 := [(mo, .inr (7, [vI 2, .ref no, .ref th, .ref pa, vI ss, .ref sl, .ref sv, .ref tx, vI ty])), (no, .inl (cy 1, 118, .inl (iA a))), (th, .inl (cy 1, 118, .inl (iA a2)))]) F hK (c_X7_refuses l D cy mo no th pa sl sv tx tr ss ty 2 (by first | assumption | omega | exact ⟨by omega, by omega⟩)) hP hD hS hA sf_X7_refuses tw910 7 rfl rfl ⟨Nat.le_of_ble_eq_true rfl, Nat.le_of_ble_eq_true rfl⟩ hl rfl (Nat.le_of_ble_eq_true rfl) dX7_meet_31 ⟨Nat.zero_le _, Nat.zero_le _⟩ [0] [1, 2] [2, 0, 1] rfl rfl (by decide) (by decide) (by decide) rfl rfl (by decide) (fun H locs hP hD hS => ?_)
        have hP : va_P D vwCl [(mo, .inr (7, [vI 2, .ref no, .ref th, .ref pa, vI ss, .ref sl, .ref sv, .ref tx, vI ty])), (no, .inl (cy 1, 118, .inl (iA a))), (th, .inl (cy 1, 118, .inl (iA a2)))] H := hP
        have hD : va_D _ [(mo, .inr (7, [vI 2, .ref no, .ref th, .ref pa, vI ss, .ref sl, .ref sv, .ref tx, vI ty])), (no, .inl (cy 1, 118, .inl (iA a))), (th, .inl (cy 1, 118, .inl (iA a2)))] := hD
        refine rr_ifP_eq F (tgt := 41) dX7_meet_34 (by decide) (fun c_34 => ?_) (fun c_34 => ?_)
        · exfalso; omega
        · exfalso; omega
    · refine rr_iconst F dX7_meet_17 ?_
      refine lv_goto (tgt := 31) F.1 F.2.1 dX7_meet_18 (by decide) ?_
      refine rr_wrV (rest := []) (wr := [(no, .inl (cy 1, 118, .inl (iA a))), (th, .inl (cy 1, 118, .inl (iA a2)))]) (ws2 := [(mo, .inr (7, [vI 1, .ref no, .ref th, .ref pa, vI ss, .ref sl, .ref sv, .ref tx, vI ty])), (no, .inl (cy 1, 118, .inl (iA a))), (th, .inl (cy 1, 118, .inl (iA a2)))]) F hK (c_X7_refuses l D cy mo no th pa sl sv tx tr ss ty 1 (by first | assumption | omega | exact ⟨by omega, by omega⟩)) hP hD hS hA sf_X7_refuses tw910 7 rfl rfl ⟨Nat.le_of_ble_eq_true rfl, Nat.le_of_ble_eq_true rfl⟩ hl rfl (Nat.le_of_ble_eq_true rfl) dX7_meet_31 ⟨Nat.zero_le _, Nat.zero_le _⟩ [0] [1, 2] [2, 0, 1] rfl rfl (by decide) (by decide) (by decide) rfl rfl (by decide) (fun H locs hP hD hS => ?_)
      have hP : va_P D vwCl [(mo, .inr (7, [vI 1, .ref no, .ref th, .ref pa, vI ss, .ref sl, .ref sv, .ref tx, vI ty])), (no, .inl (cy 1, 118, .inl (iA a))), (th, .inl (cy 1, 118, .inl (iA a2)))] H := hP
      have hD : va_D _ [(mo, .inr (7, [vI 1, .ref no, .ref th, .ref pa, vI ss, .ref sl, .ref sv, .ref tx, vI ty])), (no, .inl (cy 1, 118, .inl (iA a))), (th, .inl (cy 1, 118, .inl (iA a2)))] := hD
      refine rr_ifP_eq F (tgt := 41) dX7_meet_34 (by decide) (fun c_34 => ?_) (fun c_34 => ?_)
      · exfalso; omega
      · exfalso; omega
set_option maxRecDepth 100000 in
set_option maxHeartbeats 4000000 in
theorem n_X7_meet (l : Launch) (D : va_G) (cy : Nat → ClassId) (mo no th pa sl sv tx : Nat) (tr ss ty : Int) (a a2 : Int → Int) (w v : Int) (hM : MR a) (hw : inR w) (hv : inR v) (hbad : ¬ ((0 ≤ w ∧ w < a 96) ∧ (0 ≤ v ∧ v < a 96) ∧ ¬ w = v)) : Wr l yX7_meet cX7_meet 3 (some FieldType.int) 2 [.ref mo, vI w, vI v] D cy [(mo, .inr (7, [vI tr, .ref no, .ref th, .ref pa, vI ss, .ref sl, .ref sv, .ref tx, vI ty])), (no, .inl (cy 1, 118, .inl (iA a))), (th, .inl (cy 1, 118, .inl (iA a2)))] [(mo, .inr (7, [vI (if (0 ≤ w ∧ w < a 96) ∧ (0 ≤ v ∧ v < a 96) then 2 else 1), .ref no, .ref th, .ref pa, vI ss, .ref sl, .ref sv, .ref tx, vI ty])), (no, .inl (cy 1, 118, .inl (iA a))), (th, .inl (cy 1, 118, .inl (iA a2)))] (some (vI 0)) := by
  refine Wr.of RX7 rfl [(0, .ref mo), (1, vI w), (2, vI v)] rfl (by decide +kernel) (Nat.le_of_ble_eq_true rfl) ?_
  intro p e s m args below meth c F hr hlocks hK hP hD hS hA ls hl
  have hn0 := hM.n
  have hw0 := hM.nw
  have hc0 := hM.wc
  refine lv_aload_n F.1 F.2.1 dX7_meet_0 rfl (lv_at hl 0 rfl) ?_
  refine lv_aload_n F.1 F.2.1 dX7_meet_1 rfl (lv_at hl 0 rfl) ?_
  refine lv_iload_n F.1 F.2.1 dX7_meet_2 rfl (lv_at hl 1 rfl) ?_
  refine rr_rdV (rest := [.ref mo]) F hK (c_X7_isWalker l D cy mo no th pa sl sv tx tr ss ty a w (by first | assumption | omega | exact ⟨by omega, by omega⟩) (by first | assumption | omega | exact ⟨by omega, by omega⟩)) (hP.sub [0, 1] rfl) sf_X7_isWalker tw1068 7 rfl rfl ⟨Nat.le_of_ble_eq_true rfl, Nat.le_of_ble_eq_true rfl⟩ hl rfl (Nat.le_of_ble_eq_true rfl) dX7_meet_3 ⟨Nat.zero_le _, Nat.zero_le _⟩ ?_
  refine rr_ifP_eq F (tgt := 17) dX7_meet_6 (by decide) (fun c_6 => ?_) (fun c_6 => ?_)
  · refine rr_iconst F dX7_meet_17 ?_
    refine lv_goto (tgt := 31) F.1 F.2.1 dX7_meet_18 (by decide) ?_
    refine rr_wrV (rest := []) (wr := [(no, .inl (cy 1, 118, .inl (iA a))), (th, .inl (cy 1, 118, .inl (iA a2)))]) (ws2 := [(mo, .inr (7, [vI 1, .ref no, .ref th, .ref pa, vI ss, .ref sl, .ref sv, .ref tx, vI ty])), (no, .inl (cy 1, 118, .inl (iA a))), (th, .inl (cy 1, 118, .inl (iA a2)))]) F hK (c_X7_refuses l D cy mo no th pa sl sv tx tr ss ty 1 (by first | assumption | omega | exact ⟨by omega, by omega⟩)) hP hD hS hA sf_X7_refuses tw910 7 rfl rfl ⟨Nat.le_of_ble_eq_true rfl, Nat.le_of_ble_eq_true rfl⟩ hl rfl (Nat.le_of_ble_eq_true rfl) dX7_meet_31 ⟨Nat.zero_le _, Nat.zero_le _⟩ [0] [1, 2] [2, 0, 1] rfl rfl (by decide) (by decide) (by decide) rfl rfl (by decide) (fun H locs hP hD hS => ?_)
    have hP : va_P D vwCl [(mo, .inr (7, [vI 1, .ref no, .ref th, .ref pa, vI ss, .ref sl, .ref sv, .ref tx, vI ty])), (no, .inl (cy 1, 118, .inl (iA a))), (th, .inl (cy 1, 118, .inl (iA a2)))] H := hP
    have hD : va_D _ [(mo, .inr (7, [vI 1, .ref no, .ref th, .ref pa, vI ss, .ref sl, .ref sv, .ref tx, vI ty])), (no, .inl (cy 1, 118, .inl (iA a))), (th, .inl (cy 1, 118, .inl (iA a2)))] := hD
    refine rr_ifP_eq F (tgt := 41) dX7_meet_34 (by decide) (fun c_34 => ?_) (fun c_34 => ?_)
    · exfalso; omega
    · refine rr_iconst F dX7_meet_37 ?_
      refine lv_goto (tgt := 47) F.1 F.2.1 dX7_meet_38 (by decide) ?_
      exact rr_wiret F hr hlocks dX7_meet_47 hP hS (by repeat' (first | rfl | split | omega)) (rfl)
  · refine lv_aload_n F.1 F.2.1 dX7_meet_9 rfl (lv_at hl 0 rfl) ?_
    refine lv_iload_n F.1 F.2.1 dX7_meet_10 rfl (lv_at hl 2 rfl) ?_
    refine rr_rdV (rest := [.ref mo]) F hK (c_X7_isWalker l D cy mo no th pa sl sv tx tr ss ty a v (by first | assumption | omega | exact ⟨by omega, by omega⟩) (by first | assumption | omega | exact ⟨by omega, by omega⟩)) (hP.sub [0, 1] rfl) sf_X7_isWalker tw1068 7 rfl rfl ⟨Nat.le_of_ble_eq_true rfl, Nat.le_of_ble_eq_true rfl⟩ hl rfl (Nat.le_of_ble_eq_true rfl) dX7_meet_11 ⟨Nat.zero_le _, Nat.zero_le _⟩ ?_
    refine rr_ifP_ne F (tgt := 21) dX7_meet_14 (by decide) (fun c_14 => ?_) (fun c_14 => ?_)
    · refine lv_iload_n F.1 F.2.1 dX7_meet_21 rfl (lv_at hl 1 rfl) ?_
      refine lv_iload_n F.1 F.2.1 dX7_meet_22 rfl (lv_at hl 2 rfl) ?_
      refine rr_icmp_ne F (tgt := 30) dX7_meet_23 (by decide) hw hv (fun c_23 => ?_) (fun c_23 => ?_)
      · refine rr_iconst F dX7_meet_30 ?_
        refine rr_wrV (rest := []) (wr := [(no, .inl (cy 1, 118, .inl (iA a))), (th, .inl (cy 1, 118, .inl (iA a2)))]) (ws2 := [(mo, .inr (7, [vI 0, .ref no, .ref th, .ref pa, vI ss, .ref sl, .ref sv, .ref tx, vI ty])), (no, .inl (cy 1, 118, .inl (iA a))), (th, .inl (cy 1, 118, .inl (iA a2)))]) F hK (c_X7_refuses l D cy mo no th pa sl sv tx tr ss ty 0 (by first | assumption | omega | exact ⟨by omega, by omega⟩)) hP hD hS hA sf_X7_refuses tw910 7 rfl rfl ⟨Nat.le_of_ble_eq_true rfl, Nat.le_of_ble_eq_true rfl⟩ hl rfl (Nat.le_of_ble_eq_true rfl) dX7_meet_31 ⟨Nat.zero_le _, Nat.zero_le _⟩ [0] [1, 2] [2, 0, 1] rfl rfl (by decide) (by decide) (by decide) rfl rfl (by decide) (fun H locs hP hD hS => ?_)
        have hP : va_P D vwCl [(mo, .inr (7, [vI 0, .ref no, .ref th, .ref pa, vI ss, .ref sl, .ref sv, .ref tx, vI ty])), (no, .inl (cy 1, 118, .inl (iA a))), (th, .inl (cy 1, 118, .inl (iA a2)))] H := hP
        have hD : va_D _ [(mo, .inr (7, [vI 0, .ref no, .ref th, .ref pa, vI ss, .ref sl, .ref sv, .ref tx, vI ty])), (no, .inl (cy 1, 118, .inl (iA a))), (th, .inl (cy 1, 118, .inl (iA a2)))] := hD
        refine rr_ifP_eq F (tgt := 41) dX7_meet_34 (by decide) (fun c_34 => ?_) (fun c_34 => ?_)
        · exfalso; omega
        · exfalso; omega
      · refine rr_iconst F dX7_meet_26 ?_
        refine lv_goto (tgt := 31) F.1 F.2.1 dX7_meet_27 (by decide) ?_
        refine rr_wrV (rest := []) (wr := [(no, .inl (cy 1, 118, .inl (iA a))), (th, .inl (cy 1, 118, .inl (iA a2)))]) (ws2 := [(mo, .inr (7, [vI 2, .ref no, .ref th, .ref pa, vI ss, .ref sl, .ref sv, .ref tx, vI ty])), (no, .inl (cy 1, 118, .inl (iA a))), (th, .inl (cy 1, 118, .inl (iA a2)))]) F hK (c_X7_refuses l D cy mo no th pa sl sv tx tr ss ty 2 (by first | assumption | omega | exact ⟨by omega, by omega⟩)) hP hD hS hA sf_X7_refuses tw910 7 rfl rfl ⟨Nat.le_of_ble_eq_true rfl, Nat.le_of_ble_eq_true rfl⟩ hl rfl (Nat.le_of_ble_eq_true rfl) dX7_meet_31 ⟨Nat.zero_le _, Nat.zero_le _⟩ [0] [1, 2] [2, 0, 1] rfl rfl (by decide) (by decide) (by decide) rfl rfl (by decide) (fun H locs hP hD hS => ?_)
        have hP : va_P D vwCl [(mo, .inr (7, [vI 2, .ref no, .ref th, .ref pa, vI ss, .ref sl, .ref sv, .ref tx, vI ty])), (no, .inl (cy 1, 118, .inl (iA a))), (th, .inl (cy 1, 118, .inl (iA a2)))] H := hP
        have hD : va_D _ [(mo, .inr (7, [vI 2, .ref no, .ref th, .ref pa, vI ss, .ref sl, .ref sv, .ref tx, vI ty])), (no, .inl (cy 1, 118, .inl (iA a))), (th, .inl (cy 1, 118, .inl (iA a2)))] := hD
        refine rr_ifP_eq F (tgt := 41) dX7_meet_34 (by decide) (fun c_34 => ?_) (fun c_34 => ?_)
        · exfalso; omega
        · refine rr_iconst F dX7_meet_37 ?_
          refine lv_goto (tgt := 47) F.1 F.2.1 dX7_meet_38 (by decide) ?_
          exact rr_wiret F hr hlocks dX7_meet_47 hP hS (by repeat' (first | rfl | split | omega)) (rfl)
    · refine rr_iconst F dX7_meet_17 ?_
      refine lv_goto (tgt := 31) F.1 F.2.1 dX7_meet_18 (by decide) ?_
      refine rr_wrV (rest := []) (wr := [(no, .inl (cy 1, 118, .inl (iA a))), (th, .inl (cy 1, 118, .inl (iA a2)))]) (ws2 := [(mo, .inr (7, [vI 1, .ref no, .ref th, .ref pa, vI ss, .ref sl, .ref sv, .ref tx, vI ty])), (no, .inl (cy 1, 118, .inl (iA a))), (th, .inl (cy 1, 118, .inl (iA a2)))]) F hK (c_X7_refuses l D cy mo no th pa sl sv tx tr ss ty 1 (by first | assumption | omega | exact ⟨by omega, by omega⟩)) hP hD hS hA sf_X7_refuses tw910 7 rfl rfl ⟨Nat.le_of_ble_eq_true rfl, Nat.le_of_ble_eq_true rfl⟩ hl rfl (Nat.le_of_ble_eq_true rfl) dX7_meet_31 ⟨Nat.zero_le _, Nat.zero_le _⟩ [0] [1, 2] [2, 0, 1] rfl rfl (by decide) (by decide) (by decide) rfl rfl (by decide) (fun H locs hP hD hS => ?_)
      have hP : va_P D vwCl [(mo, .inr (7, [vI 1, .ref no, .ref th, .ref pa, vI ss, .ref sl, .ref sv, .ref tx, vI ty])), (no, .inl (cy 1, 118, .inl (iA a))), (th, .inl (cy 1, 118, .inl (iA a2)))] H := hP
      have hD : va_D _ [(mo, .inr (7, [vI 1, .ref no, .ref th, .ref pa, vI ss, .ref sl, .ref sv, .ref tx, vI ty])), (no, .inl (cy 1, 118, .inl (iA a))), (th, .inl (cy 1, 118, .inl (iA a2)))] := hD
      refine rr_ifP_eq F (tgt := 41) dX7_meet_34 (by decide) (fun c_34 => ?_) (fun c_34 => ?_)
      · exfalso; omega
      · refine rr_iconst F dX7_meet_37 ?_
        refine lv_goto (tgt := 47) F.1 F.2.1 dX7_meet_38 (by decide) ?_
        exact rr_wiret F hr hlocks dX7_meet_47 hP hS (by repeat' (first | rfl | split | omega)) (rfl)
set_option maxRecDepth 100000 in
set_option maxHeartbeats 4000000 in
theorem c_X7_seesAll (l : Launch) (D : va_G) (cy : Nat → ClassId) (mo no th pa sl sv tx : Nat) (tr ss ty : Int) (a a2 : Int → Int) (w : Int) (hM : MR a) (hw : inR w) (h1 : 0 ≤ w ∧ w < a 96) : Wr l yX7_seesAll cX7_seesAll 2 (some FieldType.int) 4 [.ref mo, vI w] D cy [(mo, .inr (7, [vI tr, .ref no, .ref th, .ref pa, vI ss, .ref sl, .ref sv, .ref tx, vI ty])), (no, .inl (cy 1, 118, .inl (iA a))), (th, .inl (cy 1, 118, .inl (iA a2)))] [(mo, .inr (7, [vI 0, .ref no, .ref th, .ref pa, vI ss, .ref sl, .ref sv, .ref tx, vI ty])), (no, .inl (cy 1, 118, .inl (iA a))), (th, .inl (cy 1, 118, .inl (iA (stW a w (r25 (low (fun t => cnt (bit (se (a 0) (a (97 + 5 * w + 0)) (a (97 + 5 * w + 1)) (a (97 + 5 * w + 2)) (a (97 + 5 * w + 3)) (a (97 + 5 * w + 4)) t)) 24 = a 0) 25))))))] (some (vI (low (fun t => cnt (bit (se (a 0) (a (97 + 5 * w + 0)) (a (97 + 5 * w + 1)) (a (97 + 5 * w + 2)) (a (97 + 5 * w + 3)) (a (97 + 5 * w + 4)) t)) 24 = a 0) 25))) := by
  refine Wr.of RX7 rfl [(0, .ref mo), (1, vI w)] rfl (by decide +kernel) (Nat.le_of_ble_eq_true rfl) ?_
  intro p e s m args below meth c F hr hlocks hK hP hD hS hA ls hl
  have hn0 := hM.n
  have hw0 := hM.nw
  have hc0 := hM.wc
  refine lv_aload_n F.1 F.2.1 dX7_seesAll_0 rfl (lv_at hl 0 rfl) ?_
  refine lv_aload_n F.1 F.2.1 dX7_seesAll_1 rfl (lv_at hl 0 rfl) ?_
  refine lv_iload_n F.1 F.2.1 dX7_seesAll_2 rfl (lv_at hl 1 rfl) ?_
  refine rr_rdV (rest := [.ref mo]) F hK (c_X7_isWalker l D cy mo no th pa sl sv tx tr ss ty a w (by first | assumption | omega | exact ⟨by omega, by omega⟩) (by first | assumption | omega | exact ⟨by omega, by omega⟩)) (hP.sub [0, 1] rfl) sf_X7_isWalker tw1068 7 rfl rfl ⟨Nat.le_of_ble_eq_true rfl, Nat.le_of_ble_eq_true rfl⟩ hl rfl (Nat.le_of_ble_eq_true rfl) dX7_seesAll_3 ⟨Nat.zero_le _, Nat.zero_le _⟩ ?_
  refine rr_ifP_eq F (tgt := 13) dX7_seesAll_6 (by decide) (fun c_6 => ?_) (fun c_6 => ?_)
  · refine rr_iconst F dX7_seesAll_13 ?_
    refine rr_wrV (rest := []) (wr := [(no, .inl (cy 1, 118, .inl (iA a))), (th, .inl (cy 1, 118, .inl (iA a2)))]) (ws2 := [(mo, .inr (7, [vI 1, .ref no, .ref th, .ref pa, vI ss, .ref sl, .ref sv, .ref tx, vI ty])), (no, .inl (cy 1, 118, .inl (iA a))), (th, .inl (cy 1, 118, .inl (iA a2)))]) F hK (c_X7_refuses l D cy mo no th pa sl sv tx tr ss ty 1 (by first | assumption | omega | exact ⟨by omega, by omega⟩)) hP hD hS hA sf_X7_refuses tw910 7 rfl rfl ⟨Nat.le_of_ble_eq_true rfl, Nat.le_of_ble_eq_true rfl⟩ hl rfl (Nat.le_of_ble_eq_true rfl) dX7_seesAll_14 ⟨Nat.zero_le _, Nat.zero_le _⟩ [0] [1, 2] [2, 0, 1] rfl rfl (by decide) (by decide) (by decide) rfl rfl (by decide) (fun H locs hP hD hS => ?_)
    have hP : va_P D vwCl [(mo, .inr (7, [vI 1, .ref no, .ref th, .ref pa, vI ss, .ref sl, .ref sv, .ref tx, vI ty])), (no, .inl (cy 1, 118, .inl (iA a))), (th, .inl (cy 1, 118, .inl (iA a2)))] H := hP
    have hD : va_D _ [(mo, .inr (7, [vI 1, .ref no, .ref th, .ref pa, vI ss, .ref sl, .ref sv, .ref tx, vI ty])), (no, .inl (cy 1, 118, .inl (iA a))), (th, .inl (cy 1, 118, .inl (iA a2)))] := hD
    refine rr_ifP_eq F (tgt := 24) dX7_seesAll_17 (by decide) (fun c_17 => ?_) (fun c_17 => ?_)
    · exfalso; omega
    · exfalso; omega
  · refine rr_iconst F dX7_seesAll_9 ?_
    refine lv_goto (tgt := 14) F.1 F.2.1 dX7_seesAll_10 (by decide) ?_
    refine rr_wrV (rest := []) (wr := [(no, .inl (cy 1, 118, .inl (iA a))), (th, .inl (cy 1, 118, .inl (iA a2)))]) (ws2 := [(mo, .inr (7, [vI 0, .ref no, .ref th, .ref pa, vI ss, .ref sl, .ref sv, .ref tx, vI ty])), (no, .inl (cy 1, 118, .inl (iA a))), (th, .inl (cy 1, 118, .inl (iA a2)))]) F hK (c_X7_refuses l D cy mo no th pa sl sv tx tr ss ty 0 (by first | assumption | omega | exact ⟨by omega, by omega⟩)) hP hD hS hA sf_X7_refuses tw910 7 rfl rfl ⟨Nat.le_of_ble_eq_true rfl, Nat.le_of_ble_eq_true rfl⟩ hl rfl (Nat.le_of_ble_eq_true rfl) dX7_seesAll_14 ⟨Nat.zero_le _, Nat.zero_le _⟩ [0] [1, 2] [2, 0, 1] rfl rfl (by decide) (by decide) (by decide) rfl rfl (by decide) (fun H locs hP hD hS => ?_)
    have hP : va_P D vwCl [(mo, .inr (7, [vI 0, .ref no, .ref th, .ref pa, vI ss, .ref sl, .ref sv, .ref tx, vI ty])), (no, .inl (cy 1, 118, .inl (iA a))), (th, .inl (cy 1, 118, .inl (iA a2)))] H := hP
    have hD : va_D _ [(mo, .inr (7, [vI 0, .ref no, .ref th, .ref pa, vI ss, .ref sl, .ref sv, .ref tx, vI ty])), (no, .inl (cy 1, 118, .inl (iA a))), (th, .inl (cy 1, 118, .inl (iA a2)))] := hD
    refine rr_ifP_eq F (tgt := 24) dX7_seesAll_17 (by decide) (fun c_17 => ?_) (fun c_17 => ?_)
    · refine lv_aload_n F.1 F.2.1 dX7_seesAll_24 rfl (lv_at hl 0 rfl) ?_
      refine lv_iload_n F.1 F.2.1 dX7_seesAll_25 rfl (lv_at hl 1 rfl) ?_
      refine rr_wrV (rest := []) (wr := []) (ws2 := [(mo, .inr (7, [vI 0, .ref no, .ref th, .ref pa, vI ss, .ref sl, .ref sv, .ref tx, vI ty])), (no, .inl (cy 1, 118, .inl (iA a))), (th, .inl (cy 1, 118, .inl (iA (stW a w (r25 (low (fun u_t => cnt (bit (se (a 0) (a (97 + 5 * w + 0)) (a (97 + 5 * w + 1)) (a (97 + 5 * w + 2)) (a (97 + 5 * w + 3)) (a (97 + 5 * w + 4)) u_t)) 24 = a 0) 25))))))]) F hK (c_X7_seesIn l D cy mo no th pa sl sv tx 0 ss ty a a2 w (by first | assumption | omega | exact ⟨by omega, by omega⟩) (by first | assumption | omega | exact ⟨by omega, by omega⟩)) hP hD hS hA sf_X7_seesIn tw1184 7 rfl rfl ⟨Nat.le_of_ble_eq_true rfl, Nat.le_of_ble_eq_true rfl⟩ hl rfl (Nat.le_of_ble_eq_true rfl) dX7_seesAll_26 ⟨Nat.zero_le _, Nat.zero_le _⟩ [0, 1, 2] [] [0, 1, 2] rfl rfl (by decide) (by decide) (by decide) rfl rfl (by decide) (fun H locs hP hD hS => ?_)
      have hP : va_P D vwCl [(mo, .inr (7, [vI 0, .ref no, .ref th, .ref pa, vI ss, .ref sl, .ref sv, .ref tx, vI ty])), (no, .inl (cy 1, 118, .inl (iA a))), (th, .inl (cy 1, 118, .inl (iA (stW a w (r25 (low (fun u_t => cnt (bit (se (a 0) (a (97 + 5 * w + 0)) (a (97 + 5 * w + 1)) (a (97 + 5 * w + 2)) (a (97 + 5 * w + 3)) (a (97 + 5 * w + 4)) u_t)) 24 = a 0) 25))))))] H := hP
      have hD : va_D _ [(mo, .inr (7, [vI 0, .ref no, .ref th, .ref pa, vI ss, .ref sl, .ref sv, .ref tx, vI ty])), (no, .inl (cy 1, 118, .inl (iA a))), (th, .inl (cy 1, 118, .inl (iA (stW a w (r25 (low (fun u_t => cnt (bit (se (a 0) (a (97 + 5 * w + 0)) (a (97 + 5 * w + 1)) (a (97 + 5 * w + 2)) (a (97 + 5 * w + 3)) (a (97 + 5 * w + 4)) u_t)) 24 = a 0) 25))))))] := hD
      exact rr_wiret F hr hlocks dX7_seesAll_29 hP hS (rfl) (by first | rfl | omega)
    · exfalso; omega
set_option maxRecDepth 100000 in
set_option maxHeartbeats 4000000 in
theorem n_X7_seesAll (l : Launch) (D : va_G) (cy : Nat → ClassId) (mo no th pa sl sv tx : Nat) (tr ss ty : Int) (a a2 : Int → Int) (w : Int) (hM : MR a) (hw : inR w) (hbad : ¬ (0 ≤ w ∧ w < a 96)) : Wr l yX7_seesAll cX7_seesAll 2 (some FieldType.int) 2 [.ref mo, vI w] D cy [(mo, .inr (7, [vI tr, .ref no, .ref th, .ref pa, vI ss, .ref sl, .ref sv, .ref tx, vI ty])), (no, .inl (cy 1, 118, .inl (iA a))), (th, .inl (cy 1, 118, .inl (iA a2)))] [(mo, .inr (7, [vI 1, .ref no, .ref th, .ref pa, vI ss, .ref sl, .ref sv, .ref tx, vI ty])), (no, .inl (cy 1, 118, .inl (iA a))), (th, .inl (cy 1, 118, .inl (iA a2)))] (some (vI 0)) := by
  refine Wr.of RX7 rfl [(0, .ref mo), (1, vI w)] rfl (by decide +kernel) (Nat.le_of_ble_eq_true rfl) ?_
  intro p e s m args below meth c F hr hlocks hK hP hD hS hA ls hl
  have hn0 := hM.n
  have hw0 := hM.nw
  have hc0 := hM.wc
  refine lv_aload_n F.1 F.2.1 dX7_seesAll_0 rfl (lv_at hl 0 rfl) ?_
  refine lv_aload_n F.1 F.2.1 dX7_seesAll_1 rfl (lv_at hl 0 rfl) ?_
  refine lv_iload_n F.1 F.2.1 dX7_seesAll_2 rfl (lv_at hl 1 rfl) ?_
  refine rr_rdV (rest := [.ref mo]) F hK (c_X7_isWalker l D cy mo no th pa sl sv tx tr ss ty a w (by first | assumption | omega | exact ⟨by omega, by omega⟩) (by first | assumption | omega | exact ⟨by omega, by omega⟩)) (hP.sub [0, 1] rfl) sf_X7_isWalker tw1068 7 rfl rfl ⟨Nat.le_of_ble_eq_true rfl, Nat.le_of_ble_eq_true rfl⟩ hl rfl (Nat.le_of_ble_eq_true rfl) dX7_seesAll_3 ⟨Nat.zero_le _, Nat.zero_le _⟩ ?_
  refine rr_ifP_eq F (tgt := 13) dX7_seesAll_6 (by decide) (fun c_6 => ?_) (fun c_6 => ?_)
  · refine rr_iconst F dX7_seesAll_13 ?_
    refine rr_wrV (rest := []) (wr := [(no, .inl (cy 1, 118, .inl (iA a))), (th, .inl (cy 1, 118, .inl (iA a2)))]) (ws2 := [(mo, .inr (7, [vI 1, .ref no, .ref th, .ref pa, vI ss, .ref sl, .ref sv, .ref tx, vI ty])), (no, .inl (cy 1, 118, .inl (iA a))), (th, .inl (cy 1, 118, .inl (iA a2)))]) F hK (c_X7_refuses l D cy mo no th pa sl sv tx tr ss ty 1 (by first | assumption | omega | exact ⟨by omega, by omega⟩)) hP hD hS hA sf_X7_refuses tw910 7 rfl rfl ⟨Nat.le_of_ble_eq_true rfl, Nat.le_of_ble_eq_true rfl⟩ hl rfl (Nat.le_of_ble_eq_true rfl) dX7_seesAll_14 ⟨Nat.zero_le _, Nat.zero_le _⟩ [0] [1, 2] [2, 0, 1] rfl rfl (by decide) (by decide) (by decide) rfl rfl (by decide) (fun H locs hP hD hS => ?_)
    have hP : va_P D vwCl [(mo, .inr (7, [vI 1, .ref no, .ref th, .ref pa, vI ss, .ref sl, .ref sv, .ref tx, vI ty])), (no, .inl (cy 1, 118, .inl (iA a))), (th, .inl (cy 1, 118, .inl (iA a2)))] H := hP
    have hD : va_D _ [(mo, .inr (7, [vI 1, .ref no, .ref th, .ref pa, vI ss, .ref sl, .ref sv, .ref tx, vI ty])), (no, .inl (cy 1, 118, .inl (iA a))), (th, .inl (cy 1, 118, .inl (iA a2)))] := hD
    refine rr_ifP_eq F (tgt := 24) dX7_seesAll_17 (by decide) (fun c_17 => ?_) (fun c_17 => ?_)
    · exfalso; omega
    · refine rr_iconst F dX7_seesAll_20 ?_
      refine lv_goto (tgt := 29) F.1 F.2.1 dX7_seesAll_21 (by decide) ?_
      exact rr_wiret F hr hlocks dX7_seesAll_29 hP hS (by repeat' (first | rfl | split | omega)) (rfl)
  · refine rr_iconst F dX7_seesAll_9 ?_
    refine lv_goto (tgt := 14) F.1 F.2.1 dX7_seesAll_10 (by decide) ?_
    refine rr_wrV (rest := []) (wr := [(no, .inl (cy 1, 118, .inl (iA a))), (th, .inl (cy 1, 118, .inl (iA a2)))]) (ws2 := [(mo, .inr (7, [vI 0, .ref no, .ref th, .ref pa, vI ss, .ref sl, .ref sv, .ref tx, vI ty])), (no, .inl (cy 1, 118, .inl (iA a))), (th, .inl (cy 1, 118, .inl (iA a2)))]) F hK (c_X7_refuses l D cy mo no th pa sl sv tx tr ss ty 0 (by first | assumption | omega | exact ⟨by omega, by omega⟩)) hP hD hS hA sf_X7_refuses tw910 7 rfl rfl ⟨Nat.le_of_ble_eq_true rfl, Nat.le_of_ble_eq_true rfl⟩ hl rfl (Nat.le_of_ble_eq_true rfl) dX7_seesAll_14 ⟨Nat.zero_le _, Nat.zero_le _⟩ [0] [1, 2] [2, 0, 1] rfl rfl (by decide) (by decide) (by decide) rfl rfl (by decide) (fun H locs hP hD hS => ?_)
    have hP : va_P D vwCl [(mo, .inr (7, [vI 0, .ref no, .ref th, .ref pa, vI ss, .ref sl, .ref sv, .ref tx, vI ty])), (no, .inl (cy 1, 118, .inl (iA a))), (th, .inl (cy 1, 118, .inl (iA a2)))] H := hP
    have hD : va_D _ [(mo, .inr (7, [vI 0, .ref no, .ref th, .ref pa, vI ss, .ref sl, .ref sv, .ref tx, vI ty])), (no, .inl (cy 1, 118, .inl (iA a))), (th, .inl (cy 1, 118, .inl (iA a2)))] := hD
    refine rr_ifP_eq F (tgt := 24) dX7_seesAll_17 (by decide) (fun c_17 => ?_) (fun c_17 => ?_)
    · exfalso; omega
    · exfalso; omega
set_option maxRecDepth 100000 in
set_option maxHeartbeats 4000000 in
theorem c_X7_ifWorn (l : Launch) (D : va_G) (cy : Nat → ClassId) (mo no th pa sl sv tx : Nat) (tr ss ty : Int) (a a2 : Int → Int) (i0 d : Int) (hM : MR a) (hi : inR i0) (hd : inR d) (h1 : 0 ≤ i0 ∧ i0 < a 0) (h2 : 0 ≤ d ∧ d ≤ 1) : Wr l yX7_ifWorn cX7_ifWorn 3 (some FieldType.int) 6 [.ref mo, vI i0, vI d] D cy [(mo, .inr (7, [vI tr, .ref no, .ref th, .ref pa, vI ss, .ref sl, .ref sv, .ref tx, vI ty])), (no, .inl (cy 1, 118, .inl (iA a))), (th, .inl (cy 1, 118, .inl (iA a2)))] [(mo, .inr (7, [vI 0, .ref no, .ref th, .ref pa, vI ss, .ref sl, .ref sv, .ref tx, vI ty])), (no, .inl (cy 1, 118, .inl (iA a))), (th, .inl (cy 1, 118, .inl (iA (updZ a (1 + i0) (if a (1 + i0) = 0 then 0 else 9)))))] (some (vI (rdg ((updZ a (1 + i0) (if a (1 + i0) = 0 then 0 else 9)) 0) (rq (updZ a (1 + i0) (if a (1 + i0) = 0 then 0 else 9))) ((updZ a (1 + i0) (if a (1 + i0) = 0 then 0 else 9)) 25) (rbl (updZ a (1 + i0) (if a (1 + i0) = 0 then 0 else 9))) (rbc (updZ a (1 + i0) (if a (1 + i0) = 0 then 0 else 9))) d))) := by
  refine Wr.of RX7 rfl [(0, .ref mo), (1, vI i0), (2, vI d)] rfl (by decide +kernel) (Nat.le_of_ble_eq_true rfl) ?_
  intro p e s m args below meth c F hr hlocks hK hP hD hS hA ls hl
  have hn0 := hM.n
  have hw0 := hM.nw
  have hc0 := hM.wc
  refine lv_aload_n F.1 F.2.1 dX7_ifWorn_0 rfl (lv_at hl 0 rfl) ?_
  refine lv_aload_n F.1 F.2.1 dX7_ifWorn_1 rfl (lv_at hl 0 rfl) ?_
  refine lv_iload_n F.1 F.2.1 dX7_ifWorn_2 rfl (lv_at hl 1 rfl) ?_
  refine rr_rdV (rest := [.ref mo]) F hK (c_X7_isPlace l D cy mo no th pa sl sv tx tr ss ty a i0 (by first | assumption | omega | exact ⟨by omega, by omega⟩) (by first | assumption | omega | exact ⟨by omega, by omega⟩)) (hP.sub [0, 1] rfl) sf_X7_isPlace tw985 7 rfl rfl ⟨Nat.le_of_ble_eq_true rfl, Nat.le_of_ble_eq_true rfl⟩ hl rfl (Nat.le_of_ble_eq_true rfl) dX7_ifWorn_3 ⟨Nat.zero_le _, Nat.zero_le _⟩ ?_
  refine rr_ifP_eq F (tgt := 20) dX7_ifWorn_6 (by decide) (fun c_6 => ?_) (fun c_6 => ?_)
  · refine rr_iconst F dX7_ifWorn_20 ?_
    refine rr_wrV (rest := []) (wr := [(no, .inl (cy 1, 118, .inl (iA a))), (th, .inl (cy 1, 118, .inl (iA a2)))]) (ws2 := [(mo, .inr (7, [vI 1, .ref no, .ref th, .ref pa, vI ss, .ref sl, .ref sv, .ref tx, vI ty])), (no, .inl (cy 1, 118, .inl (iA a))), (th, .inl (cy 1, 118, .inl (iA a2)))]) F hK (c_X7_refuses l D cy mo no th pa sl sv tx tr ss ty 1 (by first | assumption | omega | exact ⟨by omega, by omega⟩)) hP hD hS hA sf_X7_refuses tw910 7 rfl rfl ⟨Nat.le_of_ble_eq_true rfl, Nat.le_of_ble_eq_true rfl⟩ hl rfl (Nat.le_of_ble_eq_true rfl) dX7_ifWorn_21 ⟨Nat.zero_le _, Nat.zero_le _⟩ [0] [1, 2] [2, 0, 1] rfl rfl (by decide) (by decide) (by decide) rfl rfl (by decide) (fun H locs hP hD hS => ?_)
    have hP : va_P D vwCl [(mo, .inr (7, [vI 1, .ref no, .ref th, .ref pa, vI ss, .ref sl, .ref sv, .ref tx, vI ty])), (no, .inl (cy 1, 118, .inl (iA a))), (th, .inl (cy 1, 118, .inl (iA a2)))] H := hP
    have hD : va_D _ [(mo, .inr (7, [vI 1, .ref no, .ref th, .ref pa, vI ss, .ref sl, .ref sv, .ref tx, vI ty])), (no, .inl (cy 1, 118, .inl (iA a))), (th, .inl (cy 1, 118, .inl (iA a2)))] := hD
    refine rr_ifP_eq F (tgt := 31) dX7_ifWorn_24 (by decide) (fun c_24 => ?_) (fun c_24 => ?_)
    · exfalso; omega
    · exfalso; omega
  · refine lv_iload_n F.1 F.2.1 dX7_ifWorn_9 rfl (lv_at hl 2 rfl) ?_
    refine rr_rdS (rest := [.ref mo]) F hK (c_X7_isWay l D cy d (by first | assumption | omega | exact ⟨by omega, by omega⟩)) (hP.sub [] rfl) sf_X7_isWay tw1004 ⟨Nat.le_of_ble_eq_true rfl, Nat.le_of_ble_eq_true rfl⟩ hl rfl (Nat.le_of_ble_eq_true rfl) dX7_ifWorn_10 ⟨Nat.zero_le _, Nat.zero_le _⟩ ?_
    refine rr_ifP_eq F (tgt := 20) dX7_ifWorn_13 (by decide) (fun c_13 => ?_) (fun c_13 => ?_)
    · refine rr_iconst F dX7_ifWorn_20 ?_
      refine rr_wrV (rest := []) (wr := [(no, .inl (cy 1, 118, .inl (iA a))), (th, .inl (cy 1, 118, .inl (iA a2)))]) (ws2 := [(mo, .inr (7, [vI 1, .ref no, .ref th, .ref pa, vI ss, .ref sl, .ref sv, .ref tx, vI ty])), (no, .inl (cy 1, 118, .inl (iA a))), (th, .inl (cy 1, 118, .inl (iA a2)))]) F hK (c_X7_refuses l D cy mo no th pa sl sv tx tr ss ty 1 (by first | assumption | omega | exact ⟨by omega, by omega⟩)) hP hD hS hA sf_X7_refuses tw910 7 rfl rfl ⟨Nat.le_of_ble_eq_true rfl, Nat.le_of_ble_eq_true rfl⟩ hl rfl (Nat.le_of_ble_eq_true rfl) dX7_ifWorn_21 ⟨Nat.zero_le _, Nat.zero_le _⟩ [0] [1, 2] [2, 0, 1] rfl rfl (by decide) (by decide) (by decide) rfl rfl (by decide) (fun H locs hP hD hS => ?_)
      have hP : va_P D vwCl [(mo, .inr (7, [vI 1, .ref no, .ref th, .ref pa, vI ss, .ref sl, .ref sv, .ref tx, vI ty])), (no, .inl (cy 1, 118, .inl (iA a))), (th, .inl (cy 1, 118, .inl (iA a2)))] H := hP
      have hD : va_D _ [(mo, .inr (7, [vI 1, .ref no, .ref th, .ref pa, vI ss, .ref sl, .ref sv, .ref tx, vI ty])), (no, .inl (cy 1, 118, .inl (iA a))), (th, .inl (cy 1, 118, .inl (iA a2)))] := hD
      refine rr_ifP_eq F (tgt := 31) dX7_ifWorn_24 (by decide) (fun c_24 => ?_) (fun c_24 => ?_)
      · exfalso; omega
      · exfalso; omega
    · refine rr_iconst F dX7_ifWorn_16 ?_
      refine lv_goto (tgt := 21) F.1 F.2.1 dX7_ifWorn_17 (by decide) ?_
      refine rr_wrV (rest := []) (wr := [(no, .inl (cy 1, 118, .inl (iA a))), (th, .inl (cy 1, 118, .inl (iA a2)))]) (ws2 := [(mo, .inr (7, [vI 0, .ref no, .ref th, .ref pa, vI ss, .ref sl, .ref sv, .ref tx, vI ty])), (no, .inl (cy 1, 118, .inl (iA a))), (th, .inl (cy 1, 118, .inl (iA a2)))]) F hK (c_X7_refuses l D cy mo no th pa sl sv tx tr ss ty 0 (by first | assumption | omega | exact ⟨by omega, by omega⟩)) hP hD hS hA sf_X7_refuses tw910 7 rfl rfl ⟨Nat.le_of_ble_eq_true rfl, Nat.le_of_ble_eq_true rfl⟩ hl rfl (Nat.le_of_ble_eq_true rfl) dX7_ifWorn_21 ⟨Nat.zero_le _, Nat.zero_le _⟩ [0] [1, 2] [2, 0, 1] rfl rfl (by decide) (by decide) (by decide) rfl rfl (by decide) (fun H locs hP hD hS => ?_)
      have hP : va_P D vwCl [(mo, .inr (7, [vI 0, .ref no, .ref th, .ref pa, vI ss, .ref sl, .ref sv, .ref tx, vI ty])), (no, .inl (cy 1, 118, .inl (iA a))), (th, .inl (cy 1, 118, .inl (iA a2)))] H := hP
      have hD : va_D _ [(mo, .inr (7, [vI 0, .ref no, .ref th, .ref pa, vI ss, .ref sl, .ref sv, .ref tx, vI ty])), (no, .inl (cy 1, 118, .inl (iA a))), (th, .inl (cy 1, 118, .inl (iA a2)))] := hD
      refine rr_ifP_eq F (tgt := 31) dX7_ifWorn_24 (by decide) (fun c_24 => ?_) (fun c_24 => ?_)
      · refine lv_aload_n F.1 F.2.1 dX7_ifWorn_31 rfl (lv_at hl 0 rfl) ?_
        refine lv_iload_n F.1 F.2.1 dX7_ifWorn_32 rfl (lv_at hl 1 rfl) ?_
        refine lv_iload_n F.1 F.2.1 dX7_ifWorn_33 rfl (lv_at hl 2 rfl) ?_
        refine rr_wrV (rest := []) (wr := []) (ws2 := [(mo, .inr (7, [vI 0, .ref no, .ref th, .ref pa, vI ss, .ref sl, .ref sv, .ref tx, vI ty])), (no, .inl (cy 1, 118, .inl (iA a))), (th, .inl (cy 1, 118, .inl (iA (updZ a (1 + i0) (if a (1 + i0) = 0 then 0 else 9)))))]) F hK (c_X7_wornReadings l D cy mo no th pa sl sv tx 0 ss ty a a2 i0 d (by first | assumption | omega | exact ⟨by omega, by omega⟩) (by first | assumption | omega | exact ⟨by omega, by omega⟩) (by first | assumption | omega | exact ⟨by omega, by omega⟩)) hP hD hS hA sf_X7_wornReadings tw1192 7 rfl rfl ⟨Nat.le_of_ble_eq_true rfl, Nat.le_of_ble_eq_true rfl⟩ hl rfl (Nat.le_of_ble_eq_true rfl) dX7_ifWorn_34 ⟨Nat.zero_le _, Nat.zero_le _⟩ [0, 1, 2] [] [0, 1, 2] rfl rfl (by decide) (by decide) (by decide) rfl rfl (by decide) (fun H locs hP hD hS => ?_)
        have hP : va_P D vwCl [(mo, .inr (7, [vI 0, .ref no, .ref th, .ref pa, vI ss, .ref sl, .ref sv, .ref tx, vI ty])), (no, .inl (cy 1, 118, .inl (iA a))), (th, .inl (cy 1, 118, .inl (iA (updZ a (1 + i0) (if a (1 + i0) = 0 then 0 else 9)))))] H := hP
        have hD : va_D _ [(mo, .inr (7, [vI 0, .ref no, .ref th, .ref pa, vI ss, .ref sl, .ref sv, .ref tx, vI ty])), (no, .inl (cy 1, 118, .inl (iA a))), (th, .inl (cy 1, 118, .inl (iA (updZ a (1 + i0) (if a (1 + i0) = 0 then 0 else 9)))))] := hD
        exact rr_wiret F hr hlocks dX7_ifWorn_37 hP hS (rfl) (by first | rfl | omega)
      · exfalso; omega
set_option maxRecDepth 100000 in
set_option maxHeartbeats 4000000 in
theorem n_X7_ifWorn (l : Launch) (D : va_G) (cy : Nat → ClassId) (mo no th pa sl sv tx : Nat) (tr ss ty : Int) (a a2 : Int → Int) (i0 d : Int) (hM : MR a) (hi : inR i0) (hd : inR d) (hbad : ¬ ((0 ≤ i0 ∧ i0 < a 0) ∧ 0 ≤ d ∧ d ≤ 1)) : Wr l yX7_ifWorn cX7_ifWorn 3 (some FieldType.int) 2 [.ref mo, vI i0, vI d] D cy [(mo, .inr (7, [vI tr, .ref no, .ref th, .ref pa, vI ss, .ref sl, .ref sv, .ref tx, vI ty])), (no, .inl (cy 1, 118, .inl (iA a))), (th, .inl (cy 1, 118, .inl (iA a2)))] [(mo, .inr (7, [vI 1, .ref no, .ref th, .ref pa, vI ss, .ref sl, .ref sv, .ref tx, vI ty])), (no, .inl (cy 1, 118, .inl (iA a))), (th, .inl (cy 1, 118, .inl (iA a2)))] (some (vI 0)) := by
  refine Wr.of RX7 rfl [(0, .ref mo), (1, vI i0), (2, vI d)] rfl (by decide +kernel) (Nat.le_of_ble_eq_true rfl) ?_
  intro p e s m args below meth c F hr hlocks hK hP hD hS hA ls hl
  have hn0 := hM.n
  have hw0 := hM.nw
  have hc0 := hM.wc
  refine lv_aload_n F.1 F.2.1 dX7_ifWorn_0 rfl (lv_at hl 0 rfl) ?_
  refine lv_aload_n F.1 F.2.1 dX7_ifWorn_1 rfl (lv_at hl 0 rfl) ?_
  refine lv_iload_n F.1 F.2.1 dX7_ifWorn_2 rfl (lv_at hl 1 rfl) ?_
  refine rr_rdV (rest := [.ref mo]) F hK (c_X7_isPlace l D cy mo no th pa sl sv tx tr ss ty a i0 (by first | assumption | omega | exact ⟨by omega, by omega⟩) (by first | assumption | omega | exact ⟨by omega, by omega⟩)) (hP.sub [0, 1] rfl) sf_X7_isPlace tw985 7 rfl rfl ⟨Nat.le_of_ble_eq_true rfl, Nat.le_of_ble_eq_true rfl⟩ hl rfl (Nat.le_of_ble_eq_true rfl) dX7_ifWorn_3 ⟨Nat.zero_le _, Nat.zero_le _⟩ ?_
  refine rr_ifP_eq F (tgt := 20) dX7_ifWorn_6 (by decide) (fun c_6 => ?_) (fun c_6 => ?_)
  · refine rr_iconst F dX7_ifWorn_20 ?_
    refine rr_wrV (rest := []) (wr := [(no, .inl (cy 1, 118, .inl (iA a))), (th, .inl (cy 1, 118, .inl (iA a2)))]) (ws2 := [(mo, .inr (7, [vI 1, .ref no, .ref th, .ref pa, vI ss, .ref sl, .ref sv, .ref tx, vI ty])), (no, .inl (cy 1, 118, .inl (iA a))), (th, .inl (cy 1, 118, .inl (iA a2)))]) F hK (c_X7_refuses l D cy mo no th pa sl sv tx tr ss ty 1 (by first | assumption | omega | exact ⟨by omega, by omega⟩)) hP hD hS hA sf_X7_refuses tw910 7 rfl rfl ⟨Nat.le_of_ble_eq_true rfl, Nat.le_of_ble_eq_true rfl⟩ hl rfl (Nat.le_of_ble_eq_true rfl) dX7_ifWorn_21 ⟨Nat.zero_le _, Nat.zero_le _⟩ [0] [1, 2] [2, 0, 1] rfl rfl (by decide) (by decide) (by decide) rfl rfl (by decide) (fun H locs hP hD hS => ?_)
    have hP : va_P D vwCl [(mo, .inr (7, [vI 1, .ref no, .ref th, .ref pa, vI ss, .ref sl, .ref sv, .ref tx, vI ty])), (no, .inl (cy 1, 118, .inl (iA a))), (th, .inl (cy 1, 118, .inl (iA a2)))] H := hP
    have hD : va_D _ [(mo, .inr (7, [vI 1, .ref no, .ref th, .ref pa, vI ss, .ref sl, .ref sv, .ref tx, vI ty])), (no, .inl (cy 1, 118, .inl (iA a))), (th, .inl (cy 1, 118, .inl (iA a2)))] := hD
    refine rr_ifP_eq F (tgt := 31) dX7_ifWorn_24 (by decide) (fun c_24 => ?_) (fun c_24 => ?_)
    · exfalso; omega
    · refine rr_iconst F dX7_ifWorn_27 ?_
      refine lv_goto (tgt := 37) F.1 F.2.1 dX7_ifWorn_28 (by decide) ?_
      exact rr_wiret F hr hlocks dX7_ifWorn_37 hP hS (by repeat' (first | rfl | split | omega)) (rfl)
  · refine lv_iload_n F.1 F.2.1 dX7_ifWorn_9 rfl (lv_at hl 2 rfl) ?_
    refine rr_rdS (rest := [.ref mo]) F hK (c_X7_isWay l D cy d (by first | assumption | omega | exact ⟨by omega, by omega⟩)) (hP.sub [] rfl) sf_X7_isWay tw1004 ⟨Nat.le_of_ble_eq_true rfl, Nat.le_of_ble_eq_true rfl⟩ hl rfl (Nat.le_of_ble_eq_true rfl) dX7_ifWorn_10 ⟨Nat.zero_le _, Nat.zero_le _⟩ ?_
    refine rr_ifP_eq F (tgt := 20) dX7_ifWorn_13 (by decide) (fun c_13 => ?_) (fun c_13 => ?_)
    · refine rr_iconst F dX7_ifWorn_20 ?_
      refine rr_wrV (rest := []) (wr := [(no, .inl (cy 1, 118, .inl (iA a))), (th, .inl (cy 1, 118, .inl (iA a2)))]) (ws2 := [(mo, .inr (7, [vI 1, .ref no, .ref th, .ref pa, vI ss, .ref sl, .ref sv, .ref tx, vI ty])), (no, .inl (cy 1, 118, .inl (iA a))), (th, .inl (cy 1, 118, .inl (iA a2)))]) F hK (c_X7_refuses l D cy mo no th pa sl sv tx tr ss ty 1 (by first | assumption | omega | exact ⟨by omega, by omega⟩)) hP hD hS hA sf_X7_refuses tw910 7 rfl rfl ⟨Nat.le_of_ble_eq_true rfl, Nat.le_of_ble_eq_true rfl⟩ hl rfl (Nat.le_of_ble_eq_true rfl) dX7_ifWorn_21 ⟨Nat.zero_le _, Nat.zero_le _⟩ [0] [1, 2] [2, 0, 1] rfl rfl (by decide) (by decide) (by decide) rfl rfl (by decide) (fun H locs hP hD hS => ?_)
      have hP : va_P D vwCl [(mo, .inr (7, [vI 1, .ref no, .ref th, .ref pa, vI ss, .ref sl, .ref sv, .ref tx, vI ty])), (no, .inl (cy 1, 118, .inl (iA a))), (th, .inl (cy 1, 118, .inl (iA a2)))] H := hP
      have hD : va_D _ [(mo, .inr (7, [vI 1, .ref no, .ref th, .ref pa, vI ss, .ref sl, .ref sv, .ref tx, vI ty])), (no, .inl (cy 1, 118, .inl (iA a))), (th, .inl (cy 1, 118, .inl (iA a2)))] := hD
      refine rr_ifP_eq F (tgt := 31) dX7_ifWorn_24 (by decide) (fun c_24 => ?_) (fun c_24 => ?_)
      · exfalso; omega
      · refine rr_iconst F dX7_ifWorn_27 ?_
        refine lv_goto (tgt := 37) F.1 F.2.1 dX7_ifWorn_28 (by decide) ?_
        exact rr_wiret F hr hlocks dX7_ifWorn_37 hP hS (by repeat' (first | rfl | split | omega)) (rfl)
    · refine rr_iconst F dX7_ifWorn_16 ?_
      refine lv_goto (tgt := 21) F.1 F.2.1 dX7_ifWorn_17 (by decide) ?_
      refine rr_wrV (rest := []) (wr := [(no, .inl (cy 1, 118, .inl (iA a))), (th, .inl (cy 1, 118, .inl (iA a2)))]) (ws2 := [(mo, .inr (7, [vI 0, .ref no, .ref th, .ref pa, vI ss, .ref sl, .ref sv, .ref tx, vI ty])), (no, .inl (cy 1, 118, .inl (iA a))), (th, .inl (cy 1, 118, .inl (iA a2)))]) F hK (c_X7_refuses l D cy mo no th pa sl sv tx tr ss ty 0 (by first | assumption | omega | exact ⟨by omega, by omega⟩)) hP hD hS hA sf_X7_refuses tw910 7 rfl rfl ⟨Nat.le_of_ble_eq_true rfl, Nat.le_of_ble_eq_true rfl⟩ hl rfl (Nat.le_of_ble_eq_true rfl) dX7_ifWorn_21 ⟨Nat.zero_le _, Nat.zero_le _⟩ [0] [1, 2] [2, 0, 1] rfl rfl (by decide) (by decide) (by decide) rfl rfl (by decide) (fun H locs hP hD hS => ?_)
      have hP : va_P D vwCl [(mo, .inr (7, [vI 0, .ref no, .ref th, .ref pa, vI ss, .ref sl, .ref sv, .ref tx, vI ty])), (no, .inl (cy 1, 118, .inl (iA a))), (th, .inl (cy 1, 118, .inl (iA a2)))] H := hP
      have hD : va_D _ [(mo, .inr (7, [vI 0, .ref no, .ref th, .ref pa, vI ss, .ref sl, .ref sv, .ref tx, vI ty])), (no, .inl (cy 1, 118, .inl (iA a))), (th, .inl (cy 1, 118, .inl (iA a2)))] := hD
      refine rr_ifP_eq F (tgt := 31) dX7_ifWorn_24 (by decide) (fun c_24 => ?_) (fun c_24 => ?_)
      · exfalso; omega
      · exfalso; omega
set_option maxRecDepth 100000 in
set_option maxHeartbeats 4000000 in
theorem c_X7_bestDivider (l : Launch) (D : va_G) (cy : Nat → ClassId) (mo no th pa sl sv tx : Nat) (tr ss ty : Int) (a a2 : Int → Int) (d x : Int) (hM : MR a) (hd : inR d) (hx : inR x) (h1 : 0 ≤ d ∧ d ≤ 1) (h2 : 0 ≤ x ∧ x ≤ 1) : Wr l yX7_bestDivider cX7_bestDivider 3 (some FieldType.int) 6 [.ref mo, vI d, vI x] D cy [(mo, .inr (7, [vI tr, .ref no, .ref th, .ref pa, vI ss, .ref sl, .ref sv, .ref tx, vI ty])), (no, .inl (cy 1, 118, .inl (iA a))), (th, .inl (cy 1, 118, .inl (iA a2)))] [(mo, .inr (7, [vI 0, .ref no, .ref th, .ref pa, vI ss, .ref sl, .ref sv, .ref tx, vI ty])), (no, .inl (cy 1, 118, .inl (iA a))), (th, .inl (cy 1, 118, .inl (iA a)))] (some (vI (if x = 0 then (bd (fun p => rq a p = 0) (fun p => sns (a 0) (updZ (rq a) p 0) (a 25) (rbl a) (rbc a) d) (a 0)).1 else (bd (fun p => rq a p = 0) (fun p => sns (a 0) (updZ (rq a) p 0) (a 25) (rbl a) (rbc a) d) (a 0)).2))) := by
  refine Wr.of RX7 rfl [(0, .ref mo), (1, vI d), (2, vI x)] rfl (by decide +kernel) (Nat.le_of_ble_eq_true rfl) ?_
  intro p e s m args below meth c F hr hlocks hK hP hD hS hA ls hl
  have hn0 := hM.n
  have hw0 := hM.nw
  have hc0 := hM.wc
  refine lv_aload_n F.1 F.2.1 dX7_bestDivider_0 rfl (lv_at hl 0 rfl) ?_
  refine lv_iload_n F.1 F.2.1 dX7_bestDivider_1 rfl (lv_at hl 1 rfl) ?_
  refine rr_rdS (rest := [.ref mo]) F hK (c_X7_isWay l D cy d (by first | assumption | omega | exact ⟨by omega, by omega⟩)) (hP.sub [] rfl) sf_X7_isWay tw1004 ⟨Nat.le_of_ble_eq_true rfl, Nat.le_of_ble_eq_true rfl⟩ hl rfl (Nat.le_of_ble_eq_true rfl) dX7_bestDivider_2 ⟨Nat.zero_le _, Nat.zero_le _⟩ ?_
  refine rr_ifP_ne F (tgt := 12) dX7_bestDivider_5 (by decide) (fun c_5 => ?_) (fun c_5 => ?_)
  · refine lv_iload_n F.1 F.2.1 dX7_bestDivider_12 rfl (lv_at hl 2 rfl) ?_
    refine rr_iconst F dX7_bestDivider_13 ?_
    refine rr_iconst F dX7_bestDivider_14 ?_
    refine rr_rdS (rest := [.ref mo]) F hK (c_X7_in l D cy x 0 1 (by first | assumption | omega | exact ⟨by omega, by omega⟩) (by first | assumption | omega | exact ⟨by omega, by omega⟩) (by first | assumption | omega | exact ⟨by omega, by omega⟩)) (hP.sub [] rfl) sf_X7_in tw921 ⟨Nat.le_of_ble_eq_true rfl, Nat.le_of_ble_eq_true rfl⟩ hl rfl (Nat.le_of_ble_eq_true rfl) dX7_bestDivider_15 ⟨Nat.zero_le _, Nat.zero_le _⟩ ?_
    refine rr_ifP_eq F (tgt := 25) dX7_bestDivider_18 (by decide) (fun c_18 => ?_) (fun c_18 => ?_)
    · refine rr_iconst F dX7_bestDivider_25 ?_
      refine rr_wrV (rest := []) (wr := [(no, .inl (cy 1, 118, .inl (iA a))), (th, .inl (cy 1, 118, .inl (iA a2)))]) (ws2 := [(mo, .inr (7, [vI 2, .ref no, .ref th, .ref pa, vI ss, .ref sl, .ref sv, .ref tx, vI ty])), (no, .inl (cy 1, 118, .inl (iA a))), (th, .inl (cy 1, 118, .inl (iA a2)))]) F hK (c_X7_refuses l D cy mo no th pa sl sv tx tr ss ty 2 (by first | assumption | omega | exact ⟨by omega, by omega⟩)) hP hD hS hA sf_X7_refuses tw910 7 rfl rfl ⟨Nat.le_of_ble_eq_true rfl, Nat.le_of_ble_eq_true rfl⟩ hl rfl (Nat.le_of_ble_eq_true rfl) dX7_bestDivider_26 ⟨Nat.zero_le _, Nat.zero_le _⟩ [0] [1, 2] [2, 0, 1] rfl rfl (by decide) (by decide) (by decide) rfl rfl (by decide) (fun H locs hP hD hS => ?_)
      have hP : va_P D vwCl [(mo, .inr (7, [vI 2, .ref no, .ref th, .ref pa, vI ss, .ref sl, .ref sv, .ref tx, vI ty])), (no, .inl (cy 1, 118, .inl (iA a))), (th, .inl (cy 1, 118, .inl (iA a2)))] H := hP
      have hD : va_D _ [(mo, .inr (7, [vI 2, .ref no, .ref th, .ref pa, vI ss, .ref sl, .ref sv, .ref tx, vI ty])), (no, .inl (cy 1, 118, .inl (iA a))), (th, .inl (cy 1, 118, .inl (iA a2)))] := hD
      refine rr_ifP_eq F (tgt := 36) dX7_bestDivider_29 (by decide) (fun c_29 => ?_) (fun c_29 => ?_)
      · exfalso; omega
      · exfalso; omega
    · refine rr_iconst F dX7_bestDivider_21 ?_
      refine lv_goto (tgt := 26) F.1 F.2.1 dX7_bestDivider_22 (by decide) ?_
      refine rr_wrV (rest := []) (wr := [(no, .inl (cy 1, 118, .inl (iA a))), (th, .inl (cy 1, 118, .inl (iA a2)))]) (ws2 := [(mo, .inr (7, [vI 0, .ref no, .ref th, .ref pa, vI ss, .ref sl, .ref sv, .ref tx, vI ty])), (no, .inl (cy 1, 118, .inl (iA a))), (th, .inl (cy 1, 118, .inl (iA a2)))]) F hK (c_X7_refuses l D cy mo no th pa sl sv tx tr ss ty 0 (by first | assumption | omega | exact ⟨by omega, by omega⟩)) hP hD hS hA sf_X7_refuses tw910 7 rfl rfl ⟨Nat.le_of_ble_eq_true rfl, Nat.le_of_ble_eq_true rfl⟩ hl rfl (Nat.le_of_ble_eq_true rfl) dX7_bestDivider_26 ⟨Nat.zero_le _, Nat.zero_le _⟩ [0] [1, 2] [2, 0, 1] rfl rfl (by decide) (by decide) (by decide) rfl rfl (by decide) (fun H locs hP hD hS => ?_)
      have hP : va_P D vwCl [(mo, .inr (7, [vI 0, .ref no, .ref th, .ref pa, vI ss, .ref sl, .ref sv, .ref tx, vI ty])), (no, .inl (cy 1, 118, .inl (iA a))), (th, .inl (cy 1, 118, .inl (iA a2)))] H := hP
      have hD : va_D _ [(mo, .inr (7, [vI 0, .ref no, .ref th, .ref pa, vI ss, .ref sl, .ref sv, .ref tx, vI ty])), (no, .inl (cy 1, 118, .inl (iA a))), (th, .inl (cy 1, 118, .inl (iA a2)))] := hD
      refine rr_ifP_eq F (tgt := 36) dX7_bestDivider_29 (by decide) (fun c_29 => ?_) (fun c_29 => ?_)
      · refine lv_aload_n F.1 F.2.1 dX7_bestDivider_36 rfl (lv_at hl 0 rfl) ?_
        refine lv_iload_n F.1 F.2.1 dX7_bestDivider_37 rfl (lv_at hl 1 rfl) ?_
        refine lv_iload_n F.1 F.2.1 dX7_bestDivider_38 rfl (lv_at hl 2 rfl) ?_
        refine rr_wrV (rest := []) (wr := []) (ws2 := [(mo, .inr (7, [vI 0, .ref no, .ref th, .ref pa, vI ss, .ref sl, .ref sv, .ref tx, vI ty])), (no, .inl (cy 1, 118, .inl (iA a))), (th, .inl (cy 1, 118, .inl (iA a)))]) F hK (c_X7_divides l D cy mo no th pa sl sv tx 0 ss ty a a2 d x (by first | assumption | omega | exact ⟨by omega, by omega⟩) (by first | assumption | omega | exact ⟨by omega, by omega⟩) (by first | assumption | omega | exact ⟨by omega, by omega⟩)) hP hD hS hA sf_X7_divides tw1200 7 rfl rfl ⟨Nat.le_of_ble_eq_true rfl, Nat.le_of_ble_eq_true rfl⟩ hl rfl (Nat.le_of_ble_eq_true rfl) dX7_bestDivider_39 ⟨Nat.zero_le _, Nat.zero_le _⟩ [0, 1, 2] [] [0, 1, 2] rfl rfl (by decide) (by decide) (by decide) rfl rfl (by decide) (fun H locs hP hD hS => ?_)
        have hP : va_P D vwCl [(mo, .inr (7, [vI 0, .ref no, .ref th, .ref pa, vI ss, .ref sl, .ref sv, .ref tx, vI ty])), (no, .inl (cy 1, 118, .inl (iA a))), (th, .inl (cy 1, 118, .inl (iA a)))] H := hP
        have hD : va_D _ [(mo, .inr (7, [vI 0, .ref no, .ref th, .ref pa, vI ss, .ref sl, .ref sv, .ref tx, vI ty])), (no, .inl (cy 1, 118, .inl (iA a))), (th, .inl (cy 1, 118, .inl (iA a)))] := hD
        exact rr_wiret F hr hlocks dX7_bestDivider_42 hP hS (rfl) (by first | rfl | omega)
      · exfalso; omega
  · refine rr_iconst F dX7_bestDivider_8 ?_
    refine lv_goto (tgt := 26) F.1 F.2.1 dX7_bestDivider_9 (by decide) ?_
    refine rr_wrV (rest := []) (wr := [(no, .inl (cy 1, 118, .inl (iA a))), (th, .inl (cy 1, 118, .inl (iA a2)))]) (ws2 := [(mo, .inr (7, [vI 1, .ref no, .ref th, .ref pa, vI ss, .ref sl, .ref sv, .ref tx, vI ty])), (no, .inl (cy 1, 118, .inl (iA a))), (th, .inl (cy 1, 118, .inl (iA a2)))]) F hK (c_X7_refuses l D cy mo no th pa sl sv tx tr ss ty 1 (by first | assumption | omega | exact ⟨by omega, by omega⟩)) hP hD hS hA sf_X7_refuses tw910 7 rfl rfl ⟨Nat.le_of_ble_eq_true rfl, Nat.le_of_ble_eq_true rfl⟩ hl rfl (Nat.le_of_ble_eq_true rfl) dX7_bestDivider_26 ⟨Nat.zero_le _, Nat.zero_le _⟩ [0] [1, 2] [2, 0, 1] rfl rfl (by decide) (by decide) (by decide) rfl rfl (by decide) (fun H locs hP hD hS => ?_)
    have hP : va_P D vwCl [(mo, .inr (7, [vI 1, .ref no, .ref th, .ref pa, vI ss, .ref sl, .ref sv, .ref tx, vI ty])), (no, .inl (cy 1, 118, .inl (iA a))), (th, .inl (cy 1, 118, .inl (iA a2)))] H := hP
    have hD : va_D _ [(mo, .inr (7, [vI 1, .ref no, .ref th, .ref pa, vI ss, .ref sl, .ref sv, .ref tx, vI ty])), (no, .inl (cy 1, 118, .inl (iA a))), (th, .inl (cy 1, 118, .inl (iA a2)))] := hD
    refine rr_ifP_eq F (tgt := 36) dX7_bestDivider_29 (by decide) (fun c_29 => ?_) (fun c_29 => ?_)
    · exfalso; omega
    · exfalso; omega
set_option maxRecDepth 100000 in
set_option maxHeartbeats 4000000 in
theorem n_X7_bestDivider (l : Launch) (D : va_G) (cy : Nat → ClassId) (mo no th pa sl sv tx : Nat) (tr ss ty : Int) (a a2 : Int → Int) (d x : Int) (hM : MR a) (hd : inR d) (hx : inR x) (hbad : ¬ ((0 ≤ d ∧ d ≤ 1) ∧ 0 ≤ x ∧ x ≤ 1)) : Wr l yX7_bestDivider cX7_bestDivider 3 (some FieldType.int) 2 [.ref mo, vI d, vI x] D cy [(mo, .inr (7, [vI tr, .ref no, .ref th, .ref pa, vI ss, .ref sl, .ref sv, .ref tx, vI ty])), (no, .inl (cy 1, 118, .inl (iA a))), (th, .inl (cy 1, 118, .inl (iA a2)))] [(mo, .inr (7, [vI (if 0 ≤ d ∧ d ≤ 1 then 2 else 1), .ref no, .ref th, .ref pa, vI ss, .ref sl, .ref sv, .ref tx, vI ty])), (no, .inl (cy 1, 118, .inl (iA a))), (th, .inl (cy 1, 118, .inl (iA a2)))] (some (vI 0)) := by
  refine Wr.of RX7 rfl [(0, .ref mo), (1, vI d), (2, vI x)] rfl (by decide +kernel) (Nat.le_of_ble_eq_true rfl) ?_
  intro p e s m args below meth c F hr hlocks hK hP hD hS hA ls hl
  have hn0 := hM.n
  have hw0 := hM.nw
  have hc0 := hM.wc
  refine lv_aload_n F.1 F.2.1 dX7_bestDivider_0 rfl (lv_at hl 0 rfl) ?_
  refine lv_iload_n F.1 F.2.1 dX7_bestDivider_1 rfl (lv_at hl 1 rfl) ?_
  refine rr_rdS (rest := [.ref mo]) F hK (c_X7_isWay l D cy d (by first | assumption | omega | exact ⟨by omega, by omega⟩)) (hP.sub [] rfl) sf_X7_isWay tw1004 ⟨Nat.le_of_ble_eq_true rfl, Nat.le_of_ble_eq_true rfl⟩ hl rfl (Nat.le_of_ble_eq_true rfl) dX7_bestDivider_2 ⟨Nat.zero_le _, Nat.zero_le _⟩ ?_
  refine rr_ifP_ne F (tgt := 12) dX7_bestDivider_5 (by decide) (fun c_5 => ?_) (fun c_5 => ?_)
  · refine lv_iload_n F.1 F.2.1 dX7_bestDivider_12 rfl (lv_at hl 2 rfl) ?_
    refine rr_iconst F dX7_bestDivider_13 ?_
    refine rr_iconst F dX7_bestDivider_14 ?_
    refine rr_rdS (rest := [.ref mo]) F hK (c_X7_in l D cy x 0 1 (by first | assumption | omega | exact ⟨by omega, by omega⟩) (by first | assumption | omega | exact ⟨by omega, by omega⟩) (by first | assumption | omega | exact ⟨by omega, by omega⟩)) (hP.sub [] rfl) sf_X7_in tw921 ⟨Nat.le_of_ble_eq_true rfl, Nat.le_of_ble_eq_true rfl⟩ hl rfl (Nat.le_of_ble_eq_true rfl) dX7_bestDivider_15 ⟨Nat.zero_le _, Nat.zero_le _⟩ ?_
    refine rr_ifP_eq F (tgt := 25) dX7_bestDivider_18 (by decide) (fun c_18 => ?_) (fun c_18 => ?_)
    · refine rr_iconst F dX7_bestDivider_25 ?_
      refine rr_wrV (rest := []) (wr := [(no, .inl (cy 1, 118, .inl (iA a))), (th, .inl (cy 1, 118, .inl (iA a2)))]) (ws2 := [(mo, .inr (7, [vI 2, .ref no, .ref th, .ref pa, vI ss, .ref sl, .ref sv, .ref tx, vI ty])), (no, .inl (cy 1, 118, .inl (iA a))), (th, .inl (cy 1, 118, .inl (iA a2)))]) F hK (c_X7_refuses l D cy mo no th pa sl sv tx tr ss ty 2 (by first | assumption | omega | exact ⟨by omega, by omega⟩)) hP hD hS hA sf_X7_refuses tw910 7 rfl rfl ⟨Nat.le_of_ble_eq_true rfl, Nat.le_of_ble_eq_true rfl⟩ hl rfl (Nat.le_of_ble_eq_true rfl) dX7_bestDivider_26 ⟨Nat.zero_le _, Nat.zero_le _⟩ [0] [1, 2] [2, 0, 1] rfl rfl (by decide) (by decide) (by decide) rfl rfl (by decide) (fun H locs hP hD hS => ?_)
      have hP : va_P D vwCl [(mo, .inr (7, [vI 2, .ref no, .ref th, .ref pa, vI ss, .ref sl, .ref sv, .ref tx, vI ty])), (no, .inl (cy 1, 118, .inl (iA a))), (th, .inl (cy 1, 118, .inl (iA a2)))] H := hP
      have hD : va_D _ [(mo, .inr (7, [vI 2, .ref no, .ref th, .ref pa, vI ss, .ref sl, .ref sv, .ref tx, vI ty])), (no, .inl (cy 1, 118, .inl (iA a))), (th, .inl (cy 1, 118, .inl (iA a2)))] := hD
      refine rr_ifP_eq F (tgt := 36) dX7_bestDivider_29 (by decide) (fun c_29 => ?_) (fun c_29 => ?_)
      · exfalso; omega
      · refine rr_iconst F dX7_bestDivider_32 ?_
        refine lv_goto (tgt := 42) F.1 F.2.1 dX7_bestDivider_33 (by decide) ?_
        exact rr_wiret F hr hlocks dX7_bestDivider_42 hP hS (by repeat' (first | rfl | split | omega)) (rfl)
    · refine rr_iconst F dX7_bestDivider_21 ?_
      refine lv_goto (tgt := 26) F.1 F.2.1 dX7_bestDivider_22 (by decide) ?_
      refine rr_wrV (rest := []) (wr := [(no, .inl (cy 1, 118, .inl (iA a))), (th, .inl (cy 1, 118, .inl (iA a2)))]) (ws2 := [(mo, .inr (7, [vI 0, .ref no, .ref th, .ref pa, vI ss, .ref sl, .ref sv, .ref tx, vI ty])), (no, .inl (cy 1, 118, .inl (iA a))), (th, .inl (cy 1, 118, .inl (iA a2)))]) F hK (c_X7_refuses l D cy mo no th pa sl sv tx tr ss ty 0 (by first | assumption | omega | exact ⟨by omega, by omega⟩)) hP hD hS hA sf_X7_refuses tw910 7 rfl rfl ⟨Nat.le_of_ble_eq_true rfl, Nat.le_of_ble_eq_true rfl⟩ hl rfl (Nat.le_of_ble_eq_true rfl) dX7_bestDivider_26 ⟨Nat.zero_le _, Nat.zero_le _⟩ [0] [1, 2] [2, 0, 1] rfl rfl (by decide) (by decide) (by decide) rfl rfl (by decide) (fun H locs hP hD hS => ?_)
      have hP : va_P D vwCl [(mo, .inr (7, [vI 0, .ref no, .ref th, .ref pa, vI ss, .ref sl, .ref sv, .ref tx, vI ty])), (no, .inl (cy 1, 118, .inl (iA a))), (th, .inl (cy 1, 118, .inl (iA a2)))] H := hP
      have hD : va_D _ [(mo, .inr (7, [vI 0, .ref no, .ref th, .ref pa, vI ss, .ref sl, .ref sv, .ref tx, vI ty])), (no, .inl (cy 1, 118, .inl (iA a))), (th, .inl (cy 1, 118, .inl (iA a2)))] := hD
      refine rr_ifP_eq F (tgt := 36) dX7_bestDivider_29 (by decide) (fun c_29 => ?_) (fun c_29 => ?_)
      · exfalso; omega
      · exfalso; omega
  · refine rr_iconst F dX7_bestDivider_8 ?_
    refine lv_goto (tgt := 26) F.1 F.2.1 dX7_bestDivider_9 (by decide) ?_
    refine rr_wrV (rest := []) (wr := [(no, .inl (cy 1, 118, .inl (iA a))), (th, .inl (cy 1, 118, .inl (iA a2)))]) (ws2 := [(mo, .inr (7, [vI 1, .ref no, .ref th, .ref pa, vI ss, .ref sl, .ref sv, .ref tx, vI ty])), (no, .inl (cy 1, 118, .inl (iA a))), (th, .inl (cy 1, 118, .inl (iA a2)))]) F hK (c_X7_refuses l D cy mo no th pa sl sv tx tr ss ty 1 (by first | assumption | omega | exact ⟨by omega, by omega⟩)) hP hD hS hA sf_X7_refuses tw910 7 rfl rfl ⟨Nat.le_of_ble_eq_true rfl, Nat.le_of_ble_eq_true rfl⟩ hl rfl (Nat.le_of_ble_eq_true rfl) dX7_bestDivider_26 ⟨Nat.zero_le _, Nat.zero_le _⟩ [0] [1, 2] [2, 0, 1] rfl rfl (by decide) (by decide) (by decide) rfl rfl (by decide) (fun H locs hP hD hS => ?_)
    have hP : va_P D vwCl [(mo, .inr (7, [vI 1, .ref no, .ref th, .ref pa, vI ss, .ref sl, .ref sv, .ref tx, vI ty])), (no, .inl (cy 1, 118, .inl (iA a))), (th, .inl (cy 1, 118, .inl (iA a2)))] H := hP
    have hD : va_D _ [(mo, .inr (7, [vI 1, .ref no, .ref th, .ref pa, vI ss, .ref sl, .ref sv, .ref tx, vI ty])), (no, .inl (cy 1, 118, .inl (iA a))), (th, .inl (cy 1, 118, .inl (iA a2)))] := hD
    refine rr_ifP_eq F (tgt := 36) dX7_bestDivider_29 (by decide) (fun c_29 => ?_) (fun c_29 => ?_)
    · exfalso; omega
    · refine rr_iconst F dX7_bestDivider_32 ?_
      refine lv_goto (tgt := 42) F.1 F.2.1 dX7_bestDivider_33 (by decide) ?_
      exact rr_wiret F hr hlocks dX7_bestDivider_42 hP hS (by repeat' (first | rfl | split | omega)) (rfl)
set_option maxRecDepth 100000 in
set_option maxHeartbeats 4000000 in
theorem c_X7_canBe (l : Launch) (D : va_G) (cy : Nat → ClassId) (mo no th pa sl sv tx : Nat) (tr ss ty : Int) (a : Int → Int) (p0 d : Int) (hM : MR a) (hi : inR p0) (hd : inR d) (h1 : 0 ≤ p0 ∧ p0 < a 0) (h2 : 0 ≤ d ∧ d ≤ 1) : Wr l yX7_canBe cX7_canBe 3 (some FieldType.int) 4 [.ref mo, vI p0, vI d] D cy [(mo, .inr (7, [vI tr, .ref no, .ref th, .ref pa, vI ss, .ref sl, .ref sv, .ref tx, vI ty])), (no, .inl (cy 1, 118, .inl (iA a)))] [(mo, .inr (7, [vI 0, .ref no, .ref th, .ref pa, vI ss, .ref sl, .ref sv, .ref tx, vI ty])), (no, .inl (cy 1, 118, .inl (iA a)))] (some (vI (cbe (a 0) (rq a) (a 25) (rbl a) (rbc a) p0 d))) := by
  refine Wr.of RX7 rfl [(0, .ref mo), (1, vI p0), (2, vI d)] rfl (by decide +kernel) (Nat.le_of_ble_eq_true rfl) ?_
  intro p e s m args below meth c F hr hlocks hK hP hD hS hA ls hl
  have hn0 := hM.n
  have hw0 := hM.nw
  have hc0 := hM.wc
  refine lv_aload_n F.1 F.2.1 dX7_canBe_0 rfl (lv_at hl 0 rfl) ?_
  refine lv_aload_n F.1 F.2.1 dX7_canBe_1 rfl (lv_at hl 0 rfl) ?_
  refine lv_iload_n F.1 F.2.1 dX7_canBe_2 rfl (lv_at hl 1 rfl) ?_
  refine rr_rdV (rest := [.ref mo]) F hK (c_X7_isPlace l D cy mo no th pa sl sv tx tr ss ty a p0 (by first | assumption | omega | exact ⟨by omega, by omega⟩) (by first | assumption | omega | exact ⟨by omega, by omega⟩)) hP sf_X7_isPlace tw985 7 rfl rfl ⟨Nat.le_of_ble_eq_true rfl, Nat.le_of_ble_eq_true rfl⟩ hl rfl (Nat.le_of_ble_eq_true rfl) dX7_canBe_3 ⟨Nat.zero_le _, Nat.zero_le _⟩ ?_
  refine rr_ifP_eq F (tgt := 20) dX7_canBe_6 (by decide) (fun c_6 => ?_) (fun c_6 => ?_)
  · refine rr_iconst F dX7_canBe_20 ?_
    refine rr_wrV (rest := []) (wr := [(no, .inl (cy 1, 118, .inl (iA a)))]) (ws2 := [(mo, .inr (7, [vI 1, .ref no, .ref th, .ref pa, vI ss, .ref sl, .ref sv, .ref tx, vI ty])), (no, .inl (cy 1, 118, .inl (iA a)))]) F hK (c_X7_refuses l D cy mo no th pa sl sv tx tr ss ty 1 (by first | assumption | omega | exact ⟨by omega, by omega⟩)) hP hD hS hA sf_X7_refuses tw910 7 rfl rfl ⟨Nat.le_of_ble_eq_true rfl, Nat.le_of_ble_eq_true rfl⟩ hl rfl (Nat.le_of_ble_eq_true rfl) dX7_canBe_21 ⟨Nat.zero_le _, Nat.zero_le _⟩ [0] [1] [1, 0] rfl rfl (by decide) (by decide) (by decide) rfl rfl (by decide) (fun H locs hP hD hS => ?_)
    have hP : va_P D vwCl [(mo, .inr (7, [vI 1, .ref no, .ref th, .ref pa, vI ss, .ref sl, .ref sv, .ref tx, vI ty])), (no, .inl (cy 1, 118, .inl (iA a)))] H := hP
    have hD : va_D _ [(mo, .inr (7, [vI 1, .ref no, .ref th, .ref pa, vI ss, .ref sl, .ref sv, .ref tx, vI ty])), (no, .inl (cy 1, 118, .inl (iA a)))] := hD
    refine rr_ifP_eq F (tgt := 31) dX7_canBe_24 (by decide) (fun c_24 => ?_) (fun c_24 => ?_)
    · exfalso; omega
    · exfalso; omega
  · refine lv_iload_n F.1 F.2.1 dX7_canBe_9 rfl (lv_at hl 2 rfl) ?_
    refine rr_rdS (rest := [.ref mo]) F hK (c_X7_isWay l D cy d (by first | assumption | omega | exact ⟨by omega, by omega⟩)) (hP.sub [] rfl) sf_X7_isWay tw1004 ⟨Nat.le_of_ble_eq_true rfl, Nat.le_of_ble_eq_true rfl⟩ hl rfl (Nat.le_of_ble_eq_true rfl) dX7_canBe_10 ⟨Nat.zero_le _, Nat.zero_le _⟩ ?_
    refine rr_ifP_eq F (tgt := 20) dX7_canBe_13 (by decide) (fun c_13 => ?_) (fun c_13 => ?_)
    · refine rr_iconst F dX7_canBe_20 ?_
      refine rr_wrV (rest := []) (wr := [(no, .inl (cy 1, 118, .inl (iA a)))]) (ws2 := [(mo, .inr (7, [vI 1, .ref no, .ref th, .ref pa, vI ss, .ref sl, .ref sv, .ref tx, vI ty])), (no, .inl (cy 1, 118, .inl (iA a)))]) F hK (c_X7_refuses l D cy mo no th pa sl sv tx tr ss ty 1 (by first | assumption | omega | exact ⟨by omega, by omega⟩)) hP hD hS hA sf_X7_refuses tw910 7 rfl rfl ⟨Nat.le_of_ble_eq_true rfl, Nat.le_of_ble_eq_true rfl⟩ hl rfl (Nat.le_of_ble_eq_true rfl) dX7_canBe_21 ⟨Nat.zero_le _, Nat.zero_le _⟩ [0] [1] [1, 0] rfl rfl (by decide) (by decide) (by decide) rfl rfl (by decide) (fun H locs hP hD hS => ?_)
      have hP : va_P D vwCl [(mo, .inr (7, [vI 1, .ref no, .ref th, .ref pa, vI ss, .ref sl, .ref sv, .ref tx, vI ty])), (no, .inl (cy 1, 118, .inl (iA a)))] H := hP
      have hD : va_D _ [(mo, .inr (7, [vI 1, .ref no, .ref th, .ref pa, vI ss, .ref sl, .ref sv, .ref tx, vI ty])), (no, .inl (cy 1, 118, .inl (iA a)))] := hD
      refine rr_ifP_eq F (tgt := 31) dX7_canBe_24 (by decide) (fun c_24 => ?_) (fun c_24 => ?_)
      · exfalso; omega
      · exfalso; omega
    · refine rr_iconst F dX7_canBe_16 ?_
      refine lv_goto (tgt := 21) F.1 F.2.1 dX7_canBe_17 (by decide) ?_
      refine rr_wrV (rest := []) (wr := [(no, .inl (cy 1, 118, .inl (iA a)))]) (ws2 := [(mo, .inr (7, [vI 0, .ref no, .ref th, .ref pa, vI ss, .ref sl, .ref sv, .ref tx, vI ty])), (no, .inl (cy 1, 118, .inl (iA a)))]) F hK (c_X7_refuses l D cy mo no th pa sl sv tx tr ss ty 0 (by first | assumption | omega | exact ⟨by omega, by omega⟩)) hP hD hS hA sf_X7_refuses tw910 7 rfl rfl ⟨Nat.le_of_ble_eq_true rfl, Nat.le_of_ble_eq_true rfl⟩ hl rfl (Nat.le_of_ble_eq_true rfl) dX7_canBe_21 ⟨Nat.zero_le _, Nat.zero_le _⟩ [0] [1] [1, 0] rfl rfl (by decide) (by decide) (by decide) rfl rfl (by decide) (fun H locs hP hD hS => ?_)
      have hP : va_P D vwCl [(mo, .inr (7, [vI 0, .ref no, .ref th, .ref pa, vI ss, .ref sl, .ref sv, .ref tx, vI ty])), (no, .inl (cy 1, 118, .inl (iA a)))] H := hP
      have hD : va_D _ [(mo, .inr (7, [vI 0, .ref no, .ref th, .ref pa, vI ss, .ref sl, .ref sv, .ref tx, vI ty])), (no, .inl (cy 1, 118, .inl (iA a)))] := hD
      refine rr_ifP_eq F (tgt := 31) dX7_canBe_24 (by decide) (fun c_24 => ?_) (fun c_24 => ?_)
      · refine lv_aload_n F.1 F.2.1 dX7_canBe_31 rfl (lv_at hl 0 rfl) ?_
        refine lv_iload_n F.1 F.2.1 dX7_canBe_32 rfl (lv_at hl 1 rfl) ?_
        refine lv_iload_n F.1 F.2.1 dX7_canBe_33 rfl (lv_at hl 2 rfl) ?_
        refine rr_rdV (rest := []) F hK (c_X7_letters l D cy mo no th pa sl sv tx 0 ss ty a p0 d (by first | assumption | omega | exact ⟨by omega, by omega⟩) (by first | assumption | omega | exact ⟨by omega, by omega⟩) (by first | assumption | omega | exact ⟨by omega, by omega⟩)) hP sf_X7_letters tw1212 7 rfl rfl ⟨Nat.le_of_ble_eq_true rfl, Nat.le_of_ble_eq_true rfl⟩ hl rfl (Nat.le_of_ble_eq_true rfl) dX7_canBe_34 ⟨Nat.zero_le _, Nat.zero_le _⟩ ?_
        exact rr_wiret F hr hlocks dX7_canBe_37 hP hS (rfl) (by first | rfl | omega)
      · exfalso; omega
set_option maxRecDepth 100000 in
set_option maxHeartbeats 4000000 in
theorem n_X7_canBe (l : Launch) (D : va_G) (cy : Nat → ClassId) (mo no th pa sl sv tx : Nat) (tr ss ty : Int) (a : Int → Int) (p0 d : Int) (hM : MR a) (hi : inR p0) (hd : inR d) (hbad : ¬ ((0 ≤ p0 ∧ p0 < a 0) ∧ 0 ≤ d ∧ d ≤ 1)) : Wr l yX7_canBe cX7_canBe 3 (some FieldType.int) 2 [.ref mo, vI p0, vI d] D cy [(mo, .inr (7, [vI tr, .ref no, .ref th, .ref pa, vI ss, .ref sl, .ref sv, .ref tx, vI ty])), (no, .inl (cy 1, 118, .inl (iA a)))] [(mo, .inr (7, [vI 1, .ref no, .ref th, .ref pa, vI ss, .ref sl, .ref sv, .ref tx, vI ty])), (no, .inl (cy 1, 118, .inl (iA a)))] (some (vI 0)) := by
  refine Wr.of RX7 rfl [(0, .ref mo), (1, vI p0), (2, vI d)] rfl (by decide +kernel) (Nat.le_of_ble_eq_true rfl) ?_
  intro p e s m args below meth c F hr hlocks hK hP hD hS hA ls hl
  have hn0 := hM.n
  have hw0 := hM.nw
  have hc0 := hM.wc
  refine lv_aload_n F.1 F.2.1 dX7_canBe_0 rfl (lv_at hl 0 rfl) ?_
  refine lv_aload_n F.1 F.2.1 dX7_canBe_1 rfl (lv_at hl 0 rfl) ?_
  refine lv_iload_n F.1 F.2.1 dX7_canBe_2 rfl (lv_at hl 1 rfl) ?_
  refine rr_rdV (rest := [.ref mo]) F hK (c_X7_isPlace l D cy mo no th pa sl sv tx tr ss ty a p0 (by first | assumption | omega | exact ⟨by omega, by omega⟩) (by first | assumption | omega | exact ⟨by omega, by omega⟩)) hP sf_X7_isPlace tw985 7 rfl rfl ⟨Nat.le_of_ble_eq_true rfl, Nat.le_of_ble_eq_true rfl⟩ hl rfl (Nat.le_of_ble_eq_true rfl) dX7_canBe_3 ⟨Nat.zero_le _, Nat.zero_le _⟩ ?_
  refine rr_ifP_eq F (tgt := 20) dX7_canBe_6 (by decide) (fun c_6 => ?_) (fun c_6 => ?_)
  · refine rr_iconst F dX7_canBe_20 ?_
    refine rr_wrV (rest := []) (wr := [(no, .inl (cy 1, 118, .inl (iA a)))]) (ws2 := [(mo, .inr (7, [vI 1, .ref no, .ref th, .ref pa, vI ss, .ref sl, .ref sv, .ref tx, vI ty])), (no, .inl (cy 1, 118, .inl (iA a)))]) F hK (c_X7_refuses l D cy mo no th pa sl sv tx tr ss ty 1 (by first | assumption | omega | exact ⟨by omega, by omega⟩)) hP hD hS hA sf_X7_refuses tw910 7 rfl rfl ⟨Nat.le_of_ble_eq_true rfl, Nat.le_of_ble_eq_true rfl⟩ hl rfl (Nat.le_of_ble_eq_true rfl) dX7_canBe_21 ⟨Nat.zero_le _, Nat.zero_le _⟩ [0] [1] [1, 0] rfl rfl (by decide) (by decide) (by decide) rfl rfl (by decide) (fun H locs hP hD hS => ?_)
    have hP : va_P D vwCl [(mo, .inr (7, [vI 1, .ref no, .ref th, .ref pa, vI ss, .ref sl, .ref sv, .ref tx, vI ty])), (no, .inl (cy 1, 118, .inl (iA a)))] H := hP
    have hD : va_D _ [(mo, .inr (7, [vI 1, .ref no, .ref th, .ref pa, vI ss, .ref sl, .ref sv, .ref tx, vI ty])), (no, .inl (cy 1, 118, .inl (iA a)))] := hD
    refine rr_ifP_eq F (tgt := 31) dX7_canBe_24 (by decide) (fun c_24 => ?_) (fun c_24 => ?_)
    · exfalso; omega
    · refine rr_iconst F dX7_canBe_27 ?_
      refine lv_goto (tgt := 37) F.1 F.2.1 dX7_canBe_28 (by decide) ?_
      exact rr_wiret F hr hlocks dX7_canBe_37 hP hS (by repeat' (first | rfl | split | omega)) (rfl)
  · refine lv_iload_n F.1 F.2.1 dX7_canBe_9 rfl (lv_at hl 2 rfl) ?_
    refine rr_rdS (rest := [.ref mo]) F hK (c_X7_isWay l D cy d (by first | assumption | omega | exact ⟨by omega, by omega⟩)) (hP.sub [] rfl) sf_X7_isWay tw1004 ⟨Nat.le_of_ble_eq_true rfl, Nat.le_of_ble_eq_true rfl⟩ hl rfl (Nat.le_of_ble_eq_true rfl) dX7_canBe_10 ⟨Nat.zero_le _, Nat.zero_le _⟩ ?_
    refine rr_ifP_eq F (tgt := 20) dX7_canBe_13 (by decide) (fun c_13 => ?_) (fun c_13 => ?_)
    · refine rr_iconst F dX7_canBe_20 ?_
      refine rr_wrV (rest := []) (wr := [(no, .inl (cy 1, 118, .inl (iA a)))]) (ws2 := [(mo, .inr (7, [vI 1, .ref no, .ref th, .ref pa, vI ss, .ref sl, .ref sv, .ref tx, vI ty])), (no, .inl (cy 1, 118, .inl (iA a)))]) F hK (c_X7_refuses l D cy mo no th pa sl sv tx tr ss ty 1 (by first | assumption | omega | exact ⟨by omega, by omega⟩)) hP hD hS hA sf_X7_refuses tw910 7 rfl rfl ⟨Nat.le_of_ble_eq_true rfl, Nat.le_of_ble_eq_true rfl⟩ hl rfl (Nat.le_of_ble_eq_true rfl) dX7_canBe_21 ⟨Nat.zero_le _, Nat.zero_le _⟩ [0] [1] [1, 0] rfl rfl (by decide) (by decide) (by decide) rfl rfl (by decide) (fun H locs hP hD hS => ?_)
      have hP : va_P D vwCl [(mo, .inr (7, [vI 1, .ref no, .ref th, .ref pa, vI ss, .ref sl, .ref sv, .ref tx, vI ty])), (no, .inl (cy 1, 118, .inl (iA a)))] H := hP
      have hD : va_D _ [(mo, .inr (7, [vI 1, .ref no, .ref th, .ref pa, vI ss, .ref sl, .ref sv, .ref tx, vI ty])), (no, .inl (cy 1, 118, .inl (iA a)))] := hD
      refine rr_ifP_eq F (tgt := 31) dX7_canBe_24 (by decide) (fun c_24 => ?_) (fun c_24 => ?_)
      · exfalso; omega
      · refine rr_iconst F dX7_canBe_27 ?_
        refine lv_goto (tgt := 37) F.1 F.2.1 dX7_canBe_28 (by decide) ?_
        exact rr_wiret F hr hlocks dX7_canBe_37 hP hS (by repeat' (first | rfl | split | omega)) (rfl)
    · refine rr_iconst F dX7_canBe_16 ?_
      refine lv_goto (tgt := 21) F.1 F.2.1 dX7_canBe_17 (by decide) ?_
      refine rr_wrV (rest := []) (wr := [(no, .inl (cy 1, 118, .inl (iA a)))]) (ws2 := [(mo, .inr (7, [vI 0, .ref no, .ref th, .ref pa, vI ss, .ref sl, .ref sv, .ref tx, vI ty])), (no, .inl (cy 1, 118, .inl (iA a)))]) F hK (c_X7_refuses l D cy mo no th pa sl sv tx tr ss ty 0 (by first | assumption | omega | exact ⟨by omega, by omega⟩)) hP hD hS hA sf_X7_refuses tw910 7 rfl rfl ⟨Nat.le_of_ble_eq_true rfl, Nat.le_of_ble_eq_true rfl⟩ hl rfl (Nat.le_of_ble_eq_true rfl) dX7_canBe_21 ⟨Nat.zero_le _, Nat.zero_le _⟩ [0] [1] [1, 0] rfl rfl (by decide) (by decide) (by decide) rfl rfl (by decide) (fun H locs hP hD hS => ?_)
      have hP : va_P D vwCl [(mo, .inr (7, [vI 0, .ref no, .ref th, .ref pa, vI ss, .ref sl, .ref sv, .ref tx, vI ty])), (no, .inl (cy 1, 118, .inl (iA a)))] H := hP
      have hD : va_D _ [(mo, .inr (7, [vI 0, .ref no, .ref th, .ref pa, vI ss, .ref sl, .ref sv, .ref tx, vI ty])), (no, .inl (cy 1, 118, .inl (iA a)))] := hD
      refine rr_ifP_eq F (tgt := 31) dX7_canBe_24 (by decide) (fun c_24 => ?_) (fun c_24 => ?_)
      · exfalso; omega
      · exfalso; omega
set_option maxRecDepth 100000 in
set_option maxHeartbeats 4000000 in
theorem c_X7_bestDirection (l : Launch) (D : va_G) (cy : Nat → ClassId) (mo no th pa sl sv tx : Nat) (tr ss ty : Int) (a : Int → Int) (hM : MR a) : Wr l yX7_bestDirection cX7_bestDirection 2 (some FieldType.int) 5 [.ref mo] D cy [(mo, .inr (7, [vI tr, .ref no, .ref th, .ref pa, vI ss, .ref sl, .ref sv, .ref tx, vI ty])), (no, .inl (cy 1, 118, .inl (iA a)))] [(mo, .inr (7, [vI 0, .ref no, .ref th, .ref pa, vI ss, .ref sl, .ref sv, .ref tx, vI ty])), (no, .inl (cy 1, 118, .inl (iA a)))] (some (vI (if sns (a 0) (rq a) (a 25) (rbl a) (rbc a) 0 < sns (a 0) (rq a) (a 25) (rbl a) (rbc a) 1 ∨ (sns (a 0) (rq a) (a 25) (rbl a) (rbc a) 1 = sns (a 0) (rq a) (a 25) (rbl a) (rbc a) 0 ∧ rdg (a 0) (rq a) (a 25) (rbl a) (rbc a) 0 < rdg (a 0) (rq a) (a 25) (rbl a) (rbc a) 1) then 1 else 0))) := by
  refine Wr.of RX7 rfl [(0, .ref mo)] rfl (by decide +kernel) (Nat.le_of_ble_eq_true rfl) ?_
  intro p e s m args below meth c F hr hlocks hK hP hD hS hA ls hl
  have hn0 := hM.n
  have hw0 := hM.nw
  have hc0 := hM.wc
  refine lv_aload_n F.1 F.2.1 dX7_bestDirection_0 rfl (lv_at hl 0 rfl) ?_
  refine rr_iconst F dX7_bestDirection_1 ?_
  refine pf7_0 F hK hP hD hS 0 rfl tw874 dX7_bestDirection_2 (fun H locs hP hD hS => ?_)
  have hP : va_P D vwCl [(mo, .inr (7, [vI 0, .ref no, .ref th, .ref pa, vI ss, .ref sl, .ref sv, .ref tx, vI ty])), (no, .inl (cy 1, 118, .inl (iA a)))] H := hP
  have hD : va_D _ [(mo, .inr (7, [vI 0, .ref no, .ref th, .ref pa, vI ss, .ref sl, .ref sv, .ref tx, vI ty])), (no, .inl (cy 1, 118, .inl (iA a)))] := hD
  refine lv_aload_n F.1 F.2.1 dX7_bestDirection_5 rfl (lv_at hl 0 rfl) ?_
  refine gf7_1 F hK hP 0 rfl tw875 dX7_bestDirection_6 ?_
  refine rr_iconst F dX7_bestDirection_9 ?_
  refine rr_rdS (rest := []) F hK (c_X7_sense l D cy no a 1 (by first | assumption | omega | exact ⟨by omega, by omega⟩) (by first | assumption | omega | exact ⟨by omega, by omega⟩)) (hP.sub [1] rfl) sf_X7_sense tw1017 ⟨Nat.le_of_ble_eq_true rfl, Nat.le_of_ble_eq_true rfl⟩ hl rfl (Nat.le_of_ble_eq_true rfl) dX7_bestDirection_10 ⟨Nat.zero_le _, Nat.zero_le _⟩ ?_
  have q_10_0 := (show 0 ≤ sns (a 0) (rq a) (a 25) (rbl a) (rbc a) 1 ∧ sns (a 0) (rq a) (a 25) (rbl a) (rbc a) 1 ≤ a 0 from cnt_rng _ (by omega))
  refine lv_aload_n F.1 F.2.1 dX7_bestDirection_13 rfl (lv_at hl 0 rfl) ?_
  refine gf7_1 F hK hP 0 rfl tw875 dX7_bestDirection_14 ?_
  refine rr_iconst F dX7_bestDirection_17 ?_
  refine rr_rdS (rest := [vI (sns (a 0) (rq a) (a 25) (rbl a) (rbc a) 1)]) F hK (c_X7_sense l D cy no a 0 (by first | assumption | omega | exact ⟨by omega, by omega⟩) (by first | assumption | omega | exact ⟨by omega, by omega⟩)) (hP.sub [1] rfl) sf_X7_sense tw1017 ⟨Nat.le_of_ble_eq_true rfl, Nat.le_of_ble_eq_true rfl⟩ hl rfl (Nat.le_of_ble_eq_true rfl) dX7_bestDirection_18 ⟨Nat.zero_le _, Nat.zero_le _⟩ ?_
  have q_18_0 := (show 0 ≤ sns (a 0) (rq a) (a 25) (rbl a) (rbc a) 0 ∧ sns (a 0) (rq a) (a 25) (rbl a) (rbc a) 0 ≤ a 0 from cnt_rng _ (by omega))
  refine rr_isub F (z := (sns (a 0) (rq a) (a 25) (rbl a) (rbc a) 1) - (sns (a 0) (rq a) (a 25) (rbl a) (rbc a) 0)) dX7_bestDirection_21 (by first | rfl | omega) ?_
  refine lv_istore_n (lv' := [(1, vI ((sns (a 0) (rq a) (a 25) (rbl a) (rbc a) 1) - (sns (a 0) (rq a) (a 25) (rbl a) (rbc a) 0))), (0, .ref mo)]) F.1 F.2.1 dX7_bestDirection_22 rfl hl (by decide) rfl (fun ls hl => ?_)
  refine lv_iload_n F.1 F.2.1 dX7_bestDirection_23 rfl (lv_at hl 0 rfl) ?_
  refine rr_if_ne F (tgt := 47) dX7_bestDirection_24 (by decide) ⟨by omega, by omega⟩ (fun c_24 => ?_) (fun c_24 => ?_)
  · refine lv_iload_n F.1 F.2.1 dX7_bestDirection_47 rfl (lv_at hl 0 rfl) ?_
    refine lv_istore_n (lv' := [(1, vI ((sns (a 0) (rq a) (a 25) (rbl a) (rbc a) 1) - (sns (a 0) (rq a) (a 25) (rbl a) (rbc a) 0))), (0, .ref mo)]) F.1 F.2.1 dX7_bestDirection_48 rfl hl (by decide) rfl (fun ls hl => ?_)
    refine lv_iload_n F.1 F.2.1 dX7_bestDirection_49 rfl (lv_at hl 0 rfl) ?_
    refine rr_if_le F (tgt := 57) dX7_bestDirection_50 (by decide) ⟨by omega, by omega⟩ (fun c_50 => ?_) (fun c_50 => ?_)
    · refine rr_iconst F dX7_bestDirection_57 ?_
      exact rr_wiret F hr hlocks dX7_bestDirection_58 hP hS (rfl) (by first | rw [if_pos (by omega)] | rw [if_neg (by omega)])
    · refine rr_iconst F dX7_bestDirection_53 ?_
      refine lv_goto (tgt := 58) F.1 F.2.1 dX7_bestDirection_54 (by decide) ?_
      exact rr_wiret F hr hlocks dX7_bestDirection_58 hP hS (rfl) (by first | rw [if_pos (by omega)] | rw [if_neg (by omega)])
  · refine lv_aload_n F.1 F.2.1 dX7_bestDirection_27 rfl (lv_at hl 1 rfl) ?_
    refine gf7_1 F hK hP 0 rfl tw875 dX7_bestDirection_28 ?_
    refine rr_iconst F dX7_bestDirection_31 ?_
    refine rr_rdS (rest := []) F hK (c_X7_readings l D cy no a 1 (by first | assumption | omega | exact ⟨by omega, by omega⟩) (by first | assumption | omega | exact ⟨by omega, by omega⟩)) (hP.sub [1] rfl) sf_X7_readings tw1029 ⟨Nat.le_of_ble_eq_true rfl, Nat.le_of_ble_eq_true rfl⟩ hl rfl (Nat.le_of_ble_eq_true rfl) dX7_bestDirection_32 ⟨Nat.zero_le _, Nat.zero_le _⟩ ?_
    have q_32_0 := (show 0 ≤ rdg (a 0) (rq a) (a 25) (rbl a) (rbc a) 1 ∧ rdg (a 0) (rq a) (a 25) (rbl a) (rbc a) 1 ≤ 1000000 by have pf := prd_fit (q := rq a) (bl := rbl a) (bc := rbc a) (d := 1) (n := a 0) (nw := a 25) ⟨by omega, by omega⟩ ⟨by omega, by omega⟩ (show 0 ≤ a 0 by omega) (Int.le_refl (a 0)); unfold rdg; split <;> (try split) <;> omega)
    refine lv_aload_n F.1 F.2.1 dX7_bestDirection_35 rfl (lv_at hl 1 rfl) ?_
    refine gf7_1 F hK hP 0 rfl tw875 dX7_bestDirection_36 ?_
    refine rr_iconst F dX7_bestDirection_39 ?_
    refine rr_rdS (rest := [vI (rdg (a 0) (rq a) (a 25) (rbl a) (rbc a) 1)]) F hK (c_X7_readings l D cy no a 0 (by first | assumption | omega | exact ⟨by omega, by omega⟩) (by first | assumption | omega | exact ⟨by omega, by omega⟩)) (hP.sub [1] rfl) sf_X7_readings tw1029 ⟨Nat.le_of_ble_eq_true rfl, Nat.le_of_ble_eq_true rfl⟩ hl rfl (Nat.le_of_ble_eq_true rfl) dX7_bestDirection_40 ⟨Nat.zero_le _, Nat.zero_le _⟩ ?_
    have q_40_0 := (show 0 ≤ rdg (a 0) (rq a) (a 25) (rbl a) (rbc a) 0 ∧ rdg (a 0) (rq a) (a 25) (rbl a) (rbc a) 0 ≤ 1000000 by have pf := prd_fit (q := rq a) (bl := rbl a) (bc := rbc a) (d := 0) (n := a 0) (nw := a 25) ⟨by omega, by omega⟩ ⟨by omega, by omega⟩ (show 0 ≤ a 0 by omega) (Int.le_refl (a 0)); unfold rdg; split <;> (try split) <;> omega)
    refine rr_isub F (z := (rdg (a 0) (rq a) (a 25) (rbl a) (rbc a) 1) - (rdg (a 0) (rq a) (a 25) (rbl a) (rbc a) 0)) dX7_bestDirection_43 (by first | rfl | omega) ?_
    refine lv_goto (tgt := 48) F.1 F.2.1 dX7_bestDirection_44 (by decide) ?_
    refine lv_istore_n (lv' := [(1, vI ((rdg (a 0) (rq a) (a 25) (rbl a) (rbc a) 1) - (rdg (a 0) (rq a) (a 25) (rbl a) (rbc a) 0))), (0, .ref mo)]) F.1 F.2.1 dX7_bestDirection_48 rfl hl (by decide) rfl (fun ls hl => ?_)
    refine lv_iload_n F.1 F.2.1 dX7_bestDirection_49 rfl (lv_at hl 0 rfl) ?_
    refine rr_if_le F (tgt := 57) dX7_bestDirection_50 (by decide) ⟨by omega, by omega⟩ (fun c_50 => ?_) (fun c_50 => ?_)
    · refine rr_iconst F dX7_bestDirection_57 ?_
      exact rr_wiret F hr hlocks dX7_bestDirection_58 hP hS (rfl) (by first | rw [if_pos (by omega)] | rw [if_neg (by omega)])
    · refine rr_iconst F dX7_bestDirection_53 ?_
      refine lv_goto (tgt := 58) F.1 F.2.1 dX7_bestDirection_54 (by decide) ?_
      exact rr_wiret F hr hlocks dX7_bestDirection_58 hP hS (rfl) (by first | rw [if_pos (by omega)] | rw [if_neg (by omega)])
