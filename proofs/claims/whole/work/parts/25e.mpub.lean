set_option maxRecDepth 100000 in
set_option maxHeartbeats 4000000 in
theorem c_X7_ring (l : Launch) (D : va_G) (cy : Nat → ClassId) (mo no th pa sl sv tx : Nat) (tr ss ty : Int) (a ap tc : Int → Int) (hM : MR a) (hs : 0 ≤ ss ∧ ss ≤ 14) (hT : (0 ≤ ty ∧ ty ≤ 40) ∧ CH 40 tc) (h1 : ferr ty tc 0 = -1) : Wr l yX7_ring cX7_ring 2 (some FieldType.int) 2 [.ref mo] D cy [(mo, .inr (7, [vI tr, .ref no, .ref th, .ref pa, vI ss, .ref sl, .ref sv, .ref tx, vI ty])), (no, .inl (cy 1, 118, .inl (iA a))), (pa, .inl (cy 1, 1652, .inl (iA ap))), (tx, .inl (cy 0, 40, .inl (iA tc)))] [(mo, .inr (7, [vI 0, .ref no, .ref th, .ref pa, vI (remN ss), .ref sl, .ref sv, .ref tx, vI ty])), (no, .inl (cy 1, 118, .inl (iA (zrZ (updZ (rngK a tc ty 24) 0 ty) 96 117)))), (pa, .inl (cy 1, 1652, .inl (iA (remA a ap ss)))), (tx, .inl (cy 0, 40, .inl (iA tc)))] (some (vI ty)) := by
  refine Wr.of RX7 rfl [(0, .ref mo)] rfl (by decide +kernel) (Nat.le_of_ble_eq_true rfl) ?_
  intro p e s m args below meth c F hr hlocks hK hP hD hS hA ls hl
  have hn0 := hM.n
  have hw0 := hM.nw
  have hc0 := hM.wc
  obtain ⟨ht0, ht1⟩ := id hT
  refine lv_aload_n F.1 F.2.1 dX7_ring_0 rfl (lv_at hl 0 rfl) ?_
  refine lv_aload_n F.1 F.2.1 dX7_ring_1 rfl (lv_at hl 0 rfl) ?_
  refine rr_iconst F dX7_ring_2 ?_
  refine rr_rdV (rest := [.ref mo]) F hK (c_X7_error l D cy mo no th pa sl sv tx tr ss ty tc 0 (by first | assumption | omega | exact ⟨by omega, by omega⟩) (by first | assumption | omega | exact ⟨by omega, by omega⟩)) (hP.sub [0, 3] rfl) sf_X7_error tw932 7 rfl rfl ⟨Nat.le_of_ble_eq_true rfl, Nat.le_of_ble_eq_true rfl⟩ hl rfl (Nat.le_of_ble_eq_true rfl) dX7_ring_3 ⟨Nat.zero_le _, Nat.zero_le _⟩ ?_
  have q_3_0 := (ferr_rng (tl := ty) (tc := tc) (fb := 0) (by omega))
  refine rr_iconst F dX7_ring_6 ?_
  refine rr_icmp_ne F (tgt := 14) dX7_ring_7 (by decide) ⟨by omega, by omega⟩ ⟨by omega, by omega⟩ (fun c_7 => ?_) (fun c_7 => ?_)
  · refine rr_iconst F dX7_ring_14 ?_
    refine rr_wrV (rest := []) (wr := [(no, .inl (cy 1, 118, .inl (iA a))), (pa, .inl (cy 1, 1652, .inl (iA ap))), (tx, .inl (cy 0, 40, .inl (iA tc)))]) (ws2 := [(mo, .inr (7, [vI 1, .ref no, .ref th, .ref pa, vI ss, .ref sl, .ref sv, .ref tx, vI ty])), (no, .inl (cy 1, 118, .inl (iA a))), (pa, .inl (cy 1, 1652, .inl (iA ap))), (tx, .inl (cy 0, 40, .inl (iA tc)))]) F hK (c_X7_refuses l D cy mo no th pa sl sv tx tr ss ty 1 (by first | assumption | omega | exact ⟨by omega, by omega⟩)) hP hD hS hA sf_X7_refuses tw910 7 rfl rfl ⟨Nat.le_of_ble_eq_true rfl, Nat.le_of_ble_eq_true rfl⟩ hl rfl (Nat.le_of_ble_eq_true rfl) dX7_ring_15 ⟨Nat.zero_le _, Nat.zero_le _⟩ [0] [1, 2, 3] [3, 0, 1, 2] rfl rfl (by decide) (by decide) (by decide) rfl rfl (by decide) (fun H locs hP hD hS => ?_)
    have hP : va_P D vwCl [(mo, .inr (7, [vI 1, .ref no, .ref th, .ref pa, vI ss, .ref sl, .ref sv, .ref tx, vI ty])), (no, .inl (cy 1, 118, .inl (iA a))), (pa, .inl (cy 1, 1652, .inl (iA ap))), (tx, .inl (cy 0, 40, .inl (iA tc)))] H := hP
    have hD : va_D _ [(mo, .inr (7, [vI 1, .ref no, .ref th, .ref pa, vI ss, .ref sl, .ref sv, .ref tx, vI ty])), (no, .inl (cy 1, 118, .inl (iA a))), (pa, .inl (cy 1, 1652, .inl (iA ap))), (tx, .inl (cy 0, 40, .inl (iA tc)))] := hD
    refine rr_ifP_eq F (tgt := 23) dX7_ring_18 (by decide) (fun c_18 => ?_) (fun c_18 => ?_)
    · exfalso; omega
    · exfalso; omega
  · refine rr_iconst F dX7_ring_10 ?_
    refine lv_goto (tgt := 15) F.1 F.2.1 dX7_ring_11 (by decide) ?_
    refine rr_wrV (rest := []) (wr := [(no, .inl (cy 1, 118, .inl (iA a))), (pa, .inl (cy 1, 1652, .inl (iA ap))), (tx, .inl (cy 0, 40, .inl (iA tc)))]) (ws2 := [(mo, .inr (7, [vI 0, .ref no, .ref th, .ref pa, vI ss, .ref sl, .ref sv, .ref tx, vI ty])), (no, .inl (cy 1, 118, .inl (iA a))), (pa, .inl (cy 1, 1652, .inl (iA ap))), (tx, .inl (cy 0, 40, .inl (iA tc)))]) F hK (c_X7_refuses l D cy mo no th pa sl sv tx tr ss ty 0 (by first | assumption | omega | exact ⟨by omega, by omega⟩)) hP hD hS hA sf_X7_refuses tw910 7 rfl rfl ⟨Nat.le_of_ble_eq_true rfl, Nat.le_of_ble_eq_true rfl⟩ hl rfl (Nat.le_of_ble_eq_true rfl) dX7_ring_15 ⟨Nat.zero_le _, Nat.zero_le _⟩ [0] [1, 2, 3] [3, 0, 1, 2] rfl rfl (by decide) (by decide) (by decide) rfl rfl (by decide) (fun H locs hP hD hS => ?_)
    have hP : va_P D vwCl [(mo, .inr (7, [vI 0, .ref no, .ref th, .ref pa, vI ss, .ref sl, .ref sv, .ref tx, vI ty])), (no, .inl (cy 1, 118, .inl (iA a))), (pa, .inl (cy 1, 1652, .inl (iA ap))), (tx, .inl (cy 0, 40, .inl (iA tc)))] H := hP
    have hD : va_D _ [(mo, .inr (7, [vI 0, .ref no, .ref th, .ref pa, vI ss, .ref sl, .ref sv, .ref tx, vI ty])), (no, .inl (cy 1, 118, .inl (iA a))), (pa, .inl (cy 1, 1652, .inl (iA ap))), (tx, .inl (cy 0, 40, .inl (iA tc)))] := hD
    refine rr_ifP_eq F (tgt := 23) dX7_ring_18 (by decide) (fun c_18 => ?_) (fun c_18 => ?_)
    · have hok := ferr_ok ht0.1 h1
      refine lv_aload_n F.1 F.2.1 dX7_ring_23 rfl (lv_at hl 0 rfl) ?_
      refine rr_wrV (rest := []) (wr := [(tx, .inl (cy 0, 40, .inl (iA tc)))]) (ws2 := [(mo, .inr (7, [vI 0, .ref no, .ref th, .ref pa, vI (remN ss), .ref sl, .ref sv, .ref tx, vI ty])), (no, .inl (cy 1, 118, .inl (iA a))), (pa, .inl (cy 1, 1652, .inl (iA (remA a ap ss)))), (tx, .inl (cy 0, 40, .inl (iA tc)))]) F hK (c_X7_remembers l D cy mo no th pa sl sv tx 0 ss ty a ap (by first | assumption | omega | exact ⟨by omega, by omega⟩)) hP hD hS hA sf_X7_remembers tw1092 7 rfl rfl ⟨Nat.le_of_ble_eq_true rfl, Nat.le_of_ble_eq_true rfl⟩ hl rfl (Nat.le_of_ble_eq_true rfl) dX7_ring_24 ⟨Nat.zero_le _, Nat.zero_le _⟩ [0, 1, 2] [3] [1, 2, 3, 0] rfl rfl (by decide) (by decide) (by decide) rfl rfl (by decide) (fun H locs hP hD hS => ?_)
      have hP : va_P D vwCl [(mo, .inr (7, [vI 0, .ref no, .ref th, .ref pa, vI (remN ss), .ref sl, .ref sv, .ref tx, vI ty])), (no, .inl (cy 1, 118, .inl (iA a))), (pa, .inl (cy 1, 1652, .inl (iA (remA a ap ss)))), (tx, .inl (cy 0, 40, .inl (iA tc)))] H := hP
      have hD : va_D _ [(mo, .inr (7, [vI 0, .ref no, .ref th, .ref pa, vI (remN ss), .ref sl, .ref sv, .ref tx, vI ty])), (no, .inl (cy 1, 118, .inl (iA a))), (pa, .inl (cy 1, 1652, .inl (iA (remA a ap ss)))), (tx, .inl (cy 0, 40, .inl (iA tc)))] := hD
      refine rr_iconst F dX7_ring_27 ?_
      refine lv_istore_n (lv' := [(1, vI 0), (0, .ref mo)]) F.1 F.2.1 dX7_ring_28 rfl hl (by decide) rfl (fun ls hl => ?_)
      refine rr_loopW1 (fun k => (0 ≤ k) ∧ (k ≤ 24)) (fun k => (24 - k).toNat) (fun k => [(1, vI k), (0, .ref mo)]) (fun k => [(mo, .inr (7, [vI 0, .ref no, .ref th, .ref pa, vI (remN ss), .ref sl, .ref sv, .ref tx, vI ty])), (no, .inl (cy 1, 118, .inl (iA (rngK a tc ty k)))), (pa, .inl (cy 1, 1652, .inl (iA (remA a ap ss)))), (tx, .inl (cy 0, 40, .inl (iA tc)))]) ?_ 0 ⟨by omega, by omega⟩ (by rw [rngK_0]; exact hP) (hD.like rfl) hS (lv_sub hl [0, 1] rfl)
      intro k hI ih_29 H locs ls hP hD hS hl
      obtain ⟨k0, k1⟩ := hI
      have hl : lv_has ls 2 [(1, vI k), (0, .ref mo)] := hl
      have hP : va_P D vwCl [(mo, .inr (7, [vI 0, .ref no, .ref th, .ref pa, vI (remN ss), .ref sl, .ref sv, .ref tx, vI ty])), (no, .inl (cy 1, 118, .inl (iA (rngK a tc ty k)))), (pa, .inl (cy 1, 1652, .inl (iA (remA a ap ss)))), (tx, .inl (cy 0, 40, .inl (iA tc)))] H := hP
      have hD : va_D _ [(mo, .inr (7, [vI 0, .ref no, .ref th, .ref pa, vI (remN ss), .ref sl, .ref sv, .ref tx, vI ty])), (no, .inl (cy 1, 118, .inl (iA (rngK a tc ty k)))), (pa, .inl (cy 1, 1652, .inl (iA (remA a ap ss)))), (tx, .inl (cy 0, 40, .inl (iA tc)))] := hD
      refine lv_iload_n F.1 F.2.1 dX7_ring_29 rfl (lv_at hl 0 rfl) ?_
      refine rr_bipush F dX7_ring_30 (by decide) ?_
      refine rr_icmp_ge F (tgt := 66) dX7_ring_32 (by decide) ⟨by omega, by omega⟩ ⟨by omega, by omega⟩ (fun c_32 => ?_) (fun c_32 => ?_)
      · refine lv_aload_n F.1 F.2.1 dX7_ring_66 rfl (lv_at hl 1 rfl) ?_
        refine gf7_1 F hK hP 0 rfl tw875 dX7_ring_67 ?_
        refine rr_iconst F dX7_ring_70 ?_
        refine lv_aload_n F.1 F.2.1 dX7_ring_71 rfl (lv_at hl 1 rfl) ?_
        refine gf7_8 F hK hP 0 rfl tw882 dX7_ring_72 ?_
        refine rr_iast F hK hP hD hS 1 rfl (by omega) (by omega) (by decide) dX7_ring_75 (fun H locs hP hD hS => ?_)
        have hP : va_P D vwCl [(mo, .inr (7, [vI 0, .ref no, .ref th, .ref pa, vI (remN ss), .ref sl, .ref sv, .ref tx, vI ty])), (no, .inl (cy 1, 118, .inl (iA (updZ (rngK a tc ty k) 0 ty)))), (pa, .inl (cy 1, 1652, .inl (iA (remA a ap ss)))), (tx, .inl (cy 0, 40, .inl (iA tc)))] H := hP
        have hD : va_D _ [(mo, .inr (7, [vI 0, .ref no, .ref th, .ref pa, vI (remN ss), .ref sl, .ref sv, .ref tx, vI ty])), (no, .inl (cy 1, 118, .inl (iA (updZ (rngK a tc ty k) 0 ty)))), (pa, .inl (cy 1, 1652, .inl (iA (remA a ap ss)))), (tx, .inl (cy 0, 40, .inl (iA tc)))] := hD
        refine lv_aload_n F.1 F.2.1 dX7_ring_76 rfl (lv_at hl 1 rfl) ?_
        refine gf7_1 F hK hP 0 rfl tw875 dX7_ring_77 ?_
        refine rr_wrS (rest := []) (wr := [(mo, .inr (7, [vI 0, .ref no, .ref th, .ref pa, vI (remN ss), .ref sl, .ref sv, .ref tx, vI ty])), (pa, .inl (cy 1, 1652, .inl (iA (remA a ap ss)))), (tx, .inl (cy 0, 40, .inl (iA tc)))]) (ws2 := [(mo, .inr (7, [vI 0, .ref no, .ref th, .ref pa, vI (remN ss), .ref sl, .ref sv, .ref tx, vI ty])), (no, .inl (cy 1, 118, .inl (iA (zrZ (updZ (rngK a tc ty k) 0 ty) 96 117)))), (pa, .inl (cy 1, 1652, .inl (iA (remA a ap ss)))), (tx, .inl (cy 0, 40, .inl (iA tc)))]) F hK (c_X7_sendsAway l D cy no (updZ (rngK a tc ty k) 0 ty) ) hP hD hS hA sf_X7_sendsAway tw1100 ⟨Nat.le_of_ble_eq_true rfl, Nat.le_of_ble_eq_true rfl⟩ hl rfl (Nat.le_of_ble_eq_true rfl) dX7_ring_80 ⟨Nat.zero_le _, Nat.zero_le _⟩ [1] [0, 2, 3] [0, 3, 1, 2] rfl rfl (by decide) (by decide) (by decide) rfl rfl (by decide) (fun H locs hP hD hS => ?_)
        have hP : va_P D vwCl [(mo, .inr (7, [vI 0, .ref no, .ref th, .ref pa, vI (remN ss), .ref sl, .ref sv, .ref tx, vI ty])), (no, .inl (cy 1, 118, .inl (iA (zrZ (updZ (rngK a tc ty k) 0 ty) 96 117)))), (pa, .inl (cy 1, 1652, .inl (iA (remA a ap ss)))), (tx, .inl (cy 0, 40, .inl (iA tc)))] H := hP
        have hD : va_D _ [(mo, .inr (7, [vI 0, .ref no, .ref th, .ref pa, vI (remN ss), .ref sl, .ref sv, .ref tx, vI ty])), (no, .inl (cy 1, 118, .inl (iA (zrZ (updZ (rngK a tc ty k) 0 ty) 96 117)))), (pa, .inl (cy 1, 1652, .inl (iA (remA a ap ss)))), (tx, .inl (cy 0, 40, .inl (iA tc)))] := hD
        refine lv_aload_n F.1 F.2.1 dX7_ring_83 rfl (lv_at hl 1 rfl) ?_
        refine gf7_8 F hK hP 0 rfl tw882 dX7_ring_84 ?_
        exact rr_wiret F hr hlocks dX7_ring_87 hP hS (by rw [show k = 24 by omega]) (by first | rfl | omega)
      · refine lv_aload_n F.1 F.2.1 dX7_ring_35 rfl (lv_at hl 1 rfl) ?_
        refine gf7_1 F hK hP 0 rfl tw875 dX7_ring_36 ?_
        refine rr_iconst F dX7_ring_39 ?_
        refine lv_iload_n F.1 F.2.1 dX7_ring_40 rfl (lv_at hl 0 rfl) ?_
        refine rr_iadd F (z := 1 + k) dX7_ring_41 (by first | rfl | omega) ?_
        refine lv_iload_n F.1 F.2.1 dX7_ring_42 rfl (lv_at hl 0 rfl) ?_
        refine lv_aload_n F.1 F.2.1 dX7_ring_43 rfl (lv_at hl 1 rfl) ?_
        refine gf7_8 F hK hP 0 rfl tw882 dX7_ring_44 ?_
        refine rr_icmp_ge F (tgt := 58) dX7_ring_47 (by decide) ⟨by omega, by omega⟩ ⟨by omega, by omega⟩ (fun c_47 => ?_) (fun c_47 => ?_)
        · refine rr_iconst F dX7_ring_58 ?_
          refine rr_iast F hK hP hD hS 1 rfl (by omega) (by omega) (by decide) dX7_ring_59 (fun H locs hP hD hS => ?_)
          have hP : va_P D vwCl [(mo, .inr (7, [vI 0, .ref no, .ref th, .ref pa, vI (remN ss), .ref sl, .ref sv, .ref tx, vI ty])), (no, .inl (cy 1, 118, .inl (iA (updZ (rngK a tc ty k) (1 + k) 0)))), (pa, .inl (cy 1, 1652, .inl (iA (remA a ap ss)))), (tx, .inl (cy 0, 40, .inl (iA tc)))] H := hP
          have hD : va_D _ [(mo, .inr (7, [vI 0, .ref no, .ref th, .ref pa, vI (remN ss), .ref sl, .ref sv, .ref tx, vI ty])), (no, .inl (cy 1, 118, .inl (iA (updZ (rngK a tc ty k) (1 + k) 0)))), (pa, .inl (cy 1, 1652, .inl (iA (remA a ap ss)))), (tx, .inl (cy 0, 40, .inl (iA tc)))] := hD
          refine lv_iinc (v := iI (k + 1)) (lv' := [(1, vI (k + 1)), (0, .ref mo)]) F.1 F.2.1 dX7_ring_60 hl (k := 0) rfl (iinc_ok (by first | rfl | omega)) (by decide) rfl (fun ls hl => ?_)
          refine lv_goto (tgt := 29) F.1 F.2.1 dX7_ring_63 (by decide) ?_
          exact ih_29 (k + 1) ⟨by omega, by omega⟩ (show ((24 - (k + 1)).toNat) < ((24 - k).toNat) by omega) _ _ ls (by first | (rw [← rngK_y k0 (by assumption)]; exact hP) | (rw [← rngK_n k0 (by omega)]; exact hP)) (hD.like rfl) hS (lv_sub hl [0, 1] rfl)
        · refine lv_aload_n F.1 F.2.1 dX7_ring_50 rfl (lv_at hl 1 rfl) ?_
          refine lv_iload_n F.1 F.2.1 dX7_ring_51 rfl (lv_at hl 0 rfl) ?_
          have hc := ht1 k k0 (by omega)
          refine rr_rdV (rest := [vI (1 + k), .ref no]) F hK (c_X7_signOf l D cy mo no th pa sl sv tx 0 (remN ss) ty tc k (by first | assumption | omega | exact ⟨by omega, by omega⟩) (by first | assumption | omega | exact ⟨by omega, by omega⟩)) (hP.sub [0, 3] rfl) sf_X7_signOf tw1096 7 rfl rfl ⟨Nat.le_of_ble_eq_true rfl, Nat.le_of_ble_eq_true rfl⟩ hl rfl (Nat.le_of_ble_eq_true rfl) dX7_ring_52 ⟨Nat.zero_le _, Nat.zero_le _⟩ ?_
          have q_52_0 := (show -96 ≤ sgc (tc k) ∧ sgc (tc k) < 65536 by unfold sgc; split <;> (try split) <;> omega)
          refine lv_goto (tgt := 59) F.1 F.2.1 dX7_ring_55 (by decide) ?_
          refine rr_iast F hK hP hD hS 1 rfl (by omega) (by omega) (by decide) dX7_ring_59 (fun H locs hP hD hS => ?_)
          have hP : va_P D vwCl [(mo, .inr (7, [vI 0, .ref no, .ref th, .ref pa, vI (remN ss), .ref sl, .ref sv, .ref tx, vI ty])), (no, .inl (cy 1, 118, .inl (iA (updZ (rngK a tc ty k) (1 + k) (sgc (tc k)))))), (pa, .inl (cy 1, 1652, .inl (iA (remA a ap ss)))), (tx, .inl (cy 0, 40, .inl (iA tc)))] H := hP
          have hD : va_D _ [(mo, .inr (7, [vI 0, .ref no, .ref th, .ref pa, vI (remN ss), .ref sl, .ref sv, .ref tx, vI ty])), (no, .inl (cy 1, 118, .inl (iA (updZ (rngK a tc ty k) (1 + k) (sgc (tc k)))))), (pa, .inl (cy 1, 1652, .inl (iA (remA a ap ss)))), (tx, .inl (cy 0, 40, .inl (iA tc)))] := hD
          refine lv_iinc (v := iI (k + 1)) (lv' := [(1, vI (k + 1)), (0, .ref mo)]) F.1 F.2.1 dX7_ring_60 hl (k := 0) rfl (iinc_ok (by first | rfl | omega)) (by decide) rfl (fun ls hl => ?_)
          refine lv_goto (tgt := 29) F.1 F.2.1 dX7_ring_63 (by decide) ?_
          exact ih_29 (k + 1) ⟨by omega, by omega⟩ (show ((24 - (k + 1)).toNat) < ((24 - k).toNat) by omega) _ _ ls (by first | (rw [← rngK_y k0 (by assumption)]; exact hP) | (rw [← rngK_n k0 (by omega)]; exact hP)) (hD.like rfl) hS (lv_sub hl [0, 1] rfl)
    · exfalso; omega
set_option maxRecDepth 100000 in
set_option maxHeartbeats 4000000 in
theorem n_X7_ring (l : Launch) (D : va_G) (cy : Nat → ClassId) (mo no th pa sl sv tx : Nat) (tr ss ty : Int) (a ap tc : Int → Int) (hM : MR a) (hs : 0 ≤ ss ∧ ss ≤ 14) (hT : (0 ≤ ty ∧ ty ≤ 40) ∧ CH 40 tc) (hbad : ¬ (ferr ty tc 0 = -1)) : Wr l yX7_ring cX7_ring 2 (some FieldType.int) 2 [.ref mo] D cy [(mo, .inr (7, [vI tr, .ref no, .ref th, .ref pa, vI ss, .ref sl, .ref sv, .ref tx, vI ty])), (no, .inl (cy 1, 118, .inl (iA a))), (pa, .inl (cy 1, 1652, .inl (iA ap))), (tx, .inl (cy 0, 40, .inl (iA tc)))] [(mo, .inr (7, [vI 1, .ref no, .ref th, .ref pa, vI ss, .ref sl, .ref sv, .ref tx, vI ty])), (no, .inl (cy 1, 118, .inl (iA a))), (pa, .inl (cy 1, 1652, .inl (iA ap))), (tx, .inl (cy 0, 40, .inl (iA tc)))] (some (vI 0)) := by
  refine Wr.of RX7 rfl [(0, .ref mo)] rfl (by decide +kernel) (Nat.le_of_ble_eq_true rfl) ?_
  intro p e s m args below meth c F hr hlocks hK hP hD hS hA ls hl
  have hn0 := hM.n
  have hw0 := hM.nw
  have hc0 := hM.wc
  obtain ⟨ht0, ht1⟩ := id hT
  refine lv_aload_n F.1 F.2.1 dX7_ring_0 rfl (lv_at hl 0 rfl) ?_
  refine lv_aload_n F.1 F.2.1 dX7_ring_1 rfl (lv_at hl 0 rfl) ?_
  refine rr_iconst F dX7_ring_2 ?_
  refine rr_rdV (rest := [.ref mo]) F hK (c_X7_error l D cy mo no th pa sl sv tx tr ss ty tc 0 (by first | assumption | omega | exact ⟨by omega, by omega⟩) (by first | assumption | omega | exact ⟨by omega, by omega⟩)) (hP.sub [0, 3] rfl) sf_X7_error tw932 7 rfl rfl ⟨Nat.le_of_ble_eq_true rfl, Nat.le_of_ble_eq_true rfl⟩ hl rfl (Nat.le_of_ble_eq_true rfl) dX7_ring_3 ⟨Nat.zero_le _, Nat.zero_le _⟩ ?_
  have q_3_0 := (ferr_rng (tl := ty) (tc := tc) (fb := 0) (by omega))
  refine rr_iconst F dX7_ring_6 ?_
  refine rr_icmp_ne F (tgt := 14) dX7_ring_7 (by decide) ⟨by omega, by omega⟩ ⟨by omega, by omega⟩ (fun c_7 => ?_) (fun c_7 => ?_)
  · refine rr_iconst F dX7_ring_14 ?_
    refine rr_wrV (rest := []) (wr := [(no, .inl (cy 1, 118, .inl (iA a))), (pa, .inl (cy 1, 1652, .inl (iA ap))), (tx, .inl (cy 0, 40, .inl (iA tc)))]) (ws2 := [(mo, .inr (7, [vI 1, .ref no, .ref th, .ref pa, vI ss, .ref sl, .ref sv, .ref tx, vI ty])), (no, .inl (cy 1, 118, .inl (iA a))), (pa, .inl (cy 1, 1652, .inl (iA ap))), (tx, .inl (cy 0, 40, .inl (iA tc)))]) F hK (c_X7_refuses l D cy mo no th pa sl sv tx tr ss ty 1 (by first | assumption | omega | exact ⟨by omega, by omega⟩)) hP hD hS hA sf_X7_refuses tw910 7 rfl rfl ⟨Nat.le_of_ble_eq_true rfl, Nat.le_of_ble_eq_true rfl⟩ hl rfl (Nat.le_of_ble_eq_true rfl) dX7_ring_15 ⟨Nat.zero_le _, Nat.zero_le _⟩ [0] [1, 2, 3] [3, 0, 1, 2] rfl rfl (by decide) (by decide) (by decide) rfl rfl (by decide) (fun H locs hP hD hS => ?_)
    have hP : va_P D vwCl [(mo, .inr (7, [vI 1, .ref no, .ref th, .ref pa, vI ss, .ref sl, .ref sv, .ref tx, vI ty])), (no, .inl (cy 1, 118, .inl (iA a))), (pa, .inl (cy 1, 1652, .inl (iA ap))), (tx, .inl (cy 0, 40, .inl (iA tc)))] H := hP
    have hD : va_D _ [(mo, .inr (7, [vI 1, .ref no, .ref th, .ref pa, vI ss, .ref sl, .ref sv, .ref tx, vI ty])), (no, .inl (cy 1, 118, .inl (iA a))), (pa, .inl (cy 1, 1652, .inl (iA ap))), (tx, .inl (cy 0, 40, .inl (iA tc)))] := hD
    refine rr_ifP_eq F (tgt := 23) dX7_ring_18 (by decide) (fun c_18 => ?_) (fun c_18 => ?_)
    · exfalso; omega
    · refine rr_iconst F dX7_ring_21 ?_
      exact rr_wiret F hr hlocks dX7_ring_22 hP hS (by repeat' (first | rfl | split | omega)) (rfl)
  · refine rr_iconst F dX7_ring_10 ?_
    refine lv_goto (tgt := 15) F.1 F.2.1 dX7_ring_11 (by decide) ?_
    refine rr_wrV (rest := []) (wr := [(no, .inl (cy 1, 118, .inl (iA a))), (pa, .inl (cy 1, 1652, .inl (iA ap))), (tx, .inl (cy 0, 40, .inl (iA tc)))]) (ws2 := [(mo, .inr (7, [vI 0, .ref no, .ref th, .ref pa, vI ss, .ref sl, .ref sv, .ref tx, vI ty])), (no, .inl (cy 1, 118, .inl (iA a))), (pa, .inl (cy 1, 1652, .inl (iA ap))), (tx, .inl (cy 0, 40, .inl (iA tc)))]) F hK (c_X7_refuses l D cy mo no th pa sl sv tx tr ss ty 0 (by first | assumption | omega | exact ⟨by omega, by omega⟩)) hP hD hS hA sf_X7_refuses tw910 7 rfl rfl ⟨Nat.le_of_ble_eq_true rfl, Nat.le_of_ble_eq_true rfl⟩ hl rfl (Nat.le_of_ble_eq_true rfl) dX7_ring_15 ⟨Nat.zero_le _, Nat.zero_le _⟩ [0] [1, 2, 3] [3, 0, 1, 2] rfl rfl (by decide) (by decide) (by decide) rfl rfl (by decide) (fun H locs hP hD hS => ?_)
    have hP : va_P D vwCl [(mo, .inr (7, [vI 0, .ref no, .ref th, .ref pa, vI ss, .ref sl, .ref sv, .ref tx, vI ty])), (no, .inl (cy 1, 118, .inl (iA a))), (pa, .inl (cy 1, 1652, .inl (iA ap))), (tx, .inl (cy 0, 40, .inl (iA tc)))] H := hP
    have hD : va_D _ [(mo, .inr (7, [vI 0, .ref no, .ref th, .ref pa, vI ss, .ref sl, .ref sv, .ref tx, vI ty])), (no, .inl (cy 1, 118, .inl (iA a))), (pa, .inl (cy 1, 1652, .inl (iA ap))), (tx, .inl (cy 0, 40, .inl (iA tc)))] := hD
    refine rr_ifP_eq F (tgt := 23) dX7_ring_18 (by decide) (fun c_18 => ?_) (fun c_18 => ?_)
    · exfalso; omega
    · exfalso; omega
set_option maxRecDepth 100000 in
set_option maxHeartbeats 4000000 in
theorem c_X7_addWord (l : Launch) (D : va_G) (cy : Nat → ClassId) (mo no th pa sl sv tx : Nat) (tr ss ty : Int) (a ap tc : Int → Int) (hM : MR a) (hs : 0 ≤ ss ∧ ss ≤ 14) (hT : (0 ≤ ty ∧ ty ≤ 40) ∧ CH 40 tc) (h1 : ferr ty tc 1 = -1) (h2 : a 25 < 10) : Wr l yX7_addWord cX7_addWord 3 (some FieldType.int) 2 [.ref mo] D cy [(mo, .inr (7, [vI tr, .ref no, .ref th, .ref pa, vI ss, .ref sl, .ref sv, .ref tx, vI ty])), (no, .inl (cy 1, 118, .inl (iA a))), (pa, .inl (cy 1, 1652, .inl (iA ap))), (tx, .inl (cy 0, 40, .inl (iA tc)))] [(mo, .inr (7, [vI 0, .ref no, .ref th, .ref pa, vI (remN ss), .ref sl, .ref sv, .ref tx, vI ty])), (no, .inl (cy 1, 118, .inl (iA (updZ (wrdK a tc ty 6) 25 (a 25 + 1))))), (pa, .inl (cy 1, 1652, .inl (iA (remA a ap ss)))), (tx, .inl (cy 0, 40, .inl (iA tc)))] (some (vI (a 25))) := by
  refine Wr.of RX7 rfl [(0, .ref mo)] rfl (by decide +kernel) (Nat.le_of_ble_eq_true rfl) ?_
  intro p e s m args below meth c F hr hlocks hK hP hD hS hA ls hl
  have hn0 := hM.n
  have hw0 := hM.nw
  have hc0 := hM.wc
  obtain ⟨ht0, ht1⟩ := id hT
  refine lv_aload_n F.1 F.2.1 dX7_addWord_0 rfl (lv_at hl 0 rfl) ?_
  refine lv_aload_n F.1 F.2.1 dX7_addWord_1 rfl (lv_at hl 0 rfl) ?_
  refine rr_iconst F dX7_addWord_2 ?_
  refine rr_rdV (rest := [.ref mo]) F hK (c_X7_error l D cy mo no th pa sl sv tx tr ss ty tc 1 (by first | assumption | omega | exact ⟨by omega, by omega⟩) (by first | assumption | omega | exact ⟨by omega, by omega⟩)) (hP.sub [0, 3] rfl) sf_X7_error tw932 7 rfl rfl ⟨Nat.le_of_ble_eq_true rfl, Nat.le_of_ble_eq_true rfl⟩ hl rfl (Nat.le_of_ble_eq_true rfl) dX7_addWord_3 ⟨Nat.zero_le _, Nat.zero_le _⟩ ?_
  have q_3_0 := (ferr_rng (tl := ty) (tc := tc) (fb := 1) (by omega))
  refine rr_iconst F dX7_addWord_6 ?_
  refine rr_icmp_ne F (tgt := 26) dX7_addWord_7 (by decide) ⟨by omega, by omega⟩ ⟨by omega, by omega⟩ (fun c_7 => ?_) (fun c_7 => ?_)
  · refine rr_iconst F dX7_addWord_26 ?_
    refine rr_wrV (rest := []) (wr := [(no, .inl (cy 1, 118, .inl (iA a))), (pa, .inl (cy 1, 1652, .inl (iA ap))), (tx, .inl (cy 0, 40, .inl (iA tc)))]) (ws2 := [(mo, .inr (7, [vI 1, .ref no, .ref th, .ref pa, vI ss, .ref sl, .ref sv, .ref tx, vI ty])), (no, .inl (cy 1, 118, .inl (iA a))), (pa, .inl (cy 1, 1652, .inl (iA ap))), (tx, .inl (cy 0, 40, .inl (iA tc)))]) F hK (c_X7_refuses l D cy mo no th pa sl sv tx tr ss ty 1 (by first | assumption | omega | exact ⟨by omega, by omega⟩)) hP hD hS hA sf_X7_refuses tw910 7 rfl rfl ⟨Nat.le_of_ble_eq_true rfl, Nat.le_of_ble_eq_true rfl⟩ hl rfl (Nat.le_of_ble_eq_true rfl) dX7_addWord_27 ⟨Nat.zero_le _, Nat.zero_le _⟩ [0] [1, 2, 3] [3, 0, 1, 2] rfl rfl (by decide) (by decide) (by decide) rfl rfl (by decide) (fun H locs hP hD hS => ?_)
    have hP : va_P D vwCl [(mo, .inr (7, [vI 1, .ref no, .ref th, .ref pa, vI ss, .ref sl, .ref sv, .ref tx, vI ty])), (no, .inl (cy 1, 118, .inl (iA a))), (pa, .inl (cy 1, 1652, .inl (iA ap))), (tx, .inl (cy 0, 40, .inl (iA tc)))] H := hP
    have hD : va_D _ [(mo, .inr (7, [vI 1, .ref no, .ref th, .ref pa, vI ss, .ref sl, .ref sv, .ref tx, vI ty])), (no, .inl (cy 1, 118, .inl (iA a))), (pa, .inl (cy 1, 1652, .inl (iA ap))), (tx, .inl (cy 0, 40, .inl (iA tc)))] := hD
    refine rr_ifP_eq F (tgt := 35) dX7_addWord_30 (by decide) (fun c_30 => ?_) (fun c_30 => ?_)
    · exfalso; omega
    · exfalso; omega
  · refine lv_aload_n F.1 F.2.1 dX7_addWord_10 rfl (lv_at hl 0 rfl) ?_
    refine gf7_1 F hK hP 0 rfl tw875 dX7_addWord_11 ?_
    refine rr_bipush F dX7_addWord_14 (by decide) ?_
    refine rr_iald F hK hP 1 rfl (by omega) (by omega) (by decide) dX7_addWord_16 ?_
    refine rr_bipush F dX7_addWord_17 (by decide) ?_
    refine rr_icmp_ge F (tgt := 26) dX7_addWord_19 (by decide) ⟨by omega, by omega⟩ ⟨by omega, by omega⟩ (fun c_19 => ?_) (fun c_19 => ?_)
    · refine rr_iconst F dX7_addWord_26 ?_
      refine rr_wrV (rest := []) (wr := [(no, .inl (cy 1, 118, .inl (iA a))), (pa, .inl (cy 1, 1652, .inl (iA ap))), (tx, .inl (cy 0, 40, .inl (iA tc)))]) (ws2 := [(mo, .inr (7, [vI 1, .ref no, .ref th, .ref pa, vI ss, .ref sl, .ref sv, .ref tx, vI ty])), (no, .inl (cy 1, 118, .inl (iA a))), (pa, .inl (cy 1, 1652, .inl (iA ap))), (tx, .inl (cy 0, 40, .inl (iA tc)))]) F hK (c_X7_refuses l D cy mo no th pa sl sv tx tr ss ty 1 (by first | assumption | omega | exact ⟨by omega, by omega⟩)) hP hD hS hA sf_X7_refuses tw910 7 rfl rfl ⟨Nat.le_of_ble_eq_true rfl, Nat.le_of_ble_eq_true rfl⟩ hl rfl (Nat.le_of_ble_eq_true rfl) dX7_addWord_27 ⟨Nat.zero_le _, Nat.zero_le _⟩ [0] [1, 2, 3] [3, 0, 1, 2] rfl rfl (by decide) (by decide) (by decide) rfl rfl (by decide) (fun H locs hP hD hS => ?_)
      have hP : va_P D vwCl [(mo, .inr (7, [vI 1, .ref no, .ref th, .ref pa, vI ss, .ref sl, .ref sv, .ref tx, vI ty])), (no, .inl (cy 1, 118, .inl (iA a))), (pa, .inl (cy 1, 1652, .inl (iA ap))), (tx, .inl (cy 0, 40, .inl (iA tc)))] H := hP
      have hD : va_D _ [(mo, .inr (7, [vI 1, .ref no, .ref th, .ref pa, vI ss, .ref sl, .ref sv, .ref tx, vI ty])), (no, .inl (cy 1, 118, .inl (iA a))), (pa, .inl (cy 1, 1652, .inl (iA ap))), (tx, .inl (cy 0, 40, .inl (iA tc)))] := hD
      refine rr_ifP_eq F (tgt := 35) dX7_addWord_30 (by decide) (fun c_30 => ?_) (fun c_30 => ?_)
      · exfalso; omega
      · exfalso; omega
    · refine rr_iconst F dX7_addWord_22 ?_
      refine lv_goto (tgt := 27) F.1 F.2.1 dX7_addWord_23 (by decide) ?_
      refine rr_wrV (rest := []) (wr := [(no, .inl (cy 1, 118, .inl (iA a))), (pa, .inl (cy 1, 1652, .inl (iA ap))), (tx, .inl (cy 0, 40, .inl (iA tc)))]) (ws2 := [(mo, .inr (7, [vI 0, .ref no, .ref th, .ref pa, vI ss, .ref sl, .ref sv, .ref tx, vI ty])), (no, .inl (cy 1, 118, .inl (iA a))), (pa, .inl (cy 1, 1652, .inl (iA ap))), (tx, .inl (cy 0, 40, .inl (iA tc)))]) F hK (c_X7_refuses l D cy mo no th pa sl sv tx tr ss ty 0 (by first | assumption | omega | exact ⟨by omega, by omega⟩)) hP hD hS hA sf_X7_refuses tw910 7 rfl rfl ⟨Nat.le_of_ble_eq_true rfl, Nat.le_of_ble_eq_true rfl⟩ hl rfl (Nat.le_of_ble_eq_true rfl) dX7_addWord_27 ⟨Nat.zero_le _, Nat.zero_le _⟩ [0] [1, 2, 3] [3, 0, 1, 2] rfl rfl (by decide) (by decide) (by decide) rfl rfl (by decide) (fun H locs hP hD hS => ?_)
      have hP : va_P D vwCl [(mo, .inr (7, [vI 0, .ref no, .ref th, .ref pa, vI ss, .ref sl, .ref sv, .ref tx, vI ty])), (no, .inl (cy 1, 118, .inl (iA a))), (pa, .inl (cy 1, 1652, .inl (iA ap))), (tx, .inl (cy 0, 40, .inl (iA tc)))] H := hP
      have hD : va_D _ [(mo, .inr (7, [vI 0, .ref no, .ref th, .ref pa, vI ss, .ref sl, .ref sv, .ref tx, vI ty])), (no, .inl (cy 1, 118, .inl (iA a))), (pa, .inl (cy 1, 1652, .inl (iA ap))), (tx, .inl (cy 0, 40, .inl (iA tc)))] := hD
      refine rr_ifP_eq F (tgt := 35) dX7_addWord_30 (by decide) (fun c_30 => ?_) (fun c_30 => ?_)
      · have hok := ferr_ok ht0.1 h1
        refine lv_aload_n F.1 F.2.1 dX7_addWord_35 rfl (lv_at hl 0 rfl) ?_
        refine rr_wrV (rest := []) (wr := [(tx, .inl (cy 0, 40, .inl (iA tc)))]) (ws2 := [(mo, .inr (7, [vI 0, .ref no, .ref th, .ref pa, vI (remN ss), .ref sl, .ref sv, .ref tx, vI ty])), (no, .inl (cy 1, 118, .inl (iA a))), (pa, .inl (cy 1, 1652, .inl (iA (remA a ap ss)))), (tx, .inl (cy 0, 40, .inl (iA tc)))]) F hK (c_X7_remembers l D cy mo no th pa sl sv tx 0 ss ty a ap (by first | assumption | omega | exact ⟨by omega, by omega⟩)) hP hD hS hA sf_X7_remembers tw1092 7 rfl rfl ⟨Nat.le_of_ble_eq_true rfl, Nat.le_of_ble_eq_true rfl⟩ hl rfl (Nat.le_of_ble_eq_true rfl) dX7_addWord_36 ⟨Nat.zero_le _, Nat.zero_le _⟩ [0, 1, 2] [3] [1, 2, 3, 0] rfl rfl (by decide) (by decide) (by decide) rfl rfl (by decide) (fun H locs hP hD hS => ?_)
        have hP : va_P D vwCl [(mo, .inr (7, [vI 0, .ref no, .ref th, .ref pa, vI (remN ss), .ref sl, .ref sv, .ref tx, vI ty])), (no, .inl (cy 1, 118, .inl (iA a))), (pa, .inl (cy 1, 1652, .inl (iA (remA a ap ss)))), (tx, .inl (cy 0, 40, .inl (iA tc)))] H := hP
        have hD : va_D _ [(mo, .inr (7, [vI 0, .ref no, .ref th, .ref pa, vI (remN ss), .ref sl, .ref sv, .ref tx, vI ty])), (no, .inl (cy 1, 118, .inl (iA a))), (pa, .inl (cy 1, 1652, .inl (iA (remA a ap ss)))), (tx, .inl (cy 0, 40, .inl (iA tc)))] := hD
        refine rr_bipush F dX7_addWord_39 (by decide) ?_
        refine rr_bipush F dX7_addWord_41 (by decide) ?_
        refine lv_aload_n F.1 F.2.1 dX7_addWord_43 rfl (lv_at hl 0 rfl) ?_
        refine gf7_1 F hK hP 0 rfl tw875 dX7_addWord_44 ?_
        refine rr_bipush F dX7_addWord_47 (by decide) ?_
        refine rr_iald F hK hP 1 rfl (by omega) (by omega) (by decide) dX7_addWord_49 ?_
        refine rr_imul F (z := 7 * (a 25)) dX7_addWord_50 (by first | rfl | omega) ?_
        refine rr_iadd F (z := 26 + (7 * (a 25))) dX7_addWord_51 (by first | rfl | omega) ?_
        refine lv_istore_n (lv' := [(1, vI (26 + (7 * (a 25)))), (0, .ref mo)]) F.1 F.2.1 dX7_addWord_52 rfl hl (by decide) rfl (fun ls hl => ?_)
        refine lv_aload_n F.1 F.2.1 dX7_addWord_53 rfl (lv_at hl 1 rfl) ?_
        refine gf7_1 F hK hP 0 rfl tw875 dX7_addWord_54 ?_
        refine lv_iload_n F.1 F.2.1 dX7_addWord_57 rfl (lv_at hl 0 rfl) ?_
        refine lv_aload_n F.1 F.2.1 dX7_addWord_58 rfl (lv_at hl 1 rfl) ?_
        refine gf7_8 F hK hP 0 rfl tw882 dX7_addWord_59 ?_
        refine rr_iast F hK hP hD hS 1 rfl (by omega) (by omega) (by decide) dX7_addWord_62 (fun H locs hP hD hS => ?_)
        have hP : va_P D vwCl [(mo, .inr (7, [vI 0, .ref no, .ref th, .ref pa, vI (remN ss), .ref sl, .ref sv, .ref tx, vI ty])), (no, .inl (cy 1, 118, .inl (iA (updZ a (26 + (7 * (a 25))) ty)))), (pa, .inl (cy 1, 1652, .inl (iA (remA a ap ss)))), (tx, .inl (cy 0, 40, .inl (iA tc)))] H := hP
        have hD : va_D _ [(mo, .inr (7, [vI 0, .ref no, .ref th, .ref pa, vI (remN ss), .ref sl, .ref sv, .ref tx, vI ty])), (no, .inl (cy 1, 118, .inl (iA (updZ a (26 + (7 * (a 25))) ty)))), (pa, .inl (cy 1, 1652, .inl (iA (remA a ap ss)))), (tx, .inl (cy 0, 40, .inl (iA tc)))] := hD
        refine rr_iconst F dX7_addWord_63 ?_
        refine lv_istore_n (lv' := [(2, vI 0), (1, vI (26 + (7 * (a 25)))), (0, .ref mo)]) F.1 F.2.1 dX7_addWord_64 rfl hl (by decide) rfl (fun ls hl => ?_)
        refine rr_loopW1 (fun k => (0 ≤ k) ∧ (k ≤ 6)) (fun k => (6 - k).toNat) (fun k => [(2, vI k), (1, vI (26 + 7 * a 25)), (0, .ref mo)]) (fun k => [(mo, .inr (7, [vI 0, .ref no, .ref th, .ref pa, vI (remN ss), .ref sl, .ref sv, .ref tx, vI ty])), (no, .inl (cy 1, 118, .inl (iA (wrdK a tc ty k)))), (pa, .inl (cy 1, 1652, .inl (iA (remA a ap ss)))), (tx, .inl (cy 0, 40, .inl (iA tc)))]) ?_ 0 ⟨by omega, by omega⟩ (by rw [wrdK_0]; exact hP) (hD.like rfl) hS (lv_sub hl [0, 1, 2] rfl)
        intro k hI ih_65 H locs ls hP hD hS hl
        obtain ⟨k0, k1⟩ := hI
        have hl : lv_has ls 3 [(2, vI k), (1, vI (26 + 7 * a 25)), (0, .ref mo)] := hl
        have hP : va_P D vwCl [(mo, .inr (7, [vI 0, .ref no, .ref th, .ref pa, vI (remN ss), .ref sl, .ref sv, .ref tx, vI ty])), (no, .inl (cy 1, 118, .inl (iA (wrdK a tc ty k)))), (pa, .inl (cy 1, 1652, .inl (iA (remA a ap ss)))), (tx, .inl (cy 0, 40, .inl (iA tc)))] H := hP
        have hD : va_D _ [(mo, .inr (7, [vI 0, .ref no, .ref th, .ref pa, vI (remN ss), .ref sl, .ref sv, .ref tx, vI ty])), (no, .inl (cy 1, 118, .inl (iA (wrdK a tc ty k)))), (pa, .inl (cy 1, 1652, .inl (iA (remA a ap ss)))), (tx, .inl (cy 0, 40, .inl (iA tc)))] := hD
        have w25 : wrdK a tc ty k 25 = a 25 := wrdK_lo (by omega) (by omega)
        refine lv_iload_n F.1 F.2.1 dX7_addWord_65 rfl (lv_at hl 0 rfl) ?_
        refine rr_bipush F dX7_addWord_66 (by decide) ?_
        refine rr_icmp_ge F (tgt := 104) dX7_addWord_68 (by decide) ⟨by omega, by omega⟩ ⟨by omega, by omega⟩ (fun c_68 => ?_) (fun c_68 => ?_)
        · refine lv_aload_n F.1 F.2.1 dX7_addWord_104 rfl (lv_at hl 2 rfl) ?_
          refine gf7_1 F hK hP 0 rfl tw875 dX7_addWord_105 ?_
          refine rr_bipush F dX7_addWord_108 (by decide) ?_
          refine lv_dup2_11 F.1 F.2.1 dX7_addWord_110 rfl rfl ?_
          refine rr_iald F hK hP 1 rfl (by omega) (by omega) (by decide) dX7_addWord_111 ?_
          refine rr_iconst F dX7_addWord_112 ?_
          refine rr_iadd F (z := a 25 + 1) dX7_addWord_113 (by rw [w25]) ?_
          refine rr_iast F hK hP hD hS 1 rfl (by omega) (by omega) (by decide) dX7_addWord_114 (fun H locs hP hD hS => ?_)
          have hP : va_P D vwCl [(mo, .inr (7, [vI 0, .ref no, .ref th, .ref pa, vI (remN ss), .ref sl, .ref sv, .ref tx, vI ty])), (no, .inl (cy 1, 118, .inl (iA (updZ (wrdK a tc ty k) 25 (a 25 + 1))))), (pa, .inl (cy 1, 1652, .inl (iA (remA a ap ss)))), (tx, .inl (cy 0, 40, .inl (iA tc)))] H := hP
          have hD : va_D _ [(mo, .inr (7, [vI 0, .ref no, .ref th, .ref pa, vI (remN ss), .ref sl, .ref sv, .ref tx, vI ty])), (no, .inl (cy 1, 118, .inl (iA (updZ (wrdK a tc ty k) 25 (a 25 + 1))))), (pa, .inl (cy 1, 1652, .inl (iA (remA a ap ss)))), (tx, .inl (cy 0, 40, .inl (iA tc)))] := hD
          refine lv_aload_n F.1 F.2.1 dX7_addWord_115 rfl (lv_at hl 2 rfl) ?_
          refine gf7_1 F hK hP 0 rfl tw875 dX7_addWord_116 ?_
          refine rr_bipush F dX7_addWord_119 (by decide) ?_
          refine rr_iald F hK hP 1 rfl (by omega) (by omega) (by decide) dX7_addWord_121 ?_
          refine rr_iconst F dX7_addWord_122 ?_
          refine rr_isub F (z := a 25) dX7_addWord_123 (by rw [updZ_s]; omega) ?_
          exact rr_wiret F hr hlocks dX7_addWord_124 hP hS (by rw [show k = 6 by omega]) (by first | rfl | omega)
        · refine lv_aload_n F.1 F.2.1 dX7_addWord_71 rfl (lv_at hl 2 rfl) ?_
          refine gf7_1 F hK hP 0 rfl tw875 dX7_addWord_72 ?_
          refine lv_iload_n F.1 F.2.1 dX7_addWord_75 rfl (lv_at hl 1 rfl) ?_
          refine rr_iconst F dX7_addWord_76 ?_
          refine rr_iadd F (z := (26 + 7 * a 25) + 1) dX7_addWord_77 (by first | rfl | omega) ?_
          refine lv_iload_n F.1 F.2.1 dX7_addWord_78 rfl (lv_at hl 0 rfl) ?_
          refine rr_iadd F (z := ((26 + 7 * a 25) + 1) + k) dX7_addWord_79 (by first | rfl | omega) ?_
          refine lv_iload_n F.1 F.2.1 dX7_addWord_80 rfl (lv_at hl 0 rfl) ?_
          refine lv_aload_n F.1 F.2.1 dX7_addWord_81 rfl (lv_at hl 2 rfl) ?_
          refine gf7_8 F hK hP 0 rfl tw882 dX7_addWord_82 ?_
          refine rr_icmp_ge F (tgt := 96) dX7_addWord_85 (by decide) ⟨by omega, by omega⟩ ⟨by omega, by omega⟩ (fun c_85 => ?_) (fun c_85 => ?_)
          · refine rr_iconst F dX7_addWord_96 ?_
            refine rr_iast F hK hP hD hS 1 rfl (by omega) (by omega) (by decide) dX7_addWord_97 (fun H locs hP hD hS => ?_)
            have hP : va_P D vwCl [(mo, .inr (7, [vI 0, .ref no, .ref th, .ref pa, vI (remN ss), .ref sl, .ref sv, .ref tx, vI ty])), (no, .inl (cy 1, 118, .inl (iA (updZ (wrdK a tc ty k) (((26 + 7 * a 25) + 1) + k) 0)))), (pa, .inl (cy 1, 1652, .inl (iA (remA a ap ss)))), (tx, .inl (cy 0, 40, .inl (iA tc)))] H := hP
            have hD : va_D _ [(mo, .inr (7, [vI 0, .ref no, .ref th, .ref pa, vI (remN ss), .ref sl, .ref sv, .ref tx, vI ty])), (no, .inl (cy 1, 118, .inl (iA (updZ (wrdK a tc ty k) (((26 + 7 * a 25) + 1) + k) 0)))), (pa, .inl (cy 1, 1652, .inl (iA (remA a ap ss)))), (tx, .inl (cy 0, 40, .inl (iA tc)))] := hD
            refine lv_iinc (v := iI (k + 1)) (lv' := [(2, vI (k + 1)), (1, vI (26 + 7 * a 25)), (0, .ref mo)]) F.1 F.2.1 dX7_addWord_98 hl (k := 0) rfl (iinc_ok (by first | rfl | omega)) (by decide) rfl (fun ls hl => ?_)
            refine lv_goto (tgt := 65) F.1 F.2.1 dX7_addWord_101 (by decide) ?_
            exact ih_65 (k + 1) ⟨by omega, by omega⟩ (show ((6 - (k + 1)).toNat) < ((6 - k).toNat) by omega) _ _ ls (by first | (rw [← wrdK_y k0 (by assumption)]; exact hP) | (rw [← wrdK_n k0 (by omega)]; exact hP)) (hD.like rfl) hS (lv_sub hl [0, 1, 2] rfl)
          · refine lv_aload_n F.1 F.2.1 dX7_addWord_88 rfl (lv_at hl 2 rfl) ?_
            have hc := ht1 k k0 (by omega)
            refine lv_iload_n F.1 F.2.1 dX7_addWord_89 rfl (lv_at hl 0 rfl) ?_
            refine rr_rdV (rest := [vI (((26 + 7 * a 25) + 1) + k), .ref no]) F hK (c_X7_signOf l D cy mo no th pa sl sv tx 0 (remN ss) ty tc k (by first | assumption | omega | exact ⟨by omega, by omega⟩) (by first | assumption | omega | exact ⟨by omega, by omega⟩)) (hP.sub [0, 3] rfl) sf_X7_signOf tw1096 7 rfl rfl ⟨Nat.le_of_ble_eq_true rfl, Nat.le_of_ble_eq_true rfl⟩ hl rfl (Nat.le_of_ble_eq_true rfl) dX7_addWord_90 ⟨Nat.zero_le _, Nat.zero_le _⟩ ?_
            have q_90_0 := (show -96 ≤ sgc (tc k) ∧ sgc (tc k) < 65536 by unfold sgc; split <;> (try split) <;> omega)
            refine lv_goto (tgt := 97) F.1 F.2.1 dX7_addWord_93 (by decide) ?_
            refine rr_iast F hK hP hD hS 1 rfl (by omega) (by omega) (by decide) dX7_addWord_97 (fun H locs hP hD hS => ?_)
            have hP : va_P D vwCl [(mo, .inr (7, [vI 0, .ref no, .ref th, .ref pa, vI (remN ss), .ref sl, .ref sv, .ref tx, vI ty])), (no, .inl (cy 1, 118, .inl (iA (updZ (wrdK a tc ty k) (((26 + 7 * a 25) + 1) + k) (sgc (tc k)))))), (pa, .inl (cy 1, 1652, .inl (iA (remA a ap ss)))), (tx, .inl (cy 0, 40, .inl (iA tc)))] H := hP
            have hD : va_D _ [(mo, .inr (7, [vI 0, .ref no, .ref th, .ref pa, vI (remN ss), .ref sl, .ref sv, .ref tx, vI ty])), (no, .inl (cy 1, 118, .inl (iA (updZ (wrdK a tc ty k) (((26 + 7 * a 25) + 1) + k) (sgc (tc k)))))), (pa, .inl (cy 1, 1652, .inl (iA (remA a ap ss)))), (tx, .inl (cy 0, 40, .inl (iA tc)))] := hD
            refine lv_iinc (v := iI (k + 1)) (lv' := [(2, vI (k + 1)), (1, vI (26 + 7 * a 25)), (0, .ref mo)]) F.1 F.2.1 dX7_addWord_98 hl (k := 0) rfl (iinc_ok (by first | rfl | omega)) (by decide) rfl (fun ls hl => ?_)
            refine lv_goto (tgt := 65) F.1 F.2.1 dX7_addWord_101 (by decide) ?_
            exact ih_65 (k + 1) ⟨by omega, by omega⟩ (show ((6 - (k + 1)).toNat) < ((6 - k).toNat) by omega) _ _ ls (by first | (rw [← wrdK_y k0 (by assumption)]; exact hP) | (rw [← wrdK_n k0 (by omega)]; exact hP)) (hD.like rfl) hS (lv_sub hl [0, 1, 2] rfl)
      · exfalso; omega
set_option maxRecDepth 100000 in
set_option maxHeartbeats 4000000 in
theorem n_X7_addWord (l : Launch) (D : va_G) (cy : Nat → ClassId) (mo no th pa sl sv tx : Nat) (tr ss ty : Int) (a ap tc : Int → Int) (hM : MR a) (hs : 0 ≤ ss ∧ ss ≤ 14) (hT : (0 ≤ ty ∧ ty ≤ 40) ∧ CH 40 tc) (hbad : ¬ (ferr ty tc 1 = -1 ∧ a 25 < 10)) : Wr l yX7_addWord cX7_addWord 3 (some FieldType.int) 2 [.ref mo] D cy [(mo, .inr (7, [vI tr, .ref no, .ref th, .ref pa, vI ss, .ref sl, .ref sv, .ref tx, vI ty])), (no, .inl (cy 1, 118, .inl (iA a))), (pa, .inl (cy 1, 1652, .inl (iA ap))), (tx, .inl (cy 0, 40, .inl (iA tc)))] [(mo, .inr (7, [vI 1, .ref no, .ref th, .ref pa, vI ss, .ref sl, .ref sv, .ref tx, vI ty])), (no, .inl (cy 1, 118, .inl (iA a))), (pa, .inl (cy 1, 1652, .inl (iA ap))), (tx, .inl (cy 0, 40, .inl (iA tc)))] (some (vI 0)) := by
  refine Wr.of RX7 rfl [(0, .ref mo)] rfl (by decide +kernel) (Nat.le_of_ble_eq_true rfl) ?_
  intro p e s m args below meth c F hr hlocks hK hP hD hS hA ls hl
  have hn0 := hM.n
  have hw0 := hM.nw
  have hc0 := hM.wc
  obtain ⟨ht0, ht1⟩ := id hT
  refine lv_aload_n F.1 F.2.1 dX7_addWord_0 rfl (lv_at hl 0 rfl) ?_
  refine lv_aload_n F.1 F.2.1 dX7_addWord_1 rfl (lv_at hl 0 rfl) ?_
  refine rr_iconst F dX7_addWord_2 ?_
  refine rr_rdV (rest := [.ref mo]) F hK (c_X7_error l D cy mo no th pa sl sv tx tr ss ty tc 1 (by first | assumption | omega | exact ⟨by omega, by omega⟩) (by first | assumption | omega | exact ⟨by omega, by omega⟩)) (hP.sub [0, 3] rfl) sf_X7_error tw932 7 rfl rfl ⟨Nat.le_of_ble_eq_true rfl, Nat.le_of_ble_eq_true rfl⟩ hl rfl (Nat.le_of_ble_eq_true rfl) dX7_addWord_3 ⟨Nat.zero_le _, Nat.zero_le _⟩ ?_
  have q_3_0 := (ferr_rng (tl := ty) (tc := tc) (fb := 1) (by omega))
  refine rr_iconst F dX7_addWord_6 ?_
  refine rr_icmp_ne F (tgt := 26) dX7_addWord_7 (by decide) ⟨by omega, by omega⟩ ⟨by omega, by omega⟩ (fun c_7 => ?_) (fun c_7 => ?_)
  · refine rr_iconst F dX7_addWord_26 ?_
    refine rr_wrV (rest := []) (wr := [(no, .inl (cy 1, 118, .inl (iA a))), (pa, .inl (cy 1, 1652, .inl (iA ap))), (tx, .inl (cy 0, 40, .inl (iA tc)))]) (ws2 := [(mo, .inr (7, [vI 1, .ref no, .ref th, .ref pa, vI ss, .ref sl, .ref sv, .ref tx, vI ty])), (no, .inl (cy 1, 118, .inl (iA a))), (pa, .inl (cy 1, 1652, .inl (iA ap))), (tx, .inl (cy 0, 40, .inl (iA tc)))]) F hK (c_X7_refuses l D cy mo no th pa sl sv tx tr ss ty 1 (by first | assumption | omega | exact ⟨by omega, by omega⟩)) hP hD hS hA sf_X7_refuses tw910 7 rfl rfl ⟨Nat.le_of_ble_eq_true rfl, Nat.le_of_ble_eq_true rfl⟩ hl rfl (Nat.le_of_ble_eq_true rfl) dX7_addWord_27 ⟨Nat.zero_le _, Nat.zero_le _⟩ [0] [1, 2, 3] [3, 0, 1, 2] rfl rfl (by decide) (by decide) (by decide) rfl rfl (by decide) (fun H locs hP hD hS => ?_)
    have hP : va_P D vwCl [(mo, .inr (7, [vI 1, .ref no, .ref th, .ref pa, vI ss, .ref sl, .ref sv, .ref tx, vI ty])), (no, .inl (cy 1, 118, .inl (iA a))), (pa, .inl (cy 1, 1652, .inl (iA ap))), (tx, .inl (cy 0, 40, .inl (iA tc)))] H := hP
    have hD : va_D _ [(mo, .inr (7, [vI 1, .ref no, .ref th, .ref pa, vI ss, .ref sl, .ref sv, .ref tx, vI ty])), (no, .inl (cy 1, 118, .inl (iA a))), (pa, .inl (cy 1, 1652, .inl (iA ap))), (tx, .inl (cy 0, 40, .inl (iA tc)))] := hD
    refine rr_ifP_eq F (tgt := 35) dX7_addWord_30 (by decide) (fun c_30 => ?_) (fun c_30 => ?_)
    · exfalso; omega
    · refine rr_iconst F dX7_addWord_33 ?_
      exact rr_wiret F hr hlocks dX7_addWord_34 hP hS (by repeat' (first | rfl | split | omega)) (rfl)
  · refine lv_aload_n F.1 F.2.1 dX7_addWord_10 rfl (lv_at hl 0 rfl) ?_
    refine gf7_1 F hK hP 0 rfl tw875 dX7_addWord_11 ?_
    refine rr_bipush F dX7_addWord_14 (by decide) ?_
    refine rr_iald F hK hP 1 rfl (by omega) (by omega) (by decide) dX7_addWord_16 ?_
    refine rr_bipush F dX7_addWord_17 (by decide) ?_
    refine rr_icmp_ge F (tgt := 26) dX7_addWord_19 (by decide) ⟨by omega, by omega⟩ ⟨by omega, by omega⟩ (fun c_19 => ?_) (fun c_19 => ?_)
    · refine rr_iconst F dX7_addWord_26 ?_
      refine rr_wrV (rest := []) (wr := [(no, .inl (cy 1, 118, .inl (iA a))), (pa, .inl (cy 1, 1652, .inl (iA ap))), (tx, .inl (cy 0, 40, .inl (iA tc)))]) (ws2 := [(mo, .inr (7, [vI 1, .ref no, .ref th, .ref pa, vI ss, .ref sl, .ref sv, .ref tx, vI ty])), (no, .inl (cy 1, 118, .inl (iA a))), (pa, .inl (cy 1, 1652, .inl (iA ap))), (tx, .inl (cy 0, 40, .inl (iA tc)))]) F hK (c_X7_refuses l D cy mo no th pa sl sv tx tr ss ty 1 (by first | assumption | omega | exact ⟨by omega, by omega⟩)) hP hD hS hA sf_X7_refuses tw910 7 rfl rfl ⟨Nat.le_of_ble_eq_true rfl, Nat.le_of_ble_eq_true rfl⟩ hl rfl (Nat.le_of_ble_eq_true rfl) dX7_addWord_27 ⟨Nat.zero_le _, Nat.zero_le _⟩ [0] [1, 2, 3] [3, 0, 1, 2] rfl rfl (by decide) (by decide) (by decide) rfl rfl (by decide) (fun H locs hP hD hS => ?_)
      have hP : va_P D vwCl [(mo, .inr (7, [vI 1, .ref no, .ref th, .ref pa, vI ss, .ref sl, .ref sv, .ref tx, vI ty])), (no, .inl (cy 1, 118, .inl (iA a))), (pa, .inl (cy 1, 1652, .inl (iA ap))), (tx, .inl (cy 0, 40, .inl (iA tc)))] H := hP
      have hD : va_D _ [(mo, .inr (7, [vI 1, .ref no, .ref th, .ref pa, vI ss, .ref sl, .ref sv, .ref tx, vI ty])), (no, .inl (cy 1, 118, .inl (iA a))), (pa, .inl (cy 1, 1652, .inl (iA ap))), (tx, .inl (cy 0, 40, .inl (iA tc)))] := hD
      refine rr_ifP_eq F (tgt := 35) dX7_addWord_30 (by decide) (fun c_30 => ?_) (fun c_30 => ?_)
      · exfalso; omega
      · refine rr_iconst F dX7_addWord_33 ?_
        exact rr_wiret F hr hlocks dX7_addWord_34 hP hS (by repeat' (first | rfl | split | omega)) (rfl)
    · refine rr_iconst F dX7_addWord_22 ?_
      refine lv_goto (tgt := 27) F.1 F.2.1 dX7_addWord_23 (by decide) ?_
      refine rr_wrV (rest := []) (wr := [(no, .inl (cy 1, 118, .inl (iA a))), (pa, .inl (cy 1, 1652, .inl (iA ap))), (tx, .inl (cy 0, 40, .inl (iA tc)))]) (ws2 := [(mo, .inr (7, [vI 0, .ref no, .ref th, .ref pa, vI ss, .ref sl, .ref sv, .ref tx, vI ty])), (no, .inl (cy 1, 118, .inl (iA a))), (pa, .inl (cy 1, 1652, .inl (iA ap))), (tx, .inl (cy 0, 40, .inl (iA tc)))]) F hK (c_X7_refuses l D cy mo no th pa sl sv tx tr ss ty 0 (by first | assumption | omega | exact ⟨by omega, by omega⟩)) hP hD hS hA sf_X7_refuses tw910 7 rfl rfl ⟨Nat.le_of_ble_eq_true rfl, Nat.le_of_ble_eq_true rfl⟩ hl rfl (Nat.le_of_ble_eq_true rfl) dX7_addWord_27 ⟨Nat.zero_le _, Nat.zero_le _⟩ [0] [1, 2, 3] [3, 0, 1, 2] rfl rfl (by decide) (by decide) (by decide) rfl rfl (by decide) (fun H locs hP hD hS => ?_)
      have hP : va_P D vwCl [(mo, .inr (7, [vI 0, .ref no, .ref th, .ref pa, vI ss, .ref sl, .ref sv, .ref tx, vI ty])), (no, .inl (cy 1, 118, .inl (iA a))), (pa, .inl (cy 1, 1652, .inl (iA ap))), (tx, .inl (cy 0, 40, .inl (iA tc)))] H := hP
      have hD : va_D _ [(mo, .inr (7, [vI 0, .ref no, .ref th, .ref pa, vI ss, .ref sl, .ref sv, .ref tx, vI ty])), (no, .inl (cy 1, 118, .inl (iA a))), (pa, .inl (cy 1, 1652, .inl (iA ap))), (tx, .inl (cy 0, 40, .inl (iA tc)))] := hD
      refine rr_ifP_eq F (tgt := 35) dX7_addWord_30 (by decide) (fun c_30 => ?_) (fun c_30 => ?_)
      · exfalso; omega
      · exfalso; omega
