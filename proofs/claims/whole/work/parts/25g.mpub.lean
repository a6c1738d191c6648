set_option maxRecDepth 100000 in
set_option maxHeartbeats 4000000 in
theorem c_X7_simulate (l : Launch) (D : va_G) (cy : Nat → ClassId) (mo no th pa sl sv tx : Nat) (tr ss ty : Int) (a a2 : Int → Int) (s0 t0 : Int) (hM : MR a) (hsp : 0 ≤ a 117 ∧ a 117 ≤ 90000000) (ht : inR t0) (h1 : 1 ≤ t0 ∧ t0 ≤ 60) : Wr l yX7_simulate cX7_simulate 7 (some FieldType.int) 8 [.ref mo, .long (lI s0), vI t0] D cy [(mo, .inr (7, [vI tr, .ref no, .ref th, .ref pa, vI ss, .ref sl, .ref sv, .ref tx, vI ty])), (no, .inl (cy 1, 118, .inl (iA a))), (th, .inl (cy 1, 118, .inl (iA a2)))] [(mo, .inr (7, [vI 0, .ref no, .ref th, .ref pa, vI ss, .ref sl, .ref sv, .ref tx, vI ty])), (no, .inl (cy 1, 118, .inl (iA a))), (th, .inl (cy 1, 118, .inl (iA (simR a s0 t0))))] (some (vI (simV (simR a s0 t0)))) := by
  refine Wr.of RX7 rfl [(0, .ref mo), (1, .long (lI s0)), (3, vI t0)] rfl (by decide +kernel) (Nat.le_of_ble_eq_true rfl) ?_
  intro p e s m args below meth c F hr hlocks hK hP hD hS hA ls hl
  have hn0 := hM.n
  have hw0 := hM.nw
  have hc0 := hM.wc
  refine lv_aload_n F.1 F.2.1 dX7_simulate_0 rfl (lv_at hl 0 rfl) ?_
  refine lv_iload_n F.1 F.2.1 dX7_simulate_1 rfl (lv_at hl 2 rfl) ?_
  refine rr_iconst F dX7_simulate_2 ?_
  refine rr_bipush F dX7_simulate_3 (by decide) ?_
  refine rr_rdS (rest := [.ref mo]) F hK (c_X7_in l D cy t0 1 60 (by first | assumption | omega | exact ⟨by omega, by omega⟩) (by first | assumption | omega | exact ⟨by omega, by omega⟩) (by first | assumption | omega | exact ⟨by omega, by omega⟩)) (hP.sub [] rfl) sf_X7_in tw921 ⟨Nat.le_of_ble_eq_true rfl, Nat.le_of_ble_eq_true rfl⟩ hl rfl (Nat.le_of_ble_eq_true rfl) dX7_simulate_5 ⟨Nat.zero_le _, Nat.zero_le _⟩ ?_
  refine rr_ifP_eq F (tgt := 15) dX7_simulate_8 (by decide) (fun c_8 => ?_) (fun c_8 => ?_)
  · refine rr_iconst F dX7_simulate_15 ?_
    refine rr_wrV (rest := []) (wr := [(no, .inl (cy 1, 118, .inl (iA a))), (th, .inl (cy 1, 118, .inl (iA a2)))]) (ws2 := [(mo, .inr (7, [vI 1, .ref no, .ref th, .ref pa, vI ss, .ref sl, .ref sv, .ref tx, vI ty])), (no, .inl (cy 1, 118, .inl (iA a))), (th, .inl (cy 1, 118, .inl (iA a2)))]) F hK (c_X7_refuses l D cy mo no th pa sl sv tx tr ss ty 1 (by first | assumption | omega | exact ⟨by omega, by omega⟩)) hP hD hS hA sf_X7_refuses tw910 7 rfl rfl ⟨Nat.le_of_ble_eq_true rfl, Nat.le_of_ble_eq_true rfl⟩ hl rfl (Nat.le_of_ble_eq_true rfl) dX7_simulate_16 ⟨Nat.zero_le _, Nat.zero_le _⟩ [0] [1, 2] [2, 0, 1] rfl rfl (by decide) (by decide) (by decide) rfl rfl (by decide) (fun H locs hP hD hS => ?_)
    have hP : va_P D vwCl [(mo, .inr (7, [vI 1, .ref no, .ref th, .ref pa, vI ss, .ref sl, .ref sv, .ref tx, vI ty])), (no, .inl (cy 1, 118, .inl (iA a))), (th, .inl (cy 1, 118, .inl (iA a2)))] H := hP
    have hD : va_D _ [(mo, .inr (7, [vI 1, .ref no, .ref th, .ref pa, vI ss, .ref sl, .ref sv, .ref tx, vI ty])), (no, .inl (cy 1, 118, .inl (iA a))), (th, .inl (cy 1, 118, .inl (iA a2)))] := hD
    refine rr_ifP_eq F (tgt := 24) dX7_simulate_19 (by decide) (fun c_19 => ?_) (fun c_19 => ?_)
    · exfalso; omega
    · exfalso; omega
  · refine rr_iconst F dX7_simulate_11 ?_
    refine lv_goto (tgt := 16) F.1 F.2.1 dX7_simulate_12 (by decide) ?_
    refine rr_wrV (rest := []) (wr := [(no, .inl (cy 1, 118, .inl (iA a))), (th, .inl (cy 1, 118, .inl (iA a2)))]) (ws2 := [(mo, .inr (7, [vI 0, .ref no, .ref th, .ref pa, vI ss, .ref sl, .ref sv, .ref tx, vI ty])), (no, .inl (cy 1, 118, .inl (iA a))), (th, .inl (cy 1, 118, .inl (iA a2)))]) F hK (c_X7_refuses l D cy mo no th pa sl sv tx tr ss ty 0 (by first | assumption | omega | exact ⟨by omega, by omega⟩)) hP hD hS hA sf_X7_refuses tw910 7 rfl rfl ⟨Nat.le_of_ble_eq_true rfl, Nat.le_of_ble_eq_true rfl⟩ hl rfl (Nat.le_of_ble_eq_true rfl) dX7_simulate_16 ⟨Nat.zero_le _, Nat.zero_le _⟩ [0] [1, 2] [2, 0, 1] rfl rfl (by decide) (by decide) (by decide) rfl rfl (by decide) (fun H locs hP hD hS => ?_)
    have hP : va_P D vwCl [(mo, .inr (7, [vI 0, .ref no, .ref th, .ref pa, vI ss, .ref sl, .ref sv, .ref tx, vI ty])), (no, .inl (cy 1, 118, .inl (iA a))), (th, .inl (cy 1, 118, .inl (iA a2)))] H := hP
    have hD : va_D _ [(mo, .inr (7, [vI 0, .ref no, .ref th, .ref pa, vI ss, .ref sl, .ref sv, .ref tx, vI ty])), (no, .inl (cy 1, 118, .inl (iA a))), (th, .inl (cy 1, 118, .inl (iA a2)))] := hD
    refine rr_ifP_eq F (tgt := 24) dX7_simulate_19 (by decide) (fun c_19 => ?_) (fun c_19 => ?_)
    · refine lv_aload_n F.1 F.2.1 dX7_simulate_24 rfl (lv_at hl 0 rfl) ?_
      refine gf7_1 F hK hP 0 rfl tw875 dX7_simulate_25 ?_
      refine rr_iconst F dX7_simulate_28 ?_
      refine lv_aload_n F.1 F.2.1 dX7_simulate_29 rfl (lv_at hl 0 rfl) ?_
      refine gf7_2 F hK hP 0 rfl tw876 dX7_simulate_30 ?_
      refine rr_iconst F dX7_simulate_33 ?_
      refine rr_wrS (rest := []) (wr := [(mo, .inr (7, [vI 0, .ref no, .ref th, .ref pa, vI ss, .ref sl, .ref sv, .ref tx, vI ty]))]) (ws2 := [(mo, .inr (7, [vI 0, .ref no, .ref th, .ref pa, vI ss, .ref sl, .ref sv, .ref tx, vI ty])), (no, .inl (cy 1, 118, .inl (iA a))), (th, .inl (cy 1, 118, .inl (iA (cpZ a a2 0 0 118))))]) F hK (c_X7_lays l D cy no th 118 118 a a2 0 0 (by first | assumption | omega | exact ⟨by omega, by omega⟩) (by first | assumption | omega | exact ⟨by omega, by omega⟩) (by first | assumption | omega | exact ⟨by omega, by omega⟩) (by first | assumption | omega | exact ⟨by omega, by omega⟩)) hP hD hS hA sf_X7_lays tw914 ⟨Nat.le_of_ble_eq_true rfl, Nat.le_of_ble_eq_true rfl⟩ hl rfl (Nat.le_of_ble_eq_true rfl) dX7_simulate_34 ⟨Nat.zero_le _, Nat.zero_le _⟩ [1, 2] [0] [0, 1, 2] rfl rfl (by decide) (by decide) (by decide) rfl rfl (by decide) (fun H locs hP hD hS => ?_)
      have hP : va_P D vwCl [(mo, .inr (7, [vI 0, .ref no, .ref th, .ref pa, vI ss, .ref sl, .ref sv, .ref tx, vI ty])), (no, .inl (cy 1, 118, .inl (iA a))), (th, .inl (cy 1, 118, .inl (iA (cpZ a a2 0 0 118))))] H := hP
      have hD : va_D _ [(mo, .inr (7, [vI 0, .ref no, .ref th, .ref pa, vI ss, .ref sl, .ref sv, .ref tx, vI ty])), (no, .inl (cy 1, 118, .inl (iA a))), (th, .inl (cy 1, 118, .inl (iA (cpZ a a2 0 0 118))))] := hD
      have hP : va_P D vwCl [(mo, .inr (7, [vI 0, .ref no, .ref th, .ref pa, vI ss, .ref sl, .ref sv, .ref tx, vI ty])), (no, .inl (cy 1, 118, .inl (iA a))), (th, .inl (cy 1, 118, .inl (iA a)))] H := va_P_row (ws := [(mo, .inr (7, [vI 0, .ref no, .ref th, .ref pa, vI ss, .ref sl, .ref sv, .ref tx, vI ty])), (no, .inl (cy 1, 118, .inl (iA a))), (th, .inl (cy 1, 118, .inl (iA (cpZ a a2 0 0 118))))]) (q1 := 2) (f := (cpZ a a2 0 0 118)) (g := a) (fun j h0 h1 => cpZ_full j h0 (by omega)) hP
      have hD : va_D _ [(mo, .inr (7, [vI 0, .ref no, .ref th, .ref pa, vI ss, .ref sl, .ref sv, .ref tx, vI ty])), (no, .inl (cy 1, 118, .inl (iA a))), (th, .inl (cy 1, 118, .inl (iA a)))] := va_D_row (ws := [(mo, .inr (7, [vI 0, .ref no, .ref th, .ref pa, vI ss, .ref sl, .ref sv, .ref tx, vI ty])), (no, .inl (cy 1, 118, .inl (iA a))), (th, .inl (cy 1, 118, .inl (iA (cpZ a a2 0 0 118))))]) (q1 := 2) (x := (th, .inl (cy 1, 118, .inl (iA (cpZ a a2 0 0 118)))).2) hD
      refine lv_lload_n F.1 F.2.1 dX7_simulate_37 rfl (lv_at hl 1 rfl) ?_
      refine lv_lstore (lv' := [(4, .long (lI s0)), (0, .ref mo), (1, .long (lI s0)), (3, vI t0)]) F.1 F.2.1 dX7_simulate_38 hl (by decide) rfl (fun ls hl => ?_)
      refine rr_iconst F dX7_simulate_40 ?_
      refine lv_istore (lv' := [(6, vI 0), (4, .long (lI s0)), (0, .ref mo), (1, .long (lI s0)), (3, vI t0)]) F.1 F.2.1 dX7_simulate_41 hl (by decide) rfl (fun ls hl => ?_)
      refine rr_loopW1 (fun k => (0 ≤ k) ∧ (k ≤ t0)) (fun k => (60 - k).toNat) (fun k => [(6, vI k), (4, .long (lI (lcgZ s0 k))), (0, .ref mo), (1, .long (lI s0)), (3, vI t0)]) (fun k => [(mo, .inr (7, [vI 0, .ref no, .ref th, .ref pa, vI ss, .ref sl, .ref sv, .ref tx, vI ty])), (no, .inl (cy 1, 118, .inl (iA a))), (th, .inl (cy 1, 118, .inl (iA (simR a s0 k))))]) ?_ 0 ⟨by omega, by omega⟩ hP hD hS (lv_sub hl [0, 1, 2, 3, 4] rfl)
      intro k hI ih_43 H locs ls hP hD hS hl
      obtain ⟨k0, k1⟩ := hI
      have hl : lv_has ls 7 [(6, vI k), (4, .long (lI (lcgZ s0 k))), (0, .ref mo), (1, .long (lI s0)), (3, vI t0)] := hl
      have hP : va_P D vwCl [(mo, .inr (7, [vI 0, .ref no, .ref th, .ref pa, vI ss, .ref sl, .ref sv, .ref tx, vI ty])), (no, .inl (cy 1, 118, .inl (iA a))), (th, .inl (cy 1, 118, .inl (iA (simR a s0 k))))] H := hP
      have hD : va_D _ [(mo, .inr (7, [vI 0, .ref no, .ref th, .ref pa, vI ss, .ref sl, .ref sv, .ref tx, vI ty])), (no, .inl (cy 1, 118, .inl (iA a))), (th, .inl (cy 1, 118, .inl (iA (simR a s0 k))))] := hD
      have hK2 := simR_ok hM (s := s0) k0
      refine lv_iload F.1 F.2.1 dX7_simulate_43 (lv_at hl 0 rfl) ?_
      refine lv_iload_n F.1 F.2.1 dX7_simulate_45 rfl (lv_at hl 4 rfl) ?_
      refine rr_icmp_ge F (tgt := 77) dX7_simulate_46 (by decide) ⟨by omega, by omega⟩ ⟨by omega, by omega⟩ (fun c_46 => ?_) (fun c_46 => ?_)
      · refine rr_sipush F dX7_simulate_77 (by decide) ?_
        refine lv_aload_n F.1 F.2.1 dX7_simulate_80 rfl (lv_at hl 2 rfl) ?_
        refine gf7_2 F hK hP 0 rfl tw876 dX7_simulate_81 ?_
        refine rr_iconst F dX7_simulate_84 ?_
        refine rr_rdS (rest := [vI 10000]) F hK (c_X7_sense l D cy th (simR a s0 k) 0 hK2.1 (by first | assumption | omega | exact ⟨by omega, by omega⟩)) (hP.sub [2] rfl) sf_X7_sense tw1017 ⟨Nat.le_of_ble_eq_true rfl, Nat.le_of_ble_eq_true rfl⟩ hl rfl (Nat.le_of_ble_eq_true rfl) dX7_simulate_85 ⟨Nat.zero_le _, Nat.zero_le _⟩ ?_
        refine rr_imul F (z := 10000 * (sns ((simR a s0 k) 0) (rq (simR a s0 k)) ((simR a s0 k) 25) (rbl (simR a s0 k)) (rbc (simR a s0 k)) 0)) dX7_simulate_88 (by first | rfl | omega) ?_
        refine rr_bipush F dX7_simulate_89 (by decide) ?_
        refine lv_aload_n F.1 F.2.1 dX7_simulate_91 rfl (lv_at hl 2 rfl) ?_
        refine gf7_2 F hK hP 0 rfl tw876 dX7_simulate_92 ?_
        refine rr_iconst F dX7_simulate_95 ?_
        refine rr_rdS (rest := [vI 100, vI (10000 * (sns ((simR a s0 k) 0) (rq (simR a s0 k)) ((simR a s0 k) 25) (rbl (simR a s0 k)) (rbc (simR a s0 k)) 0))]) F hK (c_X7_sense l D cy th (simR a s0 k) 1 hK2.1 (by first | assumption | omega | exact ⟨by omega, by omega⟩)) (hP.sub [2] rfl) sf_X7_sense tw1017 ⟨Nat.le_of_ble_eq_true rfl, Nat.le_of_ble_eq_true rfl⟩ hl rfl (Nat.le_of_ble_eq_true rfl) dX7_simulate_96 ⟨Nat.zero_le _, Nat.zero_le _⟩ ?_
        refine rr_imul F (z := 100 * (sns ((simR a s0 k) 0) (rq (simR a s0 k)) ((simR a s0 k) 25) (rbl (simR a s0 k)) (rbc (simR a s0 k)) 1)) dX7_simulate_99 (by first | rfl | omega) ?_
        refine rr_iadd F (z := (10000 * (sns ((simR a s0 k) 0) (rq (simR a s0 k)) ((simR a s0 k) 25) (rbl (simR a s0 k)) (rbc (simR a s0 k)) 0)) + (100 * (sns ((simR a s0 k) 0) (rq (simR a s0 k)) ((simR a s0 k) 25) (rbl (simR a s0 k)) (rbc (simR a s0 k)) 1))) dX7_simulate_100 (by first | rfl | omega) ?_
        refine lv_aload_n F.1 F.2.1 dX7_simulate_101 rfl (lv_at hl 2 rfl) ?_
        refine gf7_2 F hK hP 0 rfl tw876 dX7_simulate_102 ?_
        refine rr_rdS (rest := [vI ((10000 * (sns ((simR a s0 k) 0) (rq (simR a s0 k)) ((simR a s0 k) 25) (rbl (simR a s0 k)) (rbc (simR a s0 k)) 0)) + (100 * (sns ((simR a s0 k) 0) (rq (simR a s0 k)) ((simR a s0 k) 25) (rbl (simR a s0 k)) (rbc (simR a s0 k)) 1)))]) F hK (c_X7_knownByAll l D cy th (simR a s0 k) hK2.1) (hP.sub [2] rfl) sf_X7_knownByAll tw1169 ⟨Nat.le_of_ble_eq_true rfl, Nat.le_of_ble_eq_true rfl⟩ hl rfl (Nat.le_of_ble_eq_true rfl) dX7_simulate_105 ⟨Nat.zero_le _, Nat.zero_le _⟩ ?_
        refine rr_iadd F (z := ((10000 * (sns ((simR a s0 k) 0) (rq (simR a s0 k)) ((simR a s0 k) 25) (rbl (simR a s0 k)) (rbc (simR a s0 k)) 0)) + (100 * (sns ((simR a s0 k) 0) (rq (simR a s0 k)) ((simR a s0 k) 25) (rbl (simR a s0 k)) (rbc (simR a s0 k)) 1))) + (sm (fun u_w => knb ((simR a s0 k) 0) (rq (simR a s0 k)) ((simR a s0 k) 25) (rbl (simR a s0 k)) (rbc (simR a s0 k)) ((simR a s0 k) (97 + 5 * u_w + 1)) ((simR a s0 k) (97 + 5 * u_w + 4)) 0) ((simR a s0 k) 96))) dX7_simulate_108 (by first | rfl | omega) ?_
        exact rr_wiret F hr hlocks dX7_simulate_109 hP hS (by rw [show k = t0 by omega]) (by rw [show k = t0 by omega]; rfl)
      · refine lv_lload F.1 F.2.1 dX7_simulate_49 (lv_at hl 1 rfl) ?_
        refine rr_ldc2 F 6364136223846793005 rfl tw1238 dX7_simulate_51 ?_
        refine rr_lmul F (z := (lcgZ s0 k) * 6364136223846793005) dX7_simulate_54 (rfl) ?_
        refine rr_ldc2 F 1442695040888963407 rfl tw1239 dX7_simulate_55 ?_
        refine rr_ladd F (z := lcgZ s0 (k + 1)) dX7_simulate_58 (lcg_s s0 k0) ?_
        refine lv_lstore (lv' := [(4, .long (lI (lcgZ s0 (k + 1)))), (6, vI k), (0, .ref mo), (1, .long (lI s0)), (3, vI t0)]) F.1 F.2.1 dX7_simulate_59 hl (by decide) rfl (fun ls hl => ?_)
        refine lv_aload_n F.1 F.2.1 dX7_simulate_61 rfl (lv_at hl 2 rfl) ?_
        refine lv_lload F.1 F.2.1 dX7_simulate_62 (lv_at hl 0 rfl) ?_
        refine rr_bipush F dX7_simulate_64 (by decide) ?_
        refine rr_lushr33 F dX7_simulate_66 ?_
        have ur_66 := u33_rng (lcgZ s0 (k + 1))
        refine rr_l2i F dX7_simulate_67 ?_
        refine rr_wrV (rest := []) (wr := [(no, .inl (cy 1, 118, .inl (iA a)))]) (ws2 := [(mo, .inr (7, [vI 0, .ref no, .ref th, .ref pa, vI ss, .ref sl, .ref sv, .ref tx, vI ty])), (no, .inl (cy 1, 118, .inl (iA a))), (th, .inl (cy 1, 118, .inl (iA (turnR (simR a s0 k) (u33 (lcgZ s0 (k + 1)))))))]) F hK (c_X7_takesTurn l D cy mo no th pa sl sv tx 0 ss ty (simR a s0 k) (u33 (lcgZ s0 (k + 1))) hK2.1 ur_66 (⟨by omega, by omega⟩)) hP hD hS hA sf_X7_takesTurn tw1240 7 rfl rfl ⟨Nat.le_of_ble_eq_true rfl, Nat.le_of_ble_eq_true rfl⟩ hl rfl (Nat.le_of_ble_eq_true rfl) dX7_simulate_68 ⟨Nat.zero_le _, Nat.zero_le _⟩ [0, 2] [1] [1, 0, 2] rfl rfl (by decide) (by decide) (by decide) rfl rfl (by decide) (fun H locs hP hD hS => ?_)
        have hP : va_P D vwCl [(mo, .inr (7, [vI 0, .ref no, .ref th, .ref pa, vI ss, .ref sl, .ref sv, .ref tx, vI ty])), (no, .inl (cy 1, 118, .inl (iA a))), (th, .inl (cy 1, 118, .inl (iA (turnR (simR a s0 k) (u33 (lcgZ s0 (k + 1)))))))] H := hP
        have hD : va_D _ [(mo, .inr (7, [vI 0, .ref no, .ref th, .ref pa, vI ss, .ref sl, .ref sv, .ref tx, vI ty])), (no, .inl (cy 1, 118, .inl (iA a))), (th, .inl (cy 1, 118, .inl (iA (turnR (simR a s0 k) (u33 (lcgZ s0 (k + 1)))))))] := hD
        have hP : va_P D vwCl [(mo, .inr (7, [vI 0, .ref no, .ref th, .ref pa, vI ss, .ref sl, .ref sv, .ref tx, vI ty])), (no, .inl (cy 1, 118, .inl (iA a))), (th, .inl (cy 1, 118, .inl (iA (simR a s0 (k + 1)))))] H := va_P_row (ws := [(mo, .inr (7, [vI 0, .ref no, .ref th, .ref pa, vI ss, .ref sl, .ref sv, .ref tx, vI ty])), (no, .inl (cy 1, 118, .inl (iA a))), (th, .inl (cy 1, 118, .inl (iA (turnR (simR a s0 k) (u33 (lcgZ s0 (k + 1)))))))]) (q1 := 2) (f := (turnR (simR a s0 k) (u33 (lcgZ s0 (k + 1))))) (g := (simR a s0 (k + 1))) (fun j _ _ => congrFun (simR_s k0) j) hP
        have hD : va_D _ [(mo, .inr (7, [vI 0, .ref no, .ref th, .ref pa, vI ss, .ref sl, .ref sv, .ref tx, vI ty])), (no, .inl (cy 1, 118, .inl (iA a))), (th, .inl (cy 1, 118, .inl (iA (simR a s0 (k + 1)))))] := va_D_row (ws := [(mo, .inr (7, [vI 0, .ref no, .ref th, .ref pa, vI ss, .ref sl, .ref sv, .ref tx, vI ty])), (no, .inl (cy 1, 118, .inl (iA a))), (th, .inl (cy 1, 118, .inl (iA (turnR (simR a s0 k) (u33 (lcgZ s0 (k + 1)))))))]) (q1 := 2) (x := (th, .inl (cy 1, 118, .inl (iA (turnR (simR a s0 k) (u33 (lcgZ s0 (k + 1))))))).2) hD
        refine lv_iinc (v := iI (k + 1)) (lv' := [(6, vI (k + 1)), (4, .long (lI (lcgZ s0 (k + 1)))), (0, .ref mo), (1, .long (lI s0)), (3, vI t0)]) F.1 F.2.1 dX7_simulate_71 hl (k := 1) rfl (iinc_ok (by first | rfl | omega)) (by decide) rfl (fun ls hl => ?_)
        refine lv_goto (tgt := 43) F.1 F.2.1 dX7_simulate_74 (by decide) ?_
        exact ih_43 (k + 1) ⟨by omega, by omega⟩ (show ((60 - (k + 1)).toNat) < ((60 - k).toNat) by omega) _ _ ls hP hD hS (lv_sub hl [0, 1, 2, 3, 4] rfl)
    · exfalso; omega
set_option maxRecDepth 100000 in
set_option maxHeartbeats 4000000 in
theorem n_X7_simulate (l : Launch) (D : va_G) (cy : Nat → ClassId) (mo no th pa sl sv tx : Nat) (tr ss ty : Int) (a a2 : Int → Int) (s0 t0 : Int) (hM : MR a) (hsp : 0 ≤ a 117 ∧ a 117 ≤ 90000000) (ht : inR t0) (hbad : ¬ (1 ≤ t0 ∧ t0 ≤ 60)) : Wr l yX7_simulate cX7_simulate 7 (some FieldType.int) 1 [.ref mo, .long (lI s0), vI t0] D cy [(mo, .inr (7, [vI tr, .ref no, .ref th, .ref pa, vI ss, .ref sl, .ref sv, .ref tx, vI ty])), (no, .inl (cy 1, 118, .inl (iA a))), (th, .inl (cy 1, 118, .inl (iA a2)))] [(mo, .inr (7, [vI 1, .ref no, .ref th, .ref pa, vI ss, .ref sl, .ref sv, .ref tx, vI ty])), (no, .inl (cy 1, 118, .inl (iA a))), (th, .inl (cy 1, 118, .inl (iA a2)))] (some (vI 0)) := by
  refine Wr.of RX7 rfl [(0, .ref mo), (1, .long (lI s0)), (3, vI t0)] rfl (by decide +kernel) (Nat.le_of_ble_eq_true rfl) ?_
  intro p e s m args below meth c F hr hlocks hK hP hD hS hA ls hl
  have hn0 := hM.n
  have hw0 := hM.nw
  have hc0 := hM.wc
  refine lv_aload_n F.1 F.2.1 dX7_simulate_0 rfl (lv_at hl 0 rfl) ?_
  refine lv_iload_n F.1 F.2.1 dX7_simulate_1 rfl (lv_at hl 2 rfl) ?_
  refine rr_iconst F dX7_simulate_2 ?_
  refine rr_bipush F dX7_simulate_3 (by decide) ?_
  refine rr_rdS (rest := [.ref mo]) F hK (c_X7_in l D cy t0 1 60 (by first | assumption | omega | exact ⟨by omega, by omega⟩) (by first | assumption | omega | exact ⟨by omega, by omega⟩) (by first | assumption | omega | exact ⟨by omega, by omega⟩)) (hP.sub [] rfl) sf_X7_in tw921 ⟨Nat.le_of_ble_eq_true rfl, Nat.le_of_ble_eq_true rfl⟩ hl rfl (Nat.le_of_ble_eq_true rfl) dX7_simulate_5 ⟨Nat.zero_le _, Nat.zero_le _⟩ ?_
  refine rr_ifP_eq F (tgt := 15) dX7_simulate_8 (by decide) (fun c_8 => ?_) (fun c_8 => ?_)
  · refine rr_iconst F dX7_simulate_15 ?_
    refine rr_wrV (rest := []) (wr := [(no, .inl (cy 1, 118, .inl (iA a))), (th, .inl (cy 1, 118, .inl (iA a2)))]) (ws2 := [(mo, .inr (7, [vI 1, .ref no, .ref th, .ref pa, vI ss, .ref sl, .ref sv, .ref tx, vI ty])), (no, .inl (cy 1, 118, .inl (iA a))), (th, .inl (cy 1, 118, .inl (iA a2)))]) F hK (c_X7_refuses l D cy mo no th pa sl sv tx tr ss ty 1 (by first | assumption | omega | exact ⟨by omega, by omega⟩)) hP hD hS hA sf_X7_refuses tw910 7 rfl rfl ⟨Nat.le_of_ble_eq_true rfl, Nat.le_of_ble_eq_true rfl⟩ hl rfl (Nat.le_of_ble_eq_true rfl) dX7_simulate_16 ⟨Nat.zero_le _, Nat.zero_le _⟩ [0] [1, 2] [2, 0, 1] rfl rfl (by decide) (by decide) (by decide) rfl rfl (by decide) (fun H locs hP hD hS => ?_)
    have hP : va_P D vwCl [(mo, .inr (7, [vI 1, .ref no, .ref th, .ref pa, vI ss, .ref sl, .ref sv, .ref tx, vI ty])), (no, .inl (cy 1, 118, .inl (iA a))), (th, .inl (cy 1, 118, .inl (iA a2)))] H := hP
    have hD : va_D _ [(mo, .inr (7, [vI 1, .ref no, .ref th, .ref pa, vI ss, .ref sl, .ref sv, .ref tx, vI ty])), (no, .inl (cy 1, 118, .inl (iA a))), (th, .inl (cy 1, 118, .inl (iA a2)))] := hD
    refine rr_ifP_eq F (tgt := 24) dX7_simulate_19 (by decide) (fun c_19 => ?_) (fun c_19 => ?_)
    · exfalso; omega
    · refine rr_iconst F dX7_simulate_22 ?_
      exact rr_wiret F hr hlocks dX7_simulate_23 hP hS (by repeat' (first | rfl | split | omega)) (rfl)
  · refine rr_iconst F dX7_simulate_11 ?_
    refine lv_goto (tgt := 16) F.1 F.2.1 dX7_simulate_12 (by decide) ?_
    refine rr_wrV (rest := []) (wr := [(no, .inl (cy 1, 118, .inl (iA a))), (th, .inl (cy 1, 118, .inl (iA a2)))]) (ws2 := [(mo, .inr (7, [vI 0, .ref no, .ref th, .ref pa, vI ss, .ref sl, .ref sv, .ref tx, vI ty])), (no, .inl (cy 1, 118, .inl (iA a))), (th, .inl (cy 1, 118, .inl (iA a2)))]) F hK (c_X7_refuses l D cy mo no th pa sl sv tx tr ss ty 0 (by first | assumption | omega | exact ⟨by omega, by omega⟩)) hP hD hS hA sf_X7_refuses tw910 7 rfl rfl ⟨Nat.le_of_ble_eq_true rfl, Nat.le_of_ble_eq_true rfl⟩ hl rfl (Nat.le_of_ble_eq_true rfl) dX7_simulate_16 ⟨Nat.zero_le _, Nat.zero_le _⟩ [0] [1, 2] [2, 0, 1] rfl rfl (by decide) (by decide) (by decide) rfl rfl (by decide) (fun H locs hP hD hS => ?_)
    have hP : va_P D vwCl [(mo, .inr (7, [vI 0, .ref no, .ref th, .ref pa, vI ss, .ref sl, .ref sv, .ref tx, vI ty])), (no, .inl (cy 1, 118, .inl (iA a))), (th, .inl (cy 1, 118, .inl (iA a2)))] H := hP
    have hD : va_D _ [(mo, .inr (7, [vI 0, .ref no, .ref th, .ref pa, vI ss, .ref sl, .ref sv, .ref tx, vI ty])), (no, .inl (cy 1, 118, .inl (iA a))), (th, .inl (cy 1, 118, .inl (iA a2)))] := hD
    refine rr_ifP_eq F (tgt := 24) dX7_simulate_19 (by decide) (fun c_19 => ?_) (fun c_19 => ?_)
    · exfalso; omega
    · exfalso; omega
set_option maxRecDepth 100000 in
set_option maxHeartbeats 4000000 in
theorem c_X7_runScript (l : Launch) (D : va_G) (cy : Nat → ClassId) (mo no th pa sl sv tx : Nat) (tr ss ty : Int) (a a2 : Int → Int) (n0 s0 : Int) (hM : MR a) (hsp : 0 ≤ a 117 ∧ a 117 ≤ 90000000) (hn : inR n0) (hs0 : inL s0) (h1 : 1 ≤ n0 ∧ n0 ≤ 3) (h2 : 0 ≤ s0 ∧ s0 < pw n0) : Wr l yX7_runScript cX7_runScript 7 (some FieldType.int) 8 [.ref mo, vI n0, .long (lI s0)] D cy [(mo, .inr (7, [vI tr, .ref no, .ref th, .ref pa, vI ss, .ref sl, .ref sv, .ref tx, vI ty])), (no, .inl (cy 1, 118, .inl (iA a))), (th, .inl (cy 1, 118, .inl (iA a2)))] [(mo, .inr (7, [vI 0, .ref no, .ref th, .ref pa, vI ss, .ref sl, .ref sv, .ref tx, vI ty])), (no, .inl (cy 1, 118, .inl (iA a))), (th, .inl (cy 1, 118, .inl (iA (scE a s0 n0 (low (fun t => ¬ okT (scR a s0 n0 t) (dg s0 n0 t)) n0)))))] (some (vI (low (fun t => ¬ okT (scR a s0 n0 t) (dg s0 n0 t)) n0))) := by
  refine Wr.of RX7 rfl [(0, .ref mo), (1, vI n0), (2, .long (lI s0))] rfl (by decide +kernel) (Nat.le_of_ble_eq_true rfl) ?_
  intro p e s m args below meth c F hr hlocks hK hP hD hS hA ls hl
  have hn0 := hM.n
  have hw0 := hM.nw
  have hc0 := hM.wc
  have hn2 : -2147483648 ≤ n0 ∧ n0 < 2147483648 := hn
  have pe1 : n0 = 1 → pw n0 = 10000 := fun h => by rw [h]; rfl
  have pe2 : n0 = 2 → pw n0 = 100000000 := fun h => by rw [h]; rfl
  have pe3 : n0 = 3 → pw n0 = 1000000000000 := fun h => by rw [h]; rfl
  refine lv_iload_n F.1 F.2.1 dX7_runScript_0 rfl (lv_at hl 1 rfl) ?_
  refine rr_iconst F dX7_runScript_1 ?_
  refine rr_icmp_ne F (tgt := 11) dX7_runScript_2 (by decide) ⟨by omega, by omega⟩ ⟨by omega, by omega⟩ (fun c_2 => ?_) (fun c_2 => ?_)
  · refine lv_iload_n F.1 F.2.1 dX7_runScript_11 rfl (lv_at hl 1 rfl) ?_
    refine rr_iconst F dX7_runScript_12 ?_
    refine rr_icmp_ne F (tgt := 22) dX7_runScript_13 (by decide) ⟨by omega, by omega⟩ ⟨by omega, by omega⟩ (fun c_13 => ?_) (fun c_13 => ?_)
    · refine rr_ldc2 F 1000000000000 rfl tw1222 dX7_runScript_22 ?_
      refine lv_lstore (lv' := [(4, .long (lI 1000000000000)), (0, .ref mo), (1, vI n0), (2, .long (lI s0))]) F.1 F.2.1 dX7_runScript_25 hl (by decide) rfl (fun ls hl => ?_)
      refine lv_aload_n F.1 F.2.1 dX7_runScript_27 rfl (lv_at hl 1 rfl) ?_
      refine lv_iload_n F.1 F.2.1 dX7_runScript_28 rfl (lv_at hl 2 rfl) ?_
      refine rr_iconst F dX7_runScript_29 ?_
      refine rr_iconst F dX7_runScript_30 ?_
      refine rr_rdS (rest := [.ref mo]) F hK (c_X7_in l D cy n0 1 3 (by first | assumption | omega | exact ⟨by omega, by omega⟩) (by first | assumption | omega | exact ⟨by omega, by omega⟩) (by first | assumption | omega | exact ⟨by omega, by omega⟩)) (hP.sub [] rfl) sf_X7_in tw921 ⟨Nat.le_of_ble_eq_true rfl, Nat.le_of_ble_eq_true rfl⟩ hl rfl (Nat.le_of_ble_eq_true rfl) dX7_runScript_31 ⟨Nat.zero_le _, Nat.zero_le _⟩ ?_
      refine rr_ifP_eq F (tgt := 54) dX7_runScript_34 (by decide) (fun c_34 => ?_) (fun c_34 => ?_)
      · refine rr_iconst F dX7_runScript_54 ?_
        refine rr_wrV (rest := []) (wr := [(no, .inl (cy 1, 118, .inl (iA a))), (th, .inl (cy 1, 118, .inl (iA a2)))]) (ws2 := [(mo, .inr (7, [vI 1, .ref no, .ref th, .ref pa, vI ss, .ref sl, .ref sv, .ref tx, vI ty])), (no, .inl (cy 1, 118, .inl (iA a))), (th, .inl (cy 1, 118, .inl (iA a2)))]) F hK (c_X7_refuses l D cy mo no th pa sl sv tx tr ss ty 1 (by first | assumption | omega | exact ⟨by omega, by omega⟩)) hP hD hS hA sf_X7_refuses tw910 7 rfl rfl ⟨Nat.le_of_ble_eq_true rfl, Nat.le_of_ble_eq_true rfl⟩ hl rfl (Nat.le_of_ble_eq_true rfl) dX7_runScript_55 ⟨Nat.zero_le _, Nat.zero_le _⟩ [0] [1, 2] [2, 0, 1] rfl rfl (by decide) (by decide) (by decide) rfl rfl (by decide) (fun H locs hP hD hS => ?_)
        have hP : va_P D vwCl [(mo, .inr (7, [vI 1, .ref no, .ref th, .ref pa, vI ss, .ref sl, .ref sv, .ref tx, vI ty])), (no, .inl (cy 1, 118, .inl (iA a))), (th, .inl (cy 1, 118, .inl (iA a2)))] H := hP
        have hD : va_D _ [(mo, .inr (7, [vI 1, .ref no, .ref th, .ref pa, vI ss, .ref sl, .ref sv, .ref tx, vI ty])), (no, .inl (cy 1, 118, .inl (iA a))), (th, .inl (cy 1, 118, .inl (iA a2)))] := hD
        refine rr_ifP_eq F (tgt := 63) dX7_runScript_58 (by decide) (fun c_58 => ?_) (fun c_58 => ?_)
        · exfalso; omega
        · exfalso; omega
      · refine lv_lload_n F.1 F.2.1 dX7_runScript_37 rfl (lv_at hl 3 rfl) ?_
        refine rr_lconst F 0 rfl dX7_runScript_38 ?_
        refine rr_lcmp F dX7_runScript_39 hs0 ⟨by omega, by omega⟩ ?_
        have lc_39 := lcm_spec s0 0
        refine rr_if_lt F (tgt := 54) dX7_runScript_40 (by decide) ⟨by omega, by omega⟩ (fun c_40 => ?_) (fun c_40 => ?_)
        · refine rr_iconst F dX7_runScript_54 ?_
          refine rr_wrV (rest := []) (wr := [(no, .inl (cy 1, 118, .inl (iA a))), (th, .inl (cy 1, 118, .inl (iA a2)))]) (ws2 := [(mo, .inr (7, [vI 1, .ref no, .ref th, .ref pa, vI ss, .ref sl, .ref sv, .ref tx, vI ty])), (no, .inl (cy 1, 118, .inl (iA a))), (th, .inl (cy 1, 118, .inl (iA a2)))]) F hK (c_X7_refuses l D cy mo no th pa sl sv tx tr ss ty 1 (by first | assumption | omega | exact ⟨by omega, by omega⟩)) hP hD hS hA sf_X7_refuses tw910 7 rfl rfl ⟨Nat.le_of_ble_eq_true rfl, Nat.le_of_ble_eq_true rfl⟩ hl rfl (Nat.le_of_ble_eq_true rfl) dX7_runScript_55 ⟨Nat.zero_le _, Nat.zero_le _⟩ [0] [1, 2] [2, 0, 1] rfl rfl (by decide) (by decide) (by decide) rfl rfl (by decide) (fun H locs hP hD hS => ?_)
          have hP : va_P D vwCl [(mo, .inr (7, [vI 1, .ref no, .ref th, .ref pa, vI ss, .ref sl, .ref sv, .ref tx, vI ty])), (no, .inl (cy 1, 118, .inl (iA a))), (th, .inl (cy 1, 118, .inl (iA a2)))] H := hP
          have hD : va_D _ [(mo, .inr (7, [vI 1, .ref no, .ref th, .ref pa, vI ss, .ref sl, .ref sv, .ref tx, vI ty])), (no, .inl (cy 1, 118, .inl (iA a))), (th, .inl (cy 1, 118, .inl (iA a2)))] := hD
          refine rr_ifP_eq F (tgt := 63) dX7_runScript_58 (by decide) (fun c_58 => ?_) (fun c_58 => ?_)
          · exfalso; omega
          · exfalso; omega
        · refine lv_lload_n F.1 F.2.1 dX7_runScript_43 rfl (lv_at hl 3 rfl) ?_
          refine lv_lload F.1 F.2.1 dX7_runScript_44 (lv_at hl 0 rfl) ?_
          refine rr_lcmp F dX7_runScript_46 hs0 ⟨by omega, by omega⟩ ?_
          have lc_46 := lcm_spec s0 1000000000000
          refine rr_if_ge F (tgt := 54) dX7_runScript_47 (by decide) ⟨by omega, by omega⟩ (fun c_47 => ?_) (fun c_47 => ?_)
          · refine rr_iconst F dX7_runScript_54 ?_
            refine rr_wrV (rest := []) (wr := [(no, .inl (cy 1, 118, .inl (iA a))), (th, .inl (cy 1, 118, .inl (iA a2)))]) (ws2 := [(mo, .inr (7, [vI 1, .ref no, .ref th, .ref pa, vI ss, .ref sl, .ref sv, .ref tx, vI ty])), (no, .inl (cy 1, 118, .inl (iA a))), (th, .inl (cy 1, 118, .inl (iA a2)))]) F hK (c_X7_refuses l D cy mo no th pa sl sv tx tr ss ty 1 (by first | assumption | omega | exact ⟨by omega, by omega⟩)) hP hD hS hA sf_X7_refuses tw910 7 rfl rfl ⟨Nat.le_of_ble_eq_true rfl, Nat.le_of_ble_eq_true rfl⟩ hl rfl (Nat.le_of_ble_eq_true rfl) dX7_runScript_55 ⟨Nat.zero_le _, Nat.zero_le _⟩ [0] [1, 2] [2, 0, 1] rfl rfl (by decide) (by decide) (by decide) rfl rfl (by decide) (fun H locs hP hD hS => ?_)
            have hP : va_P D vwCl [(mo, .inr (7, [vI 1, .ref no, .ref th, .ref pa, vI ss, .ref sl, .ref sv, .ref tx, vI ty])), (no, .inl (cy 1, 118, .inl (iA a))), (th, .inl (cy 1, 118, .inl (iA a2)))] H := hP
            have hD : va_D _ [(mo, .inr (7, [vI 1, .ref no, .ref th, .ref pa, vI ss, .ref sl, .ref sv, .ref tx, vI ty])), (no, .inl (cy 1, 118, .inl (iA a))), (th, .inl (cy 1, 118, .inl (iA a2)))] := hD
            refine rr_ifP_eq F (tgt := 63) dX7_runScript_58 (by decide) (fun c_58 => ?_) (fun c_58 => ?_)
            · exfalso; omega
            · exfalso; omega
          · refine rr_iconst F dX7_runScript_50 ?_
            refine lv_goto (tgt := 55) F.1 F.2.1 dX7_runScript_51 (by decide) ?_
            refine rr_wrV (rest := []) (wr := [(no, .inl (cy 1, 118, .inl (iA a))), (th, .inl (cy 1, 118, .inl (iA a2)))]) (ws2 := [(mo, .inr (7, [vI 0, .ref no, .ref th, .ref pa, vI ss, .ref sl, .ref sv, .ref tx, vI ty])), (no, .inl (cy 1, 118, .inl (iA a))), (th, .inl (cy 1, 118, .inl (iA a2)))]) F hK (c_X7_refuses l D cy mo no th pa sl sv tx tr ss ty 0 (by first | assumption | omega | exact ⟨by omega, by omega⟩)) hP hD hS hA sf_X7_refuses tw910 7 rfl rfl ⟨Nat.le_of_ble_eq_true rfl, Nat.le_of_ble_eq_true rfl⟩ hl rfl (Nat.le_of_ble_eq_true rfl) dX7_runScript_55 ⟨Nat.zero_le _, Nat.zero_le _⟩ [0] [1, 2] [2, 0, 1] rfl rfl (by decide) (by decide) (by decide) rfl rfl (by decide) (fun H locs hP hD hS => ?_)
            have hP : va_P D vwCl [(mo, .inr (7, [vI 0, .ref no, .ref th, .ref pa, vI ss, .ref sl, .ref sv, .ref tx, vI ty])), (no, .inl (cy 1, 118, .inl (iA a))), (th, .inl (cy 1, 118, .inl (iA a2)))] H := hP
            have hD : va_D _ [(mo, .inr (7, [vI 0, .ref no, .ref th, .ref pa, vI ss, .ref sl, .ref sv, .ref tx, vI ty])), (no, .inl (cy 1, 118, .inl (iA a))), (th, .inl (cy 1, 118, .inl (iA a2)))] := hD
            refine rr_ifP_eq F (tgt := 63) dX7_runScript_58 (by decide) (fun c_58 => ?_) (fun c_58 => ?_)
            · refine lv_aload_n F.1 F.2.1 dX7_runScript_63 rfl (lv_at hl 1 rfl) ?_
              refine gf7_1 F hK hP 0 rfl tw875 dX7_runScript_64 ?_
              refine rr_iconst F dX7_runScript_67 ?_
              refine lv_aload_n F.1 F.2.1 dX7_runScript_68 rfl (lv_at hl 1 rfl) ?_
              refine gf7_2 F hK hP 0 rfl tw876 dX7_runScript_69 ?_
              refine rr_iconst F dX7_runScript_72 ?_
              refine rr_wrS (rest := []) (wr := [(mo, .inr (7, [vI 0, .ref no, .ref th, .ref pa, vI ss, .ref sl, .ref sv, .ref tx, vI ty]))]) (ws2 := [(mo, .inr (7, [vI 0, .ref no, .ref th, .ref pa, vI ss, .ref sl, .ref sv, .ref tx, vI ty])), (no, .inl (cy 1, 118, .inl (iA a))), (th, .inl (cy 1, 118, .inl (iA (cpZ a a2 0 0 118))))]) F hK (c_X7_lays l D cy no th 118 118 a a2 0 0 (by first | assumption | omega | exact ⟨by omega, by omega⟩) (by first | assumption | omega | exact ⟨by omega, by omega⟩) (by first | assumption | omega | exact ⟨by omega, by omega⟩) (by first | assumption | omega | exact ⟨by omega, by omega⟩)) hP hD hS hA sf_X7_lays tw914 ⟨Nat.le_of_ble_eq_true rfl, Nat.le_of_ble_eq_true rfl⟩ hl rfl (Nat.le_of_ble_eq_true rfl) dX7_runScript_73 ⟨Nat.zero_le _, Nat.zero_le _⟩ [1, 2] [0] [0, 1, 2] rfl rfl (by decide) (by decide) (by decide) rfl rfl (by decide) (fun H locs hP hD hS => ?_)
              have hP : va_P D vwCl [(mo, .inr (7, [vI 0, .ref no, .ref th, .ref pa, vI ss, .ref sl, .ref sv, .ref tx, vI ty])), (no, .inl (cy 1, 118, .inl (iA a))), (th, .inl (cy 1, 118, .inl (iA (cpZ a a2 0 0 118))))] H := hP
              have hD : va_D _ [(mo, .inr (7, [vI 0, .ref no, .ref th, .ref pa, vI ss, .ref sl, .ref sv, .ref tx, vI ty])), (no, .inl (cy 1, 118, .inl (iA a))), (th, .inl (cy 1, 118, .inl (iA (cpZ a a2 0 0 118))))] := hD
              have hP : va_P D vwCl [(mo, .inr (7, [vI 0, .ref no, .ref th, .ref pa, vI ss, .ref sl, .ref sv, .ref tx, vI ty])), (no, .inl (cy 1, 118, .inl (iA a))), (th, .inl (cy 1, 118, .inl (iA a)))] H := va_P_row (ws := [(mo, .inr (7, [vI 0, .ref no, .ref th, .ref pa, vI ss, .ref sl, .ref sv, .ref tx, vI ty])), (no, .inl (cy 1, 118, .inl (iA a))), (th, .inl (cy 1, 118, .inl (iA (cpZ a a2 0 0 118))))]) (q1 := 2) (f := (cpZ a a2 0 0 118)) (g := a) (fun j h0 h1 => cpZ_full j h0 (by omega)) hP
              have hD : va_D _ [(mo, .inr (7, [vI 0, .ref no, .ref th, .ref pa, vI ss, .ref sl, .ref sv, .ref tx, vI ty])), (no, .inl (cy 1, 118, .inl (iA a))), (th, .inl (cy 1, 118, .inl (iA a)))] := va_D_row (ws := [(mo, .inr (7, [vI 0, .ref no, .ref th, .ref pa, vI ss, .ref sl, .ref sv, .ref tx, vI ty])), (no, .inl (cy 1, 118, .inl (iA a))), (th, .inl (cy 1, 118, .inl (iA (cpZ a a2 0 0 118))))]) (q1 := 2) (x := (th, .inl (cy 1, 118, .inl (iA (cpZ a a2 0 0 118)))).2) hD
              refine rr_iconst F dX7_runScript_76 ?_
              refine lv_istore (lv' := [(6, vI 0), (4, .long (lI 1000000000000)), (0, .ref mo), (1, vI n0), (2, .long (lI s0))]) F.1 F.2.1 dX7_runScript_77 hl (by decide) rfl (fun ls hl => ?_)
              refine rr_loopW1 (fun t => (0 ≤ t) ∧ (t ≤ n0) ∧ (∀ j, 0 ≤ j → j < t → okT (scR a s0 n0 j) (dg s0 n0 j))) (fun t => (n0 - t).toNat) (fun t => [(6, vI t), (4, .long (lI (pw (n0 - t)))), (0, .ref mo), (1, vI n0), (2, .long (lI s0))]) (fun t => [(mo, .inr (7, [vI 0, .ref no, .ref th, .ref pa, vI ss, .ref sl, .ref sv, .ref tx, vI ty])), (no, .inl (cy 1, 118, .inl (iA a))), (th, .inl (cy 1, 118, .inl (iA (scR a s0 n0 t))))]) ?_ 0 ⟨by omega, by omega, fun j x y => by omega⟩ hP hD hS (lv_cv (lv_sub hl [0, 1, 2, 3, 4] rfl) (by rw [← show (1000000000000 : Int) = pw (n0 - 0) from by unfold pw; repeat' (first | rfl | split | omega)]; rfl))
              intro t hI ih_79 H locs ls hP hD hS hl
              obtain ⟨t0, t1, kq⟩ := hI
              have hl : lv_has ls 7 [(6, vI t), (4, .long (lI (pw (n0 - t)))), (0, .ref mo), (1, vI n0), (2, .long (lI s0))] := hl
              have hP : va_P D vwCl [(mo, .inr (7, [vI 0, .ref no, .ref th, .ref pa, vI ss, .ref sl, .ref sv, .ref tx, vI ty])), (no, .inl (cy 1, 118, .inl (iA a))), (th, .inl (cy 1, 118, .inl (iA (scR a s0 n0 t))))] H := hP
              have hD : va_D _ [(mo, .inr (7, [vI 0, .ref no, .ref th, .ref pa, vI ss, .ref sl, .ref sv, .ref tx, vI ty])), (no, .inl (cy 1, 118, .inl (iA a))), (th, .inl (cy 1, 118, .inl (iA (scR a s0 n0 t))))] := hD
              have hK2 := scR_ok hM (s := s0) (n := n0) t0
              have pr := pw_rng (n0 - t)
              have pr2 := pw_rng (n0 - (t + 1))
              have hdr := dg_rng s0 n0 t
              refine lv_iload F.1 F.2.1 dX7_runScript_79 (lv_at hl 0 rfl) ?_
              refine lv_iload_n F.1 F.2.1 dX7_runScript_81 rfl (lv_at hl 3 rfl) ?_
              refine rr_icmp_ge F (tgt := 118) dX7_runScript_82 (by decide) ⟨by omega, by omega⟩ ⟨by omega, by omega⟩ (fun c_82 => ?_) (fun c_82 => ?_)
              · refine rr_iconst F dX7_runScript_118 ?_
                exact rr_wiret F hr hlocks dX7_runScript_119 hP hS (by first | rw [scE_a (low_hit t0 (by omega) (by assumption) (fun j x y h => h (kq j x y))) t0] | rw [scE_b (low_miss (by omega) (fun j x y h => h (kq j x (by omega)))), show t = n0 by omega]) (low_miss (by omega) (fun j x y h => h (kq j x (by omega))))
              · refine lv_lload F.1 F.2.1 dX7_runScript_85 (lv_at hl 1 rfl) ?_
                refine rr_ldc2 F 10000 rfl tw1220 dX7_runScript_87 ?_
                refine rr_ldiv F (z := pw (n0 - (t + 1))) dX7_runScript_90 ⟨by omega, by omega⟩ ⟨by omega, by omega⟩ (by rw [pw_d (by omega), show n0 - t - 1 = n0 - (t + 1) by omega]) ?_
                refine lv_lstore (lv' := [(4, .long (lI (pw (n0 - (t + 1))))), (6, vI t), (0, .ref mo), (1, vI n0), (2, .long (lI s0))]) F.1 F.2.1 dX7_runScript_91 hl (by decide) rfl (fun ls hl => ?_)
                refine lv_aload_n F.1 F.2.1 dX7_runScript_93 rfl (lv_at hl 2 rfl) ?_
                refine lv_lload_n F.1 F.2.1 dX7_runScript_94 rfl (lv_at hl 4 rfl) ?_
                refine lv_lload F.1 F.2.1 dX7_runScript_95 (lv_at hl 0 rfl) ?_
                refine rr_ldiv F (z := s0 / pw (n0 - (t + 1))) dX7_runScript_97 hs0 ⟨by omega, by omega⟩ (Int.tdiv_eq_ediv_of_nonneg h2.1) ?_
                have hdv : 0 ≤ s0 / pw (n0 - (t + 1)) ∧ s0 / pw (n0 - (t + 1)) ≤ s0 := ⟨Int.ediv_nonneg h2.1 (by omega), Int.ediv_le_self _ h2.1⟩
                have hp0 := pw_rng n0
                refine rr_ldc2 F 10000 rfl tw1220 dX7_runScript_98 ?_
                refine rr_lrem F (z := dg s0 n0 t) dX7_runScript_101 ⟨by omega, by omega⟩ ⟨by omega, by omega⟩ (Int.tmod_eq_emod_of_nonneg hdv.1) ?_
                refine rr_l2i F dX7_runScript_102 ?_
                refine rr_wrV (rest := []) (wr := [(no, .inl (cy 1, 118, .inl (iA a)))]) (ws2 := [(mo, .inr (7, [vI 0, .ref no, .ref th, .ref pa, vI ss, .ref sl, .ref sv, .ref tx, vI ty])), (no, .inl (cy 1, 118, .inl (iA a))), (th, .inl (cy 1, 118, .inl (iA (tryT (scR a s0 n0 t) (dg s0 n0 t)))))]) F hK (c_X7_tries l D cy mo no th pa sl sv tx 0 ss ty (scR a s0 n0 t) (dg s0 n0 t) hK2.1 (by first | assumption | omega | exact ⟨by omega, by omega⟩) (⟨by omega, by omega⟩)) hP hD hS hA sf_X7_tries tw1223 7 rfl rfl ⟨Nat.le_of_ble_eq_true rfl, Nat.le_of_ble_eq_true rfl⟩ hl rfl (Nat.le_of_ble_eq_true rfl) dX7_runScript_103 ⟨Nat.zero_le _, Nat.zero_le _⟩ [0, 2] [1] [1, 0, 2] rfl rfl (by decide) (by decide) (by decide) rfl rfl (by decide) (fun H locs hP hD hS => ?_)
                have hP : va_P D vwCl [(mo, .inr (7, [vI 0, .ref no, .ref th, .ref pa, vI ss, .ref sl, .ref sv, .ref tx, vI ty])), (no, .inl (cy 1, 118, .inl (iA a))), (th, .inl (cy 1, 118, .inl (iA (tryT (scR a s0 n0 t) (dg s0 n0 t)))))] H := hP
                have hD : va_D _ [(mo, .inr (7, [vI 0, .ref no, .ref th, .ref pa, vI ss, .ref sl, .ref sv, .ref tx, vI ty])), (no, .inl (cy 1, 118, .inl (iA a))), (th, .inl (cy 1, 118, .inl (iA (tryT (scR a s0 n0 t) (dg s0 n0 t)))))] := hD
                have hP : va_P D vwCl [(mo, .inr (7, [vI 0, .ref no, .ref th, .ref pa, vI ss, .ref sl, .ref sv, .ref tx, vI ty])), (no, .inl (cy 1, 118, .inl (iA a))), (th, .inl (cy 1, 118, .inl (iA (scR a s0 n0 (t + 1)))))] H := va_P_row (ws := [(mo, .inr (7, [vI 0, .ref no, .ref th, .ref pa, vI ss, .ref sl, .ref sv, .ref tx, vI ty])), (no, .inl (cy 1, 118, .inl (iA a))), (th, .inl (cy 1, 118, .inl (iA (tryT (scR a s0 n0 t) (dg s0 n0 t)))))]) (q1 := 2) (f := (tryT (scR a s0 n0 t) (dg s0 n0 t))) (g := (scR a s0 n0 (t + 1))) (fun j _ _ => congrFun (scR_s t0) j) hP
                have hD : va_D _ [(mo, .inr (7, [vI 0, .ref no, .ref th, .ref pa, vI ss, .ref sl, .ref sv, .ref tx, vI ty])), (no, .inl (cy 1, 118, .inl (iA a))), (th, .inl (cy 1, 118, .inl (iA (scR a s0 n0 (t + 1)))))] := va_D_row (ws := [(mo, .inr (7, [vI 0, .ref no, .ref th, .ref pa, vI ss, .ref sl, .ref sv, .ref tx, vI ty])), (no, .inl (cy 1, 118, .inl (iA a))), (th, .inl (cy 1, 118, .inl (iA (tryT (scR a s0 n0 t) (dg s0 n0 t)))))]) (q1 := 2) (x := (th, .inl (cy 1, 118, .inl (iA (tryT (scR a s0 n0 t) (dg s0 n0 t))))).2) hD
                refine rr_ifP_ne F (tgt := 112) dX7_runScript_106 (by decide) (fun c_106 => ?_) (fun c_106 => ?_)
                · refine lv_iinc (v := iI (t + 1)) (lv' := [(6, vI (t + 1)), (4, .long (lI (pw (n0 - (t + 1))))), (0, .ref mo), (1, vI n0), (2, .long (lI s0))]) F.1 F.2.1 dX7_runScript_112 hl (k := 1) rfl (iinc_ok (by first | rfl | omega)) (by decide) rfl (fun ls hl => ?_)
                  refine lv_goto (tgt := 79) F.1 F.2.1 dX7_runScript_115 (by decide) ?_
                  exact ih_79 (t + 1) ⟨by omega, by omega, fun j x y => (if hj : j = t then by subst hj; assumption else kq j x (by omega))⟩ (show ((n0 - (t + 1)).toNat) < ((n0 - t).toNat) by omega) _ _ ls hP hD hS (lv_sub hl [0, 1, 2, 3, 4] rfl)
                · refine lv_iload F.1 F.2.1 dX7_runScript_109 (lv_at hl 1 rfl) ?_
                  exact rr_wiret F hr hlocks dX7_runScript_111 hP hS (by first | rw [scE_a (low_hit t0 (by omega) (by assumption) (fun j x y h => h (kq j x y))) t0] | rw [scE_b (low_miss (by omega) (fun j x y h => h (kq j x (by omega)))), show t = n0 by omega]) (low_hit t0 (by omega) (by assumption) (fun j x y h => h (kq j x y)))
            · exfalso; omega
    · refine rr_ldc2 F 100000000 rfl tw1221 dX7_runScript_16 ?_
      refine lv_goto (tgt := 25) F.1 F.2.1 dX7_runScript_19 (by decide) ?_
      refine lv_lstore (lv' := [(4, .long (lI 100000000)), (0, .ref mo), (1, vI n0), (2, .long (lI s0))]) F.1 F.2.1 dX7_runScript_25 hl (by decide) rfl (fun ls hl => ?_)
      refine lv_aload_n F.1 F.2.1 dX7_runScript_27 rfl (lv_at hl 1 rfl) ?_
      refine lv_iload_n F.1 F.2.1 dX7_runScript_28 rfl (lv_at hl 2 rfl) ?_
      refine rr_iconst F dX7_runScript_29 ?_
      refine rr_iconst F dX7_runScript_30 ?_
      refine rr_rdS (rest := [.ref mo]) F hK (c_X7_in l D cy n0 1 3 (by first | assumption | omega | exact ⟨by omega, by omega⟩) (by first | assumption | omega | exact ⟨by omega, by omega⟩) (by first | assumption | omega | exact ⟨by omega, by omega⟩)) (hP.sub [] rfl) sf_X7_in tw921 ⟨Nat.le_of_ble_eq_true rfl, Nat.le_of_ble_eq_true rfl⟩ hl rfl (Nat.le_of_ble_eq_true rfl) dX7_runScript_31 ⟨Nat.zero_le _, Nat.zero_le _⟩ ?_
      refine rr_ifP_eq F (tgt := 54) dX7_runScript_34 (by decide) (fun c_34 => ?_) (fun c_34 => ?_)
      · refine rr_iconst F dX7_runScript_54 ?_
        refine rr_wrV (rest := []) (wr := [(no, .inl (cy 1, 118, .inl (iA a))), (th, .inl (cy 1, 118, .inl (iA a2)))]) (ws2 := [(mo, .inr (7, [vI 1, .ref no, .ref th, .ref pa, vI ss, .ref sl, .ref sv, .ref tx, vI ty])), (no, .inl (cy 1, 118, .inl (iA a))), (th, .inl (cy 1, 118, .inl (iA a2)))]) F hK (c_X7_refuses l D cy mo no th pa sl sv tx tr ss ty 1 (by first | assumption | omega | exact ⟨by omega, by omega⟩)) hP hD hS hA sf_X7_refuses tw910 7 rfl rfl ⟨Nat.le_of_ble_eq_true rfl, Nat.le_of_ble_eq_true rfl⟩ hl rfl (Nat.le_of_ble_eq_true rfl) dX7_runScript_55 ⟨Nat.zero_le _, Nat.zero_le _⟩ [0] [1, 2] [2, 0, 1] rfl rfl (by decide) (by decide) (by decide) rfl rfl (by decide) (fun H locs hP hD hS => ?_)
        have hP : va_P D vwCl [(mo, .inr (7, [vI 1, .ref no, .ref th, .ref pa, vI ss, .ref sl, .ref sv, .ref tx, vI ty])), (no, .inl (cy 1, 118, .inl (iA a))), (th, .inl (cy 1, 118, .inl (iA a2)))] H := hP
        have hD : va_D _ [(mo, .inr (7, [vI 1, .ref no, .ref th, .ref pa, vI ss, .ref sl, .ref sv, .ref tx, vI ty])), (no, .inl (cy 1, 118, .inl (iA a))), (th, .inl (cy 1, 118, .inl (iA a2)))] := hD
        refine rr_ifP_eq F (tgt := 63) dX7_runScript_58 (by decide) (fun c_58 => ?_) (fun c_58 => ?_)
        · exfalso; omega
        · exfalso; omega
      · refine lv_lload_n F.1 F.2.1 dX7_runScript_37 rfl (lv_at hl 3 rfl) ?_
        refine rr_lconst F 0 rfl dX7_runScript_38 ?_
        refine rr_lcmp F dX7_runScript_39 hs0 ⟨by omega, by omega⟩ ?_
        have lc_39 := lcm_spec s0 0
        refine rr_if_lt F (tgt := 54) dX7_runScript_40 (by decide) ⟨by omega, by omega⟩ (fun c_40 => ?_) (fun c_40 => ?_)
        · refine rr_iconst F dX7_runScript_54 ?_
          refine rr_wrV (rest := []) (wr := [(no, .inl (cy 1, 118, .inl (iA a))), (th, .inl (cy 1, 118, .inl (iA a2)))]) (ws2 := [(mo, .inr (7, [vI 1, .ref no, .ref th, .ref pa, vI ss, .ref sl, .ref sv, .ref tx, vI ty])), (no, .inl (cy 1, 118, .inl (iA a))), (th, .inl (cy 1, 118, .inl (iA a2)))]) F hK (c_X7_refuses l D cy mo no th pa sl sv tx tr ss ty 1 (by first | assumption | omega | exact ⟨by omega, by omega⟩)) hP hD hS hA sf_X7_refuses tw910 7 rfl rfl ⟨Nat.le_of_ble_eq_true rfl, Nat.le_of_ble_eq_true rfl⟩ hl rfl (Nat.le_of_ble_eq_true rfl) dX7_runScript_55 ⟨Nat.zero_le _, Nat.zero_le _⟩ [0] [1, 2] [2, 0, 1] rfl rfl (by decide) (by decide) (by decide) rfl rfl (by decide) (fun H locs hP hD hS => ?_)
          have hP : va_P D vwCl [(mo, .inr (7, [vI 1, .ref no, .ref th, .ref pa, vI ss, .ref sl, .ref sv, .ref tx, vI ty])), (no, .inl (cy 1, 118, .inl (iA a))), (th, .inl (cy 1, 118, .inl (iA a2)))] H := hP
          have hD : va_D _ [(mo, .inr (7, [vI 1, .ref no, .ref th, .ref pa, vI ss, .ref sl, .ref sv, .ref tx, vI ty])), (no, .inl (cy 1, 118, .inl (iA a))), (th, .inl (cy 1, 118, .inl (iA a2)))] := hD
          refine rr_ifP_eq F (tgt := 63) dX7_runScript_58 (by decide) (fun c_58 => ?_) (fun c_58 => ?_)
          · exfalso; omega
          · exfalso; omega
        · refine lv_lload_n F.1 F.2.1 dX7_runScript_43 rfl (lv_at hl 3 rfl) ?_
          refine lv_lload F.1 F.2.1 dX7_runScript_44 (lv_at hl 0 rfl) ?_
          refine rr_lcmp F dX7_runScript_46 hs0 ⟨by omega, by omega⟩ ?_
          have lc_46 := lcm_spec s0 100000000
          refine rr_if_ge F (tgt := 54) dX7_runScript_47 (by decide) ⟨by omega, by omega⟩ (fun c_47 => ?_) (fun c_47 => ?_)
          · refine rr_iconst F dX7_runScript_54 ?_
            refine rr_wrV (rest := []) (wr := [(no, .inl (cy 1, 118, .inl (iA a))), (th, .inl (cy 1, 118, .inl (iA a2)))]) (ws2 := [(mo, .inr (7, [vI 1, .ref no, .ref th, .ref pa, vI ss, .ref sl, .ref sv, .ref tx, vI ty])), (no, .inl (cy 1, 118, .inl (iA a))), (th, .inl (cy 1, 118, .inl (iA a2)))]) F hK (c_X7_refuses l D cy mo no th pa sl sv tx tr ss ty 1 (by first | assumption | omega | exact ⟨by omega, by omega⟩)) hP hD hS hA sf_X7_refuses tw910 7 rfl rfl ⟨Nat.le_of_ble_eq_true rfl, Nat.le_of_ble_eq_true rfl⟩ hl rfl (Nat.le_of_ble_eq_true rfl) dX7_runScript_55 ⟨Nat.zero_le _, Nat.zero_le _⟩ [0] [1, 2] [2, 0, 1] rfl rfl (by decide) (by decide) (by decide) rfl rfl (by decide) (fun H locs hP hD hS => ?_)
            have hP : va_P D vwCl [(mo, .inr (7, [vI 1, .ref no, .ref th, .ref pa, vI ss, .ref sl, .ref sv, .ref tx, vI ty])), (no, .inl (cy 1, 118, .inl (iA a))), (th, .inl (cy 1, 118, .inl (iA a2)))] H := hP
            have hD : va_D _ [(mo, .inr (7, [vI 1, .ref no, .ref th, .ref pa, vI ss, .ref sl, .ref sv, .ref tx, vI ty])), (no, .inl (cy 1, 118, .inl (iA a))), (th, .inl (cy 1, 118, .inl (iA a2)))] := hD
            refine rr_ifP_eq F (tgt := 63) dX7_runScript_58 (by decide) (fun c_58 => ?_) (fun c_58 => ?_)
            · exfalso; omega
            · exfalso; omega
          · refine rr_iconst F dX7_runScript_50 ?_
            refine lv_goto (tgt := 55) F.1 F.2.1 dX7_runScript_51 (by decide) ?_
            refine rr_wrV (rest := []) (wr := [(no, .inl (cy 1, 118, .inl (iA a))), (th, .inl (cy 1, 118, .inl (iA a2)))]) (ws2 := [(mo, .inr (7, [vI 0, .ref no, .ref th, .ref pa, vI ss, .ref sl, .ref sv, .ref tx, vI ty])), (no, .inl (cy 1, 118, .inl (iA a))), (th, .inl (cy 1, 118, .inl (iA a2)))]) F hK (c_X7_refuses l D cy mo no th pa sl sv tx tr ss ty 0 (by first | assumption | omega | exact ⟨by omega, by omega⟩)) hP hD hS hA sf_X7_refuses tw910 7 rfl rfl ⟨Nat.le_of_ble_eq_true rfl, Nat.le_of_ble_eq_true rfl⟩ hl rfl (Nat.le_of_ble_eq_true rfl) dX7_runScript_55 ⟨Nat.zero_le _, Nat.zero_le _⟩ [0] [1, 2] [2, 0, 1] rfl rfl (by decide) (by decide) (by decide) rfl rfl (by decide) (fun H locs hP hD hS => ?_)
            have hP : va_P D vwCl [(mo, .inr (7, [vI 0, .ref no, .ref th, .ref pa, vI ss, .ref sl, .ref sv, .ref tx, vI ty])), (no, .inl (cy 1, 118, .inl (iA a))), (th, .inl (cy 1, 118, .inl (iA a2)))] H := hP
            have hD : va_D _ [(mo, .inr (7, [vI 0, .ref no, .ref th, .ref pa, vI ss, .ref sl, .ref sv, .ref tx, vI ty])), (no, .inl (cy 1, 118, .inl (iA a))), (th, .inl (cy 1, 118, .inl (iA a2)))] := hD
            refine rr_ifP_eq F (tgt := 63) dX7_runScript_58 (by decide) (fun c_58 => ?_) (fun c_58 => ?_)
            · refine lv_aload_n F.1 F.2.1 dX7_runScript_63 rfl (lv_at hl 1 rfl) ?_
              refine gf7_1 F hK hP 0 rfl tw875 dX7_runScript_64 ?_
              refine rr_iconst F dX7_runScript_67 ?_
              refine lv_aload_n F.1 F.2.1 dX7_runScript_68 rfl (lv_at hl 1 rfl) ?_
              refine gf7_2 F hK hP 0 rfl tw876 dX7_runScript_69 ?_
              refine rr_iconst F dX7_runScript_72 ?_
              refine rr_wrS (rest := []) (wr := [(mo, .inr (7, [vI 0, .ref no, .ref th, .ref pa, vI ss, .ref sl, .ref sv, .ref tx, vI ty]))]) (ws2 := [(mo, .inr (7, [vI 0, .ref no, .ref th, .ref pa, vI ss, .ref sl, .ref sv, .ref tx, vI ty])), (no, .inl (cy 1, 118, .inl (iA a))), (th, .inl (cy 1, 118, .inl (iA (cpZ a a2 0 0 118))))]) F hK (c_X7_lays l D cy no th 118 118 a a2 0 0 (by first | assumption | omega | exact ⟨by omega, by omega⟩) (by first | assumption | omega | exact ⟨by omega, by omega⟩) (by first | assumption | omega | exact ⟨by omega, by omega⟩) (by first | assumption | omega | exact ⟨by omega, by omega⟩)) hP hD hS hA sf_X7_lays tw914 ⟨Nat.le_of_ble_eq_true rfl, Nat.le_of_ble_eq_true rfl⟩ hl rfl (Nat.le_of_ble_eq_true rfl) dX7_runScript_73 ⟨Nat.zero_le _, Nat.zero_le _⟩ [1, 2] [0] [0, 1, 2] rfl rfl (by decide) (by decide) (by decide) rfl rfl (by decide) (fun H locs hP hD hS => ?_)
              have hP : va_P D vwCl [(mo, .inr (7, [vI 0, .ref no, .ref th, .ref pa, vI ss, .ref sl, .ref sv, .ref tx, vI ty])), (no, .inl (cy 1, 118, .inl (iA a))), (th, .inl (cy 1, 118, .inl (iA (cpZ a a2 0 0 118))))] H := hP
              have hD : va_D _ [(mo, .inr (7, [vI 0, .ref no, .ref th, .ref pa, vI ss, .ref sl, .ref sv, .ref tx, vI ty])), (no, .inl (cy 1, 118, .inl (iA a))), (th, .inl (cy 1, 118, .inl (iA (cpZ a a2 0 0 118))))] := hD
              have hP : va_P D vwCl [(mo, .inr (7, [vI 0, .ref no, .ref th, .ref pa, vI ss, .ref sl, .ref sv, .ref tx, vI ty])), (no, .inl (cy 1, 118, .inl (iA a))), (th, .inl (cy 1, 118, .inl (iA a)))] H := va_P_row (ws := [(mo, .inr (7, [vI 0, .ref no, .ref th, .ref pa, vI ss, .ref sl, .ref sv, .ref tx, vI ty])), (no, .inl (cy 1, 118, .inl (iA a))), (th, .inl (cy 1, 118, .inl (iA (cpZ a a2 0 0 118))))]) (q1 := 2) (f := (cpZ a a2 0 0 118)) (g := a) (fun j h0 h1 => cpZ_full j h0 (by omega)) hP
              have hD : va_D _ [(mo, .inr (7, [vI 0, .ref no, .ref th, .ref pa, vI ss, .ref sl, .ref sv, .ref tx, vI ty])), (no, .inl (cy 1, 118, .inl (iA a))), (th, .inl (cy 1, 118, .inl (iA a)))] := va_D_row (ws := [(mo, .inr (7, [vI 0, .ref no, .ref th, .ref pa, vI ss, .ref sl, .ref sv, .ref tx, vI ty])), (no, .inl (cy 1, 118, .inl (iA a))), (th, .inl (cy 1, 118, .inl (iA (cpZ a a2 0 0 118))))]) (q1 := 2) (x := (th, .inl (cy 1, 118, .inl (iA (cpZ a a2 0 0 118)))).2) hD
              refine rr_iconst F dX7_runScript_76 ?_
              refine lv_istore (lv' := [(6, vI 0), (4, .long (lI 100000000)), (0, .ref mo), (1, vI n0), (2, .long (lI s0))]) F.1 F.2.1 dX7_runScript_77 hl (by decide) rfl (fun ls hl => ?_)
              refine rr_loopW1 (fun t => (0 ≤ t) ∧ (t ≤ n0) ∧ (∀ j, 0 ≤ j → j < t → okT (scR a s0 n0 j) (dg s0 n0 j))) (fun t => (n0 - t).toNat) (fun t => [(6, vI t), (4, .long (lI (pw (n0 - t)))), (0, .ref mo), (1, vI n0), (2, .long (lI s0))]) (fun t => [(mo, .inr (7, [vI 0, .ref no, .ref th, .ref pa, vI ss, .ref sl, .ref sv, .ref tx, vI ty])), (no, .inl (cy 1, 118, .inl (iA a))), (th, .inl (cy 1, 118, .inl (iA (scR a s0 n0 t))))]) ?_ 0 ⟨by omega, by omega, fun j x y => by omega⟩ hP hD hS (lv_cv (lv_sub hl [0, 1, 2, 3, 4] rfl) (by rw [← show (100000000 : Int) = pw (n0 - 0) from by unfold pw; repeat' (first | rfl | split | omega)]; rfl))
              intro t hI ih_79 H locs ls hP hD hS hl
              obtain ⟨t0, t1, kq⟩ := hI
              have hl : lv_has ls 7 [(6, vI t), (4, .long (lI (pw (n0 - t)))), (0, .ref mo), (1, vI n0), (2, .long (lI s0))] := hl
              have hP : va_P D vwCl [(mo, .inr (7, [vI 0, .ref no, .ref th, .ref pa, vI ss, .ref sl, .ref sv, .ref tx, vI ty])), (no, .inl (cy 1, 118, .inl (iA a))), (th, .inl (cy 1, 118, .inl (iA (scR a s0 n0 t))))] H := hP
              have hD : va_D _ [(mo, .inr (7, [vI 0, .ref no, .ref th, .ref pa, vI ss, .ref sl, .ref sv, .ref tx, vI ty])), (no, .inl (cy 1, 118, .inl (iA a))), (th, .inl (cy 1, 118, .inl (iA (scR a s0 n0 t))))] := hD
              have hK2 := scR_ok hM (s := s0) (n := n0) t0
              have pr := pw_rng (n0 - t)
              have pr2 := pw_rng (n0 - (t + 1))
              have hdr := dg_rng s0 n0 t
              refine lv_iload F.1 F.2.1 dX7_runScript_79 (lv_at hl 0 rfl) ?_
              refine lv_iload_n F.1 F.2.1 dX7_runScript_81 rfl (lv_at hl 3 rfl) ?_
              refine rr_icmp_ge F (tgt := 118) dX7_runScript_82 (by decide) ⟨by omega, by omega⟩ ⟨by omega, by omega⟩ (fun c_82 => ?_) (fun c_82 => ?_)
              · refine rr_iconst F dX7_runScript_118 ?_
                exact rr_wiret F hr hlocks dX7_runScript_119 hP hS (by first | rw [scE_a (low_hit t0 (by omega) (by assumption) (fun j x y h => h (kq j x y))) t0] | rw [scE_b (low_miss (by omega) (fun j x y h => h (kq j x (by omega)))), show t = n0 by omega]) (low_miss (by omega) (fun j x y h => h (kq j x (by omega))))
              · refine lv_lload F.1 F.2.1 dX7_runScript_85 (lv_at hl 1 rfl) ?_
                refine rr_ldc2 F 10000 rfl tw1220 dX7_runScript_87 ?_
                refine rr_ldiv F (z := pw (n0 - (t + 1))) dX7_runScript_90 ⟨by omega, by omega⟩ ⟨by omega, by omega⟩ (by rw [pw_d (by omega), show n0 - t - 1 = n0 - (t + 1) by omega]) ?_
                refine lv_lstore (lv' := [(4, .long (lI (pw (n0 - (t + 1))))), (6, vI t), (0, .ref mo), (1, vI n0), (2, .long (lI s0))]) F.1 F.2.1 dX7_runScript_91 hl (by decide) rfl (fun ls hl => ?_)
                refine lv_aload_n F.1 F.2.1 dX7_runScript_93 rfl (lv_at hl 2 rfl) ?_
                refine lv_lload_n F.1 F.2.1 dX7_runScript_94 rfl (lv_at hl 4 rfl) ?_
                refine lv_lload F.1 F.2.1 dX7_runScript_95 (lv_at hl 0 rfl) ?_
                refine rr_ldiv F (z := s0 / pw (n0 - (t + 1))) dX7_runScript_97 hs0 ⟨by omega, by omega⟩ (Int.tdiv_eq_ediv_of_nonneg h2.1) ?_
                have hdv : 0 ≤ s0 / pw (n0 - (t + 1)) ∧ s0 / pw (n0 - (t + 1)) ≤ s0 := ⟨Int.ediv_nonneg h2.1 (by omega), Int.ediv_le_self _ h2.1⟩
                have hp0 := pw_rng n0
                refine rr_ldc2 F 10000 rfl tw1220 dX7_runScript_98 ?_
                refine rr_lrem F (z := dg s0 n0 t) dX7_runScript_101 ⟨by omega, by omega⟩ ⟨by omega, by omega⟩ (Int.tmod_eq_emod_of_nonneg hdv.1) ?_
                refine rr_l2i F dX7_runScript_102 ?_
                refine rr_wrV (rest := []) (wr := [(no, .inl (cy 1, 118, .inl (iA a)))]) (ws2 := [(mo, .inr (7, [vI 0, .ref no, .ref th, .ref pa, vI ss, .ref sl, .ref sv, .ref tx, vI ty])), (no, .inl (cy 1, 118, .inl (iA a))), (th, .inl (cy 1, 118, .inl (iA (tryT (scR a s0 n0 t) (dg s0 n0 t)))))]) F hK (c_X7_tries l D cy mo no th pa sl sv tx 0 ss ty (scR a s0 n0 t) (dg s0 n0 t) hK2.1 (by first | assumption | omega | exact ⟨by omega, by omega⟩) (⟨by omega, by omega⟩)) hP hD hS hA sf_X7_tries tw1223 7 rfl rfl ⟨Nat.le_of_ble_eq_true rfl, Nat.le_of_ble_eq_true rfl⟩ hl rfl (Nat.le_of_ble_eq_true rfl) dX7_runScript_103 ⟨Nat.zero_le _, Nat.zero_le _⟩ [0, 2] [1] [1, 0, 2] rfl rfl (by decide) (by decide) (by decide) rfl rfl (by decide) (fun H locs hP hD hS => ?_)
                have hP : va_P D vwCl [(mo, .inr (7, [vI 0, .ref no, .ref th, .ref pa, vI ss, .ref sl, .ref sv, .ref tx, vI ty])), (no, .inl (cy 1, 118, .inl (iA a))), (th, .inl (cy 1, 118, .inl (iA (tryT (scR a s0 n0 t) (dg s0 n0 t)))))] H := hP
                have hD : va_D _ [(mo, .inr (7, [vI 0, .ref no, .ref th, .ref pa, vI ss, .ref sl, .ref sv, .ref tx, vI ty])), (no, .inl (cy 1, 118, .inl (iA a))), (th, .inl (cy 1, 118, .inl (iA (tryT (scR a s0 n0 t) (dg s0 n0 t)))))] := hD
                have hP : va_P D vwCl [(mo, .inr (7, [vI 0, .ref no, .ref th, .ref pa, vI ss, .ref sl, .ref sv, .ref tx, vI ty])), (no, .inl (cy 1, 118, .inl (iA a))), (th, .inl (cy 1, 118, .inl (iA (scR a s0 n0 (t + 1)))))] H := va_P_row (ws := [(mo, .inr (7, [vI 0, .ref no, .ref th, .ref pa, vI ss, .ref sl, .ref sv, .ref tx, vI ty])), (no, .inl (cy 1, 118, .inl (iA a))), (th, .inl (cy 1, 118, .inl (iA (tryT (scR a s0 n0 t) (dg s0 n0 t)))))]) (q1 := 2) (f := (tryT (scR a s0 n0 t) (dg s0 n0 t))) (g := (scR a s0 n0 (t + 1))) (fun j _ _ => congrFun (scR_s t0) j) hP
                have hD : va_D _ [(mo, .inr (7, [vI 0, .ref no, .ref th, .ref pa, vI ss, .ref sl, .ref sv, .ref tx, vI ty])), (no, .inl (cy 1, 118, .inl (iA a))), (th, .inl (cy 1, 118, .inl (iA (scR a s0 n0 (t + 1)))))] := va_D_row (ws := [(mo, .inr (7, [vI 0, .ref no, .ref th, .ref pa, vI ss, .ref sl, .ref sv, .ref tx, vI ty])), (no, .inl (cy 1, 118, .inl (iA a))), (th, .inl (cy 1, 118, .inl (iA (tryT (scR a s0 n0 t) (dg s0 n0 t)))))]) (q1 := 2) (x := (th, .inl (cy 1, 118, .inl (iA (tryT (scR a s0 n0 t) (dg s0 n0 t))))).2) hD
                refine rr_ifP_ne F (tgt := 112) dX7_runScript_106 (by decide) (fun c_106 => ?_) (fun c_106 => ?_)
                · refine lv_iinc (v := iI (t + 1)) (lv' := [(6, vI (t + 1)), (4, .long (lI (pw (n0 - (t + 1))))), (0, .ref mo), (1, vI n0), (2, .long (lI s0))]) F.1 F.2.1 dX7_runScript_112 hl (k := 1) rfl (iinc_ok (by first | rfl | omega)) (by decide) rfl (fun ls hl => ?_)
                  refine lv_goto (tgt := 79) F.1 F.2.1 dX7_runScript_115 (by decide) ?_
                  exact ih_79 (t + 1) ⟨by omega, by omega, fun j x y => (if hj : j = t then by subst hj; assumption else kq j x (by omega))⟩ (show ((n0 - (t + 1)).toNat) < ((n0 - t).toNat) by omega) _ _ ls hP hD hS (lv_sub hl [0, 1, 2, 3, 4] rfl)
                · refine lv_iload F.1 F.2.1 dX7_runScript_109 (lv_at hl 1 rfl) ?_
                  exact rr_wiret F hr hlocks dX7_runScript_111 hP hS (by first | rw [scE_a (low_hit t0 (by omega) (by assumption) (fun j x y h => h (kq j x y))) t0] | rw [scE_b (low_miss (by omega) (fun j x y h => h (kq j x (by omega)))), show t = n0 by omega]) (low_hit t0 (by omega) (by assumption) (fun j x y h => h (kq j x y)))
            · exfalso; omega
  · refine rr_ldc2 F 10000 rfl tw1220 dX7_runScript_5 ?_
    refine lv_goto (tgt := 25) F.1 F.2.1 dX7_runScript_8 (by decide) ?_
    refine lv_lstore (lv' := [(4, .long (lI 10000)), (0, .ref mo), (1, vI n0), (2, .long (lI s0))]) F.1 F.2.1 dX7_runScript_25 hl (by decide) rfl (fun ls hl => ?_)
    refine lv_aload_n F.1 F.2.1 dX7_runScript_27 rfl (lv_at hl 1 rfl) ?_
    refine lv_iload_n F.1 F.2.1 dX7_runScript_28 rfl (lv_at hl 2 rfl) ?_
    refine rr_iconst F dX7_runScript_29 ?_
    refine rr_iconst F dX7_runScript_30 ?_
    refine rr_rdS (rest := [.ref mo]) F hK (c_X7_in l D cy n0 1 3 (by first | assumption | omega | exact ⟨by omega, by omega⟩) (by first | assumption | omega | exact ⟨by omega, by omega⟩) (by first | assumption | omega | exact ⟨by omega, by omega⟩)) (hP.sub [] rfl) sf_X7_in tw921 ⟨Nat.le_of_ble_eq_true rfl, Nat.le_of_ble_eq_true rfl⟩ hl rfl (Nat.le_of_ble_eq_true rfl) dX7_runScript_31 ⟨Nat.zero_le _, Nat.zero_le _⟩ ?_
    refine rr_ifP_eq F (tgt := 54) dX7_runScript_34 (by decide) (fun c_34 => ?_) (fun c_34 => ?_)
    · refine rr_iconst F dX7_runScript_54 ?_
      refine rr_wrV (rest := []) (wr := [(no, .inl (cy 1, 118, .inl (iA a))), (th, .inl (cy 1, 118, .inl (iA a2)))]) (ws2 := [(mo, .inr (7, [vI 1, .ref no, .ref th, .ref pa, vI ss, .ref sl, .ref sv, .ref tx, vI ty])), (no, .inl (cy 1, 118, .inl (iA a))), (th, .inl (cy 1, 118, .inl (iA a2)))]) F hK (c_X7_refuses l D cy mo no th pa sl sv tx tr ss ty 1 (by first | assumption | omega | exact ⟨by omega, by omega⟩)) hP hD hS hA sf_X7_refuses tw910 7 rfl rfl ⟨Nat.le_of_ble_eq_true rfl, Nat.le_of_ble_eq_true rfl⟩ hl rfl (Nat.le_of_ble_eq_true rfl) dX7_runScript_55 ⟨Nat.zero_le _, Nat.zero_le _⟩ [0] [1, 2] [2, 0, 1] rfl rfl (by decide) (by decide) (by decide) rfl rfl (by decide) (fun H locs hP hD hS => ?_)
      have hP : va_P D vwCl [(mo, .inr (7, [vI 1, .ref no, .ref th, .ref pa, vI ss, .ref sl, .ref sv, .ref tx, vI ty])), (no, .inl (cy 1, 118, .inl (iA a))), (th, .inl (cy 1, 118, .inl (iA a2)))] H := hP
      have hD : va_D _ [(mo, .inr (7, [vI 1, .ref no, .ref th, .ref pa, vI ss, .ref sl, .ref sv, .ref tx, vI ty])), (no, .inl (cy 1, 118, .inl (iA a))), (th, .inl (cy 1, 118, .inl (iA a2)))] := hD
      refine rr_ifP_eq F (tgt := 63) dX7_runScript_58 (by decide) (fun c_58 => ?_) (fun c_58 => ?_)
      · exfalso; omega
      · exfalso; omega
    · refine lv_lload_n F.1 F.2.1 dX7_runScript_37 rfl (lv_at hl 3 rfl) ?_
      refine rr_lconst F 0 rfl dX7_runScript_38 ?_
      refine rr_lcmp F dX7_runScript_39 hs0 ⟨by omega, by omega⟩ ?_
      have lc_39 := lcm_spec s0 0
      refine rr_if_lt F (tgt := 54) dX7_runScript_40 (by decide) ⟨by omega, by omega⟩ (fun c_40 => ?_) (fun c_40 => ?_)
      · refine rr_iconst F dX7_runScript_54 ?_
        refine rr_wrV (rest := []) (wr := [(no, .inl (cy 1, 118, .inl (iA a))), (th, .inl (cy 1, 118, .inl (iA a2)))]) (ws2 := [(mo, .inr (7, [vI 1, .ref no, .ref th, .ref pa, vI ss, .ref sl, .ref sv, .ref tx, vI ty])), (no, .inl (cy 1, 118, .inl (iA a))), (th, .inl (cy 1, 118, .inl (iA a2)))]) F hK (c_X7_refuses l D cy mo no th pa sl sv tx tr ss ty 1 (by first | assumption | omega | exact ⟨by omega, by omega⟩)) hP hD hS hA sf_X7_refuses tw910 7 rfl rfl ⟨Nat.le_of_ble_eq_true rfl, Nat.le_of_ble_eq_true rfl⟩ hl rfl (Nat.le_of_ble_eq_true rfl) dX7_runScript_55 ⟨Nat.zero_le _, Nat.zero_le _⟩ [0] [1, 2] [2, 0, 1] rfl rfl (by decide) (by decide) (by decide) rfl rfl (by decide) (fun H locs hP hD hS => ?_)
        have hP : va_P D vwCl [(mo, .inr (7, [vI 1, .ref no, .ref th, .ref pa, vI ss, .ref sl, .ref sv, .ref tx, vI ty])), (no, .inl (cy 1, 118, .inl (iA a))), (th, .inl (cy 1, 118, .inl (iA a2)))] H := hP
        have hD : va_D _ [(mo, .inr (7, [vI 1, .ref no, .ref th, .ref pa, vI ss, .ref sl, .ref sv, .ref tx, vI ty])), (no, .inl (cy 1, 118, .inl (iA a))), (th, .inl (cy 1, 118, .inl (iA a2)))] := hD
        refine rr_ifP_eq F (tgt := 63) dX7_runScript_58 (by decide) (fun c_58 => ?_) (fun c_58 => ?_)
        · exfalso; omega
        · exfalso; omega
      · refine lv_lload_n F.1 F.2.1 dX7_runScript_43 rfl (lv_at hl 3 rfl) ?_
        refine lv_lload F.1 F.2.1 dX7_runScript_44 (lv_at hl 0 rfl) ?_
        refine rr_lcmp F dX7_runScript_46 hs0 ⟨by omega, by omega⟩ ?_
        have lc_46 := lcm_spec s0 10000
        refine rr_if_ge F (tgt := 54) dX7_runScript_47 (by decide) ⟨by omega, by omega⟩ (fun c_47 => ?_) (fun c_47 => ?_)
        · refine rr_iconst F dX7_runScript_54 ?_
          refine rr_wrV (rest := []) (wr := [(no, .inl (cy 1, 118, .inl (iA a))), (th, .inl (cy 1, 118, .inl (iA a2)))]) (ws2 := [(mo, .inr (7, [vI 1, .ref no, .ref th, .ref pa, vI ss, .ref sl, .ref sv, .ref tx, vI ty])), (no, .inl (cy 1, 118, .inl (iA a))), (th, .inl (cy 1, 118, .inl (iA a2)))]) F hK (c_X7_refuses l D cy mo no th pa sl sv tx tr ss ty 1 (by first | assumption | omega | exact ⟨by omega, by omega⟩)) hP hD hS hA sf_X7_refuses tw910 7 rfl rfl ⟨Nat.le_of_ble_eq_true rfl, Nat.le_of_ble_eq_true rfl⟩ hl rfl (Nat.le_of_ble_eq_true rfl) dX7_runScript_55 ⟨Nat.zero_le _, Nat.zero_le _⟩ [0] [1, 2] [2, 0, 1] rfl rfl (by decide) (by decide) (by decide) rfl rfl (by decide) (fun H locs hP hD hS => ?_)
          have hP : va_P D vwCl [(mo, .inr (7, [vI 1, .ref no, .ref th, .ref pa, vI ss, .ref sl, .ref sv, .ref tx, vI ty])), (no, .inl (cy 1, 118, .inl (iA a))), (th, .inl (cy 1, 118, .inl (iA a2)))] H := hP
          have hD : va_D _ [(mo, .inr (7, [vI 1, .ref no, .ref th, .ref pa, vI ss, .ref sl, .ref sv, .ref tx, vI ty])), (no, .inl (cy 1, 118, .inl (iA a))), (th, .inl (cy 1, 118, .inl (iA a2)))] := hD
          refine rr_ifP_eq F (tgt := 63) dX7_runScript_58 (by decide) (fun c_58 => ?_) (fun c_58 => ?_)
          · exfalso; omega
          · exfalso; omega
        · refine rr_iconst F dX7_runScript_50 ?_
          refine lv_goto (tgt := 55) F.1 F.2.1 dX7_runScript_51 (by decide) ?_
          refine rr_wrV (rest := []) (wr := [(no, .inl (cy 1, 118, .inl (iA a))), (th, .inl (cy 1, 118, .inl (iA a2)))]) (ws2 := [(mo, .inr (7, [vI 0, .ref no, .ref th, .ref pa, vI ss, .ref sl, .ref sv, .ref tx, vI ty])), (no, .inl (cy 1, 118, .inl (iA a))), (th, .inl (cy 1, 118, .inl (iA a2)))]) F hK (c_X7_refuses l D cy mo no th pa sl sv tx tr ss ty 0 (by first | assumption | omega | exact ⟨by omega, by omega⟩)) hP hD hS hA sf_X7_refuses tw910 7 rfl rfl ⟨Nat.le_of_ble_eq_true rfl, Nat.le_of_ble_eq_true rfl⟩ hl rfl (Nat.le_of_ble_eq_true rfl) dX7_runScript_55 ⟨Nat.zero_le _, Nat.zero_le _⟩ [0] [1, 2] [2, 0, 1] rfl rfl (by decide) (by decide) (by decide) rfl rfl (by decide) (fun H locs hP hD hS => ?_)
          have hP : va_P D vwCl [(mo, .inr (7, [vI 0, .ref no, .ref th, .ref pa, vI ss, .ref sl, .ref sv, .ref tx, vI ty])), (no, .inl (cy 1, 118, .inl (iA a))), (th, .inl (cy 1, 118, .inl (iA a2)))] H := hP
          have hD : va_D _ [(mo, .inr (7, [vI 0, .ref no, .ref th, .ref pa, vI ss, .ref sl, .ref sv, .ref tx, vI ty])), (no, .inl (cy 1, 118, .inl (iA a))), (th, .inl (cy 1, 118, .inl (iA a2)))] := hD
          refine rr_ifP_eq F (tgt := 63) dX7_runScript_58 (by decide) (fun c_58 => ?_) (fun c_58 => ?_)
          · refine lv_aload_n F.1 F.2.1 dX7_runScript_63 rfl (lv_at hl 1 rfl) ?_
            refine gf7_1 F hK hP 0 rfl tw875 dX7_runScript_64 ?_
            refine rr_iconst F dX7_runScript_67 ?_
            refine lv_aload_n F.1 F.2.1 dX7_runScript_68 rfl (lv_at hl 1 rfl) ?_
            refine gf7_2 F hK hP 0 rfl tw876 dX7_runScript_69 ?_
            refine rr_iconst F dX7_runScript_72 ?_
            refine rr_wrS (rest := []) (wr := [(mo, .inr (7, [vI 0, .ref no, .ref th, .ref pa, vI ss, .ref sl, .ref sv, .ref tx, vI ty]))]) (ws2 := [(mo, .inr (7, [vI 0, .ref no, .ref th, .ref pa, vI ss, .ref sl, .ref sv, .ref tx, vI ty])), (no, .inl (cy 1, 118, .inl (iA a))), (th, .inl (cy 1, 118, .inl (iA (cpZ a a2 0 0 118))))]) F hK (c_X7_lays l D cy no th 118 118 a a2 0 0 (by first | assumption | omega | exact ⟨by omega, by omega⟩) (by first | assumption | omega | exact ⟨by omega, by omega⟩) (by first | assumption | omega | exact ⟨by omega, by omega⟩) (by first | assumption | omega | exact ⟨by omega, by omega⟩)) hP hD hS hA sf_X7_lays tw914 ⟨Nat.le_of_ble_eq_true rfl, Nat.le_of_ble_eq_true rfl⟩ hl rfl (Nat.le_of_ble_eq_true rfl) dX7_runScript_73 ⟨Nat.zero_le _, Nat.zero_le _⟩ [1, 2] [0] [0, 1, 2] rfl rfl (by decide) (by decide) (by decide) rfl rfl (by decide) (fun H locs hP hD hS => ?_)
            have hP : va_P D vwCl [(mo, .inr (7, [vI 0, .ref no, .ref th, .ref pa, vI ss, .ref sl, .ref sv, .ref tx, vI ty])), (no, .inl (cy 1, 118, .inl (iA a))), (th, .inl (cy 1, 118, .inl (iA (cpZ a a2 0 0 118))))] H := hP
            have hD : va_D _ [(mo, .inr (7, [vI 0, .ref no, .ref th, .ref pa, vI ss, .ref sl, .ref sv, .ref tx, vI ty])), (no, .inl (cy 1, 118, .inl (iA a))), (th, .inl (cy 1, 118, .inl (iA (cpZ a a2 0 0 118))))] := hD
            have hP : va_P D vwCl [(mo, .inr (7, [vI 0, .ref no, .ref th, .ref pa, vI ss, .ref sl, .ref sv, .ref tx, vI ty])), (no, .inl (cy 1, 118, .inl (iA a))), (th, .inl (cy 1, 118, .inl (iA a)))] H := va_P_row (ws := [(mo, .inr (7, [vI 0, .ref no, .ref th, .ref pa, vI ss, .ref sl, .ref sv, .ref tx, vI ty])), (no, .inl (cy 1, 118, .inl (iA a))), (th, .inl (cy 1, 118, .inl (iA (cpZ a a2 0 0 118))))]) (q1 := 2) (f := (cpZ a a2 0 0 118)) (g := a) (fun j h0 h1 => cpZ_full j h0 (by omega)) hP
            have hD : va_D _ [(mo, .inr (7, [vI 0, .ref no, .ref th, .ref pa, vI ss, .ref sl, .ref sv, .ref tx, vI ty])), (no, .inl (cy 1, 118, .inl (iA a))), (th, .inl (cy 1, 118, .inl (iA a)))] := va_D_row (ws := [(mo, .inr (7, [vI 0, .ref no, .ref th, .ref pa, vI ss, .ref sl, .ref sv, .ref tx, vI ty])), (no, .inl (cy 1, 118, .inl (iA a))), (th, .inl (cy 1, 118, .inl (iA (cpZ a a2 0 0 118))))]) (q1 := 2) (x := (th, .inl (cy 1, 118, .inl (iA (cpZ a a2 0 0 118)))).2) hD
            refine rr_iconst F dX7_runScript_76 ?_
            refine lv_istore (lv' := [(6, vI 0), (4, .long (lI 10000)), (0, .ref mo), (1, vI n0), (2, .long (lI s0))]) F.1 F.2.1 dX7_runScript_77 hl (by decide) rfl (fun ls hl => ?_)
            refine rr_loopW1 (fun t => (0 ≤ t) ∧ (t ≤ n0) ∧ (∀ j, 0 ≤ j → j < t → okT (scR a s0 n0 j) (dg s0 n0 j))) (fun t => (n0 - t).toNat) (fun t => [(6, vI t), (4, .long (lI (pw (n0 - t)))), (0, .ref mo), (1, vI n0), (2, .long (lI s0))]) (fun t => [(mo, .inr (7, [vI 0, .ref no, .ref th, .ref pa, vI ss, .ref sl, .ref sv, .ref tx, vI ty])), (no, .inl (cy 1, 118, .inl (iA a))), (th, .inl (cy 1, 118, .inl (iA (scR a s0 n0 t))))]) ?_ 0 ⟨by omega, by omega, fun j x y => by omega⟩ hP hD hS (lv_cv (lv_sub hl [0, 1, 2, 3, 4] rfl) (by rw [← show (10000 : Int) = pw (n0 - 0) from by unfold pw; repeat' (first | rfl | split | omega)]; rfl))
            intro t hI ih_79 H locs ls hP hD hS hl
            obtain ⟨t0, t1, kq⟩ := hI
            have hl : lv_has ls 7 [(6, vI t), (4, .long (lI (pw (n0 - t)))), (0, .ref mo), (1, vI n0), (2, .long (lI s0))] := hl
            have hP : va_P D vwCl [(mo, .inr (7, [vI 0, .ref no, .ref th, .ref pa, vI ss, .ref sl, .ref sv, .ref tx, vI ty])), (no, .inl (cy 1, 118, .inl (iA a))), (th, .inl (cy 1, 118, .inl (iA (scR a s0 n0 t))))] H := hP
            have hD : va_D _ [(mo, .inr (7, [vI 0, .ref no, .ref th, .ref pa, vI ss, .ref sl, .ref sv, .ref tx, vI ty])), (no, .inl (cy 1, 118, .inl (iA a))), (th, .inl (cy 1, 118, .inl (iA (scR a s0 n0 t))))] := hD
            have hK2 := scR_ok hM (s := s0) (n := n0) t0
            have pr := pw_rng (n0 - t)
            have pr2 := pw_rng (n0 - (t + 1))
            have hdr := dg_rng s0 n0 t
            refine lv_iload F.1 F.2.1 dX7_runScript_79 (lv_at hl 0 rfl) ?_
            refine lv_iload_n F.1 F.2.1 dX7_runScript_81 rfl (lv_at hl 3 rfl) ?_
            refine rr_icmp_ge F (tgt := 118) dX7_runScript_82 (by decide) ⟨by omega, by omega⟩ ⟨by omega, by omega⟩ (fun c_82 => ?_) (fun c_82 => ?_)
            · refine rr_iconst F dX7_runScript_118 ?_
              exact rr_wiret F hr hlocks dX7_runScript_119 hP hS (by first | rw [scE_a (low_hit t0 (by omega) (by assumption) (fun j x y h => h (kq j x y))) t0] | rw [scE_b (low_miss (by omega) (fun j x y h => h (kq j x (by omega)))), show t = n0 by omega]) (low_miss (by omega) (fun j x y h => h (kq j x (by omega))))
            · refine lv_lload F.1 F.2.1 dX7_runScript_85 (lv_at hl 1 rfl) ?_
              refine rr_ldc2 F 10000 rfl tw1220 dX7_runScript_87 ?_
              refine rr_ldiv F (z := pw (n0 - (t + 1))) dX7_runScript_90 ⟨by omega, by omega⟩ ⟨by omega, by omega⟩ (by rw [pw_d (by omega), show n0 - t - 1 = n0 - (t + 1) by omega]) ?_
              refine lv_lstore (lv' := [(4, .long (lI (pw (n0 - (t + 1))))), (6, vI t), (0, .ref mo), (1, vI n0), (2, .long (lI s0))]) F.1 F.2.1 dX7_runScript_91 hl (by decide) rfl (fun ls hl => ?_)
              refine lv_aload_n F.1 F.2.1 dX7_runScript_93 rfl (lv_at hl 2 rfl) ?_
              refine lv_lload_n F.1 F.2.1 dX7_runScript_94 rfl (lv_at hl 4 rfl) ?_
              refine lv_lload F.1 F.2.1 dX7_runScript_95 (lv_at hl 0 rfl) ?_
              refine rr_ldiv F (z := s0 / pw (n0 - (t + 1))) dX7_runScript_97 hs0 ⟨by omega, by omega⟩ (Int.tdiv_eq_ediv_of_nonneg h2.1) ?_
              have hdv : 0 ≤ s0 / pw (n0 - (t + 1)) ∧ s0 / pw (n0 - (t + 1)) ≤ s0 := ⟨Int.ediv_nonneg h2.1 (by omega), Int.ediv_le_self _ h2.1⟩
              have hp0 := pw_rng n0
              refine rr_ldc2 F 10000 rfl tw1220 dX7_runScript_98 ?_
              refine rr_lrem F (z := dg s0 n0 t) dX7_runScript_101 ⟨by omega, by omega⟩ ⟨by omega, by omega⟩ (Int.tmod_eq_emod_of_nonneg hdv.1) ?_
              refine rr_l2i F dX7_runScript_102 ?_
              refine rr_wrV (rest := []) (wr := [(no, .inl (cy 1, 118, .inl (iA a)))]) (ws2 := [(mo, .inr (7, [vI 0, .ref no, .ref th, .ref pa, vI ss, .ref sl, .ref sv, .ref tx, vI ty])), (no, .inl (cy 1, 118, .inl (iA a))), (th, .inl (cy 1, 118, .inl (iA (tryT (scR a s0 n0 t) (dg s0 n0 t)))))]) F hK (c_X7_tries l D cy mo no th pa sl sv tx 0 ss ty (scR a s0 n0 t) (dg s0 n0 t) hK2.1 (by first | assumption | omega | exact ⟨by omega, by omega⟩) (⟨by omega, by omega⟩)) hP hD hS hA sf_X7_tries tw1223 7 rfl rfl ⟨Nat.le_of_ble_eq_true rfl, Nat.le_of_ble_eq_true rfl⟩ hl rfl (Nat.le_of_ble_eq_true rfl) dX7_runScript_103 ⟨Nat.zero_le _, Nat.zero_le _⟩ [0, 2] [1] [1, 0, 2] rfl rfl (by decide) (by decide) (by decide) rfl rfl (by decide) (fun H locs hP hD hS => ?_)
              have hP : va_P D vwCl [(mo, .inr (7, [vI 0, .ref no, .ref th, .ref pa, vI ss, .ref sl, .ref sv, .ref tx, vI ty])), (no, .inl (cy 1, 118, .inl (iA a))), (th, .inl (cy 1, 118, .inl (iA (tryT (scR a s0 n0 t) (dg s0 n0 t)))))] H := hP
              have hD : va_D _ [(mo, .inr (7, [vI 0, .ref no, .ref th, .ref pa, vI ss, .ref sl, .ref sv, .ref tx, vI ty])), (no, .inl (cy 1, 118, .inl (iA a))), (th, .inl (cy 1, 118, .inl (iA (tryT (scR a s0 n0 t) (dg s0 n0 t)))))] := hD
              have hP : va_P D vwCl [(mo, .inr (7, [vI 0, .ref no, .ref th, .ref pa, vI ss, .ref sl, .ref sv, .ref tx, vI ty])), (no, .inl (cy 1, 118, .inl (iA a))), (th, .inl (cy 1, 118, .inl (iA (scR a s0 n0 (t + 1)))))] H := va_P_row (ws := [(mo, .inr (7, [vI 0, .ref no, .ref th, .ref pa, vI ss, .ref sl, .ref sv, .ref tx, vI ty])), (no, .inl (cy 1, 118, .inl (iA a))), (th, .inl (cy 1, 118, .inl (iA (tryT (scR a s0 n0 t) (dg s0 n0 t)))))]) (q1 := 2) (f := (tryT (scR a s0 n0 t) (dg s0 n0 t))) (g := (scR a s0 n0 (t + 1))) (fun j _ _ => congrFun (scR_s t0) j) hP
              have hD : va_D _ [(mo, .inr (7, [vI 0, .ref no, .ref th, .ref pa, vI ss, .ref sl, .ref sv, .ref tx, vI ty])), (no, .inl (cy 1, 118, .inl (iA a))), (th, .inl (cy 1, 118, .inl (iA (scR a s0 n0 (t + 1)))))] := va_D_row (ws := [(mo, .inr (7, [vI 0, .ref no, .ref th, .ref pa, vI ss, .ref sl, .ref sv, .ref tx, vI ty])), (no, .inl (cy 1, 118, .inl (iA a))), (th, .inl (cy 1, 118, .inl (iA (tryT (scR a s0 n0 t) (dg s0 n0 t)))))]) (q1 := 2) (x := (th, .inl (cy 1, 118, .inl (iA (tryT (scR a s0 n0 t) (dg s0 n0 t))))).2) hD
              refine rr_ifP_ne F (tgt := 112) dX7_runScript_106 (by decide) (fun c_106 => ?_) (fun c_106 => ?_)
              · refine lv_iinc (v := iI (t + 1)) (lv' := [(6, vI (t + 1)), (4, .long (lI (pw (n0 - (t + 1))))), (0, .ref mo), (1, vI n0), (2, .long (lI s0))]) F.1 F.2.1 dX7_runScript_112 hl (k := 1) rfl (iinc_ok (by first | rfl | omega)) (by decide) rfl (fun ls hl => ?_)
                refine lv_goto (tgt := 79) F.1 F.2.1 dX7_runScript_115 (by decide) ?_
                exact ih_79 (t + 1) ⟨by omega, by omega, fun j x y => (if hj : j = t then by subst hj; assumption else kq j x (by omega))⟩ (show ((n0 - (t + 1)).toNat) < ((n0 - t).toNat) by omega) _ _ ls hP hD hS (lv_sub hl [0, 1, 2, 3, 4] rfl)
              · refine lv_iload F.1 F.2.1 dX7_runScript_109 (lv_at hl 1 rfl) ?_
                exact rr_wiret F hr hlocks dX7_runScript_111 hP hS (by first | rw [scE_a (low_hit t0 (by omega) (by assumption) (fun j x y h => h (kq j x y))) t0] | rw [scE_b (low_miss (by omega) (fun j x y h => h (kq j x (by omega)))), show t = n0 by omega]) (low_hit t0 (by omega) (by assumption) (fun j x y h => h (kq j x y)))
          · exfalso; omega
set_option maxRecDepth 100000 in
set_option maxHeartbeats 4000000 in
theorem n_X7_runScript (l : Launch) (D : va_G) (cy : Nat → ClassId) (mo no th pa sl sv tx : Nat) (tr ss ty : Int) (a a2 : Int → Int) (n0 s0 : Int) (hM : MR a) (hsp : 0 ≤ a 117 ∧ a 117 ≤ 90000000) (hn : inR n0) (hs0 : inL s0) (hbad : ¬ ((1 ≤ n0 ∧ n0 ≤ 3) ∧ 0 ≤ s0 ∧ s0 < pw n0)) : Wr l yX7_runScript cX7_runScript 7 (some FieldType.int) 1 [.ref mo, vI n0, .long (lI s0)] D cy [(mo, .inr (7, [vI tr, .ref no, .ref th, .ref pa, vI ss, .ref sl, .ref sv, .ref tx, vI ty])), (no, .inl (cy 1, 118, .inl (iA a))), (th, .inl (cy 1, 118, .inl (iA a2)))] [(mo, .inr (7, [vI 1, .ref no, .ref th, .ref pa, vI ss, .ref sl, .ref sv, .ref tx, vI ty])), (no, .inl (cy 1, 118, .inl (iA a))), (th, .inl (cy 1, 118, .inl (iA a2)))] (some (vI 0)) := by
  refine Wr.of RX7 rfl [(0, .ref mo), (1, vI n0), (2, .long (lI s0))] rfl (by decide +kernel) (Nat.le_of_ble_eq_true rfl) ?_
  intro p e s m args below meth c F hr hlocks hK hP hD hS hA ls hl
  have hn0 := hM.n
  have hw0 := hM.nw
  have hc0 := hM.wc
  have hn2 : -2147483648 ≤ n0 ∧ n0 < 2147483648 := hn
  have pe1 : n0 = 1 → pw n0 = 10000 := fun h => by rw [h]; rfl
  have pe2 : n0 = 2 → pw n0 = 100000000 := fun h => by rw [h]; rfl
  have pe3 : n0 = 3 → pw n0 = 1000000000000 := fun h => by rw [h]; rfl
  refine lv_iload_n F.1 F.2.1 dX7_runScript_0 rfl (lv_at hl 1 rfl) ?_
  refine rr_iconst F dX7_runScript_1 ?_
  refine rr_icmp_ne F (tgt := 11) dX7_runScript_2 (by decide) ⟨by omega, by omega⟩ ⟨by omega, by omega⟩ (fun c_2 => ?_) (fun c_2 => ?_)
  · refine lv_iload_n F.1 F.2.1 dX7_runScript_11 rfl (lv_at hl 1 rfl) ?_
    refine rr_iconst F dX7_runScript_12 ?_
    refine rr_icmp_ne F (tgt := 22) dX7_runScript_13 (by decide) ⟨by omega, by omega⟩ ⟨by omega, by omega⟩ (fun c_13 => ?_) (fun c_13 => ?_)
    · refine rr_ldc2 F 1000000000000 rfl tw1222 dX7_runScript_22 ?_
      refine lv_lstore (lv' := [(4, .long (lI 1000000000000)), (0, .ref mo), (1, vI n0), (2, .long (lI s0))]) F.1 F.2.1 dX7_runScript_25 hl (by decide) rfl (fun ls hl => ?_)
      refine lv_aload_n F.1 F.2.1 dX7_runScript_27 rfl (lv_at hl 1 rfl) ?_
      refine lv_iload_n F.1 F.2.1 dX7_runScript_28 rfl (lv_at hl 2 rfl) ?_
      refine rr_iconst F dX7_runScript_29 ?_
      refine rr_iconst F dX7_runScript_30 ?_
      refine rr_rdS (rest := [.ref mo]) F hK (c_X7_in l D cy n0 1 3 (by first | assumption | omega | exact ⟨by omega, by omega⟩) (by first | assumption | omega | exact ⟨by omega, by omega⟩) (by first | assumption | omega | exact ⟨by omega, by omega⟩)) (hP.sub [] rfl) sf_X7_in tw921 ⟨Nat.le_of_ble_eq_true rfl, Nat.le_of_ble_eq_true rfl⟩ hl rfl (Nat.le_of_ble_eq_true rfl) dX7_runScript_31 ⟨Nat.zero_le _, Nat.zero_le _⟩ ?_
      refine rr_ifP_eq F (tgt := 54) dX7_runScript_34 (by decide) (fun c_34 => ?_) (fun c_34 => ?_)
      · refine rr_iconst F dX7_runScript_54 ?_
        refine rr_wrV (rest := []) (wr := [(no, .inl (cy 1, 118, .inl (iA a))), (th, .inl (cy 1, 118, .inl (iA a2)))]) (ws2 := [(mo, .inr (7, [vI 1, .ref no, .ref th, .ref pa, vI ss, .ref sl, .ref sv, .ref tx, vI ty])), (no, .inl (cy 1, 118, .inl (iA a))), (th, .inl (cy 1, 118, .inl (iA a2)))]) F hK (c_X7_refuses l D cy mo no th pa sl sv tx tr ss ty 1 (by first | assumption | omega | exact ⟨by omega, by omega⟩)) hP hD hS hA sf_X7_refuses tw910 7 rfl rfl ⟨Nat.le_of_ble_eq_true rfl, Nat.le_of_ble_eq_true rfl⟩ hl rfl (Nat.le_of_ble_eq_true rfl) dX7_runScript_55 ⟨Nat.zero_le _, Nat.zero_le _⟩ [0] [1, 2] [2, 0, 1] rfl rfl (by decide) (by decide) (by decide) rfl rfl (by decide) (fun H locs hP hD hS => ?_)
        have hP : va_P D vwCl [(mo, .inr (7, [vI 1, .ref no, .ref th, .ref pa, vI ss, .ref sl, .ref sv, .ref tx, vI ty])), (no, .inl (cy 1, 118, .inl (iA a))), (th, .inl (cy 1, 118, .inl (iA a2)))] H := hP
        have hD : va_D _ [(mo, .inr (7, [vI 1, .ref no, .ref th, .ref pa, vI ss, .ref sl, .ref sv, .ref tx, vI ty])), (no, .inl (cy 1, 118, .inl (iA a))), (th, .inl (cy 1, 118, .inl (iA a2)))] := hD
        refine rr_ifP_eq F (tgt := 63) dX7_runScript_58 (by decide) (fun c_58 => ?_) (fun c_58 => ?_)
        · exfalso; omega
        · refine rr_iconst F dX7_runScript_61 ?_
          exact rr_wiret F hr hlocks dX7_runScript_62 hP hS (by repeat' (first | rfl | split | omega)) (rfl)
      · refine lv_lload_n F.1 F.2.1 dX7_runScript_37 rfl (lv_at hl 3 rfl) ?_
        refine rr_lconst F 0 rfl dX7_runScript_38 ?_
        refine rr_lcmp F dX7_runScript_39 hs0 ⟨by omega, by omega⟩ ?_
        have lc_39 := lcm_spec s0 0
        refine rr_if_lt F (tgt := 54) dX7_runScript_40 (by decide) ⟨by omega, by omega⟩ (fun c_40 => ?_) (fun c_40 => ?_)
        · refine rr_iconst F dX7_runScript_54 ?_
          refine rr_wrV (rest := []) (wr := [(no, .inl (cy 1, 118, .inl (iA a))), (th, .inl (cy 1, 118, .inl (iA a2)))]) (ws2 := [(mo, .inr (7, [vI 1, .ref no, .ref th, .ref pa, vI ss, .ref sl, .ref sv, .ref tx, vI ty])), (no, .inl (cy 1, 118, .inl (iA a))), (th, .inl (cy 1, 118, .inl (iA a2)))]) F hK (c_X7_refuses l D cy mo no th pa sl sv tx tr ss ty 1 (by first | assumption | omega | exact ⟨by omega, by omega⟩)) hP hD hS hA sf_X7_refuses tw910 7 rfl rfl ⟨Nat.le_of_ble_eq_true rfl, Nat.le_of_ble_eq_true rfl⟩ hl rfl (Nat.le_of_ble_eq_true rfl) dX7_runScript_55 ⟨Nat.zero_le _, Nat.zero_le _⟩ [0] [1, 2] [2, 0, 1] rfl rfl (by decide) (by decide) (by decide) rfl rfl (by decide) (fun H locs hP hD hS => ?_)
          have hP : va_P D vwCl [(mo, .inr (7, [vI 1, .ref no, .ref th, .ref pa, vI ss, .ref sl, .ref sv, .ref tx, vI ty])), (no, .inl (cy 1, 118, .inl (iA a))), (th, .inl (cy 1, 118, .inl (iA a2)))] H := hP
          have hD : va_D _ [(mo, .inr (7, [vI 1, .ref no, .ref th, .ref pa, vI ss, .ref sl, .ref sv, .ref tx, vI ty])), (no, .inl (cy 1, 118, .inl (iA a))), (th, .inl (cy 1, 118, .inl (iA a2)))] := hD
          refine rr_ifP_eq F (tgt := 63) dX7_runScript_58 (by decide) (fun c_58 => ?_) (fun c_58 => ?_)
          · exfalso; omega
          · refine rr_iconst F dX7_runScript_61 ?_
            exact rr_wiret F hr hlocks dX7_runScript_62 hP hS (by repeat' (first | rfl | split | omega)) (rfl)
        · refine lv_lload_n F.1 F.2.1 dX7_runScript_43 rfl (lv_at hl 3 rfl) ?_
          refine lv_lload F.1 F.2.1 dX7_runScript_44 (lv_at hl 0 rfl) ?_
          refine rr_lcmp F dX7_runScript_46 hs0 ⟨by omega, by omega⟩ ?_
          have lc_46 := lcm_spec s0 1000000000000
          refine rr_if_ge F (tgt := 54) dX7_runScript_47 (by decide) ⟨by omega, by omega⟩ (fun c_47 => ?_) (fun c_47 => ?_)
          · refine rr_iconst F dX7_runScript_54 ?_
            refine rr_wrV (rest := []) (wr := [(no, .inl (cy 1, 118, .inl (iA a))), (th, .inl (cy 1, 118, .inl (iA a2)))]) (ws2 := [(mo, .inr (7, [vI 1, .ref no, .ref th, .ref pa, vI ss, .ref sl, .ref sv, .ref tx, vI ty])), (no, .inl (cy 1, 118, .inl (iA a))), (th, .inl (cy 1, 118, .inl (iA a2)))]) F hK (c_X7_refuses l D cy mo no th pa sl sv tx tr ss ty 1 (by first | assumption | omega | exact ⟨by omega, by omega⟩)) hP hD hS hA sf_X7_refuses tw910 7 rfl rfl ⟨Nat.le_of_ble_eq_true rfl, Nat.le_of_ble_eq_true rfl⟩ hl rfl (Nat.le_of_ble_eq_true rfl) dX7_runScript_55 ⟨Nat.zero_le _, Nat.zero_le _⟩ [0] [1, 2] [2, 0, 1] rfl rfl (by decide) (by decide) (by decide) rfl rfl (by decide) (fun H locs hP hD hS => ?_)
            have hP : va_P D vwCl [(mo, .inr (7, [vI 1, .ref no, .ref th, .ref pa, vI ss, .ref sl, .ref sv, .ref tx, vI ty])), (no, .inl (cy 1, 118, .inl (iA a))), (th, .inl (cy 1, 118, .inl (iA a2)))] H := hP
            have hD : va_D _ [(mo, .inr (7, [vI 1, .ref no, .ref th, .ref pa, vI ss, .ref sl, .ref sv, .ref tx, vI ty])), (no, .inl (cy 1, 118, .inl (iA a))), (th, .inl (cy 1, 118, .inl (iA a2)))] := hD
            refine rr_ifP_eq F (tgt := 63) dX7_runScript_58 (by decide) (fun c_58 => ?_) (fun c_58 => ?_)
            · exfalso; omega
            · refine rr_iconst F dX7_runScript_61 ?_
              exact rr_wiret F hr hlocks dX7_runScript_62 hP hS (by repeat' (first | rfl | split | omega)) (rfl)
          · refine rr_iconst F dX7_runScript_50 ?_
            refine lv_goto (tgt := 55) F.1 F.2.1 dX7_runScript_51 (by decide) ?_
            refine rr_wrV (rest := []) (wr := [(no, .inl (cy 1, 118, .inl (iA a))), (th, .inl (cy 1, 118, .inl (iA a2)))]) (ws2 := [(mo, .inr (7, [vI 0, .ref no, .ref th, .ref pa, vI ss, .ref sl, .ref sv, .ref tx, vI ty])), (no, .inl (cy 1, 118, .inl (iA a))), (th, .inl (cy 1, 118, .inl (iA a2)))]) F hK (c_X7_refuses l D cy mo no th pa sl sv tx tr ss ty 0 (by first | assumption | omega | exact ⟨by omega, by omega⟩)) hP hD hS hA sf_X7_refuses tw910 7 rfl rfl ⟨Nat.le_of_ble_eq_true rfl, Nat.le_of_ble_eq_true rfl⟩ hl rfl (Nat.le_of_ble_eq_true rfl) dX7_runScript_55 ⟨Nat.zero_le _, Nat.zero_le _⟩ [0] [1, 2] [2, 0, 1] rfl rfl (by decide) (by decide) (by decide) rfl rfl (by decide) (fun H locs hP hD hS => ?_)
            have hP : va_P D vwCl [(mo, .inr (7, [vI 0, .ref no, .ref th, .ref pa, vI ss, .ref sl, .ref sv, .ref tx, vI ty])), (no, .inl (cy 1, 118, .inl (iA a))), (th, .inl (cy 1, 118, .inl (iA a2)))] H := hP
            have hD : va_D _ [(mo, .inr (7, [vI 0, .ref no, .ref th, .ref pa, vI ss, .ref sl, .ref sv, .ref tx, vI ty])), (no, .inl (cy 1, 118, .inl (iA a))), (th, .inl (cy 1, 118, .inl (iA a2)))] := hD
            refine rr_ifP_eq F (tgt := 63) dX7_runScript_58 (by decide) (fun c_58 => ?_) (fun c_58 => ?_)
            · exfalso; omega
            · exfalso; omega
    · refine rr_ldc2 F 100000000 rfl tw1221 dX7_runScript_16 ?_
      refine lv_goto (tgt := 25) F.1 F.2.1 dX7_runScript_19 (by decide) ?_
      refine lv_lstore (lv' := [(4, .long (lI 100000000)), (0, .ref mo), (1, vI n0), (2, .long (lI s0))]) F.1 F.2.1 dX7_runScript_25 hl (by decide) rfl (fun ls hl => ?_)
      refine lv_aload_n F.1 F.2.1 dX7_runScript_27 rfl (lv_at hl 1 rfl) ?_
      refine lv_iload_n F.1 F.2.1 dX7_runScript_28 rfl (lv_at hl 2 rfl) ?_
      refine rr_iconst F dX7_runScript_29 ?_
      refine rr_iconst F dX7_runScript_30 ?_
      refine rr_rdS (rest := [.ref mo]) F hK (c_X7_in l D cy n0 1 3 (by first | assumption | omega | exact ⟨by omega, by omega⟩) (by first | assumption | omega | exact ⟨by omega, by omega⟩) (by first | assumption | omega | exact ⟨by omega, by omega⟩)) (hP.sub [] rfl) sf_X7_in tw921 ⟨Nat.le_of_ble_eq_true rfl, Nat.le_of_ble_eq_true rfl⟩ hl rfl (Nat.le_of_ble_eq_true rfl) dX7_runScript_31 ⟨Nat.zero_le _, Nat.zero_le _⟩ ?_
      refine rr_ifP_eq F (tgt := 54) dX7_runScript_34 (by decide) (fun c_34 => ?_) (fun c_34 => ?_)
      · refine rr_iconst F dX7_runScript_54 ?_
        refine rr_wrV (rest := []) (wr := [(no, .inl (cy 1, 118, .inl (iA a))), (th, .inl (cy 1, 118, .inl (iA a2)))]) (ws2 := [(mo, .inr (7, [vI 1, .ref no, .ref th, .ref pa, vI ss, .ref sl, .ref sv, .ref tx, vI ty])), (no, .inl (cy 1, 118, .inl (iA a))), (th, .inl (cy 1, 118, .inl (iA a2)))]) F hK (c_X7_refuses l D cy mo no th pa sl sv tx tr ss ty 1 (by first | assumption | omega | exact ⟨by omega, by omega⟩)) hP hD hS hA sf_X7_refuses tw910 7 rfl rfl ⟨Nat.le_of_ble_eq_true rfl, Nat.le_of_ble_eq_true rfl⟩ hl rfl (Nat.le_of_ble_eq_true rfl) dX7_runScript_55 ⟨Nat.zero_le _, Nat.zero_le _⟩ [0] [1, 2] [2, 0, 1] rfl rfl (by decide) (by decide) (by decide) rfl rfl (by decide) (fun H locs hP hD hS => ?_)
        have hP : va_P D vwCl [(mo, .inr (7, [vI 1, .ref no, .ref th, .ref pa, vI ss, .ref sl, .ref sv, .ref tx, vI ty])), (no, .inl (cy 1, 118, .inl (iA a))), (th, .inl (cy 1, 118, .inl (iA a2)))] H := hP
        have hD : va_D _ [(mo, .inr (7, [vI 1, .ref no, .ref th, .ref pa, vI ss, .ref sl, .ref sv, .ref tx, vI ty])), (no, .inl (cy 1, 118, .inl (iA a))), (th, .inl (cy 1, 118, .inl (iA a2)))] := hD
        refine rr_ifP_eq F (tgt := 63) dX7_runScript_58 (by decide) (fun c_58 => ?_) (fun c_58 => ?_)
        · exfalso; omega
        · refine rr_iconst F dX7_runScript_61 ?_
          exact rr_wiret F hr hlocks dX7_runScript_62 hP hS (by repeat' (first | rfl | split | omega)) (rfl)
      · refine lv_lload_n F.1 F.2.1 dX7_runScript_37 rfl (lv_at hl 3 rfl) ?_
        refine rr_lconst F 0 rfl dX7_runScript_38 ?_
        refine rr_lcmp F dX7_runScript_39 hs0 ⟨by omega, by omega⟩ ?_
        have lc_39 := lcm_spec s0 0
        refine rr_if_lt F (tgt := 54) dX7_runScript_40 (by decide) ⟨by omega, by omega⟩ (fun c_40 => ?_) (fun c_40 => ?_)
        · refine rr_iconst F dX7_runScript_54 ?_
          refine rr_wrV (rest := []) (wr := [(no, .inl (cy 1, 118, .inl (iA a))), (th, .inl (cy 1, 118, .inl (iA a2)))]) (ws2 := [(mo, .inr (7, [vI 1, .ref no, .ref th, .ref pa, vI ss, .ref sl, .ref sv, .ref tx, vI ty])), (no, .inl (cy 1, 118, .inl (iA a))), (th, .inl (cy 1, 118, .inl (iA a2)))]) F hK (c_X7_refuses l D cy mo no th pa sl sv tx tr ss ty 1 (by first | assumption | omega | exact ⟨by omega, by omega⟩)) hP hD hS hA sf_X7_refuses tw910 7 rfl rfl ⟨Nat.le_of_ble_eq_true rfl, Nat.le_of_ble_eq_true rfl⟩ hl rfl (Nat.le_of_ble_eq_true rfl) dX7_runScript_55 ⟨Nat.zero_le _, Nat.zero_le _⟩ [0] [1, 2] [2, 0, 1] rfl rfl (by decide) (by decide) (by decide) rfl rfl (by decide) (fun H locs hP hD hS => ?_)
          have hP : va_P D vwCl [(mo, .inr (7, [vI 1, .ref no, .ref th, .ref pa, vI ss, .ref sl, .ref sv, .ref tx, vI ty])), (no, .inl (cy 1, 118, .inl (iA a))), (th, .inl (cy 1, 118, .inl (iA a2)))] H := hP
          have hD : va_D _ [(mo, .inr (7, [vI 1, .ref no, .ref th, .ref pa, vI ss, .ref sl, .ref sv, .ref tx, vI ty])), (no, .inl (cy 1, 118, .inl (iA a))), (th, .inl (cy 1, 118, .inl (iA a2)))] := hD
          refine rr_ifP_eq F (tgt := 63) dX7_runScript_58 (by decide) (fun c_58 => ?_) (fun c_58 => ?_)
          · exfalso; omega
          · refine rr_iconst F dX7_runScript_61 ?_
            exact rr_wiret F hr hlocks dX7_runScript_62 hP hS (by repeat' (first | rfl | split | omega)) (rfl)
        · refine lv_lload_n F.1 F.2.1 dX7_runScript_43 rfl (lv_at hl 3 rfl) ?_
          refine lv_lload F.1 F.2.1 dX7_runScript_44 (lv_at hl 0 rfl) ?_
          refine rr_lcmp F dX7_runScript_46 hs0 ⟨by omega, by omega⟩ ?_
          have lc_46 := lcm_spec s0 100000000
          refine rr_if_ge F (tgt := 54) dX7_runScript_47 (by decide) ⟨by omega, by omega⟩ (fun c_47 => ?_) (fun c_47 => ?_)
          · refine rr_iconst F dX7_runScript_54 ?_
            refine rr_wrV (rest := []) (wr := [(no, .inl (cy 1, 118, .inl (iA a))), (th, .inl (cy 1, 118, .inl (iA a2)))]) (ws2 := [(mo, .inr (7, [vI 1, .ref no, .ref th, .ref pa, vI ss, .ref sl, .ref sv, .ref tx, vI ty])), (no, .inl (cy 1, 118, .inl (iA a))), (th, .inl (cy 1, 118, .inl (iA a2)))]) F hK (c_X7_refuses l D cy mo no th pa sl sv tx tr ss ty 1 (by first | assumption | omega | exact ⟨by omega, by omega⟩)) hP hD hS hA sf_X7_refuses tw910 7 rfl rfl ⟨Nat.le_of_ble_eq_true rfl, Nat.le_of_ble_eq_true rfl⟩ hl rfl (Nat.le_of_ble_eq_true rfl) dX7_runScript_55 ⟨Nat.zero_le _, Nat.zero_le _⟩ [0] [1, 2] [2, 0, 1] rfl rfl (by decide) (by decide) (by decide) rfl rfl (by decide) (fun H locs hP hD hS => ?_)
            have hP : va_P D vwCl [(mo, .inr (7, [vI 1, .ref no, .ref th, .ref pa, vI ss, .ref sl, .ref sv, .ref tx, vI ty])), (no, .inl (cy 1, 118, .inl (iA a))), (th, .inl (cy 1, 118, .inl (iA a2)))] H := hP
            have hD : va_D _ [(mo, .inr (7, [vI 1, .ref no, .ref th, .ref pa, vI ss, .ref sl, .ref sv, .ref tx, vI ty])), (no, .inl (cy 1, 118, .inl (iA a))), (th, .inl (cy 1, 118, .inl (iA a2)))] := hD
            refine rr_ifP_eq F (tgt := 63) dX7_runScript_58 (by decide) (fun c_58 => ?_) (fun c_58 => ?_)
            · exfalso; omega
            · refine rr_iconst F dX7_runScript_61 ?_
              exact rr_wiret F hr hlocks dX7_runScript_62 hP hS (by repeat' (first | rfl | split | omega)) (rfl)
          · refine rr_iconst F dX7_runScript_50 ?_
            refine lv_goto (tgt := 55) F.1 F.2.1 dX7_runScript_51 (by decide) ?_
            refine rr_wrV (rest := []) (wr := [(no, .inl (cy 1, 118, .inl (iA a))), (th, .inl (cy 1, 118, .inl (iA a2)))]) (ws2 := [(mo, .inr (7, [vI 0, .ref no, .ref th, .ref pa, vI ss, .ref sl, .ref sv, .ref tx, vI ty])), (no, .inl (cy 1, 118, .inl (iA a))), (th, .inl (cy 1, 118, .inl (iA a2)))]) F hK (c_X7_refuses l D cy mo no th pa sl sv tx tr ss ty 0 (by first | assumption | omega | exact ⟨by omega, by omega⟩)) hP hD hS hA sf_X7_refuses tw910 7 rfl rfl ⟨Nat.le_of_ble_eq_true rfl, Nat.le_of_ble_eq_true rfl⟩ hl rfl (Nat.le_of_ble_eq_true rfl) dX7_runScript_55 ⟨Nat.zero_le _, Nat.zero_le _⟩ [0] [1, 2] [2, 0, 1] rfl rfl (by decide) (by decide) (by decide) rfl rfl (by decide) (fun H locs hP hD hS => ?_)
            have hP : va_P D vwCl [(mo, .inr (7, [vI 0, .ref no, .ref th, .ref pa, vI ss, .ref sl, .ref sv, .ref tx, vI ty])), (no, .inl (cy 1, 118, .inl (iA a))), (th, .inl (cy 1, 118, .inl (iA a2)))] H := hP
            have hD : va_D _ [(mo, .inr (7, [vI 0, .ref no, .ref th, .ref pa, vI ss, .ref sl, .ref sv, .ref tx, vI ty])), (no, .inl (cy 1, 118, .inl (iA a))), (th, .inl (cy 1, 118, .inl (iA a2)))] := hD
            refine rr_ifP_eq F (tgt := 63) dX7_runScript_58 (by decide) (fun c_58 => ?_) (fun c_58 => ?_)
            · exfalso; omega
            · exfalso; omega
  · refine rr_ldc2 F 10000 rfl tw1220 dX7_runScript_5 ?_
    refine lv_goto (tgt := 25) F.1 F.2.1 dX7_runScript_8 (by decide) ?_
    refine lv_lstore (lv' := [(4, .long (lI 10000)), (0, .ref mo), (1, vI n0), (2, .long (lI s0))]) F.1 F.2.1 dX7_runScript_25 hl (by decide) rfl (fun ls hl => ?_)
    refine lv_aload_n F.1 F.2.1 dX7_runScript_27 rfl (lv_at hl 1 rfl) ?_
    refine lv_iload_n F.1 F.2.1 dX7_runScript_28 rfl (lv_at hl 2 rfl) ?_
    refine rr_iconst F dX7_runScript_29 ?_
    refine rr_iconst F dX7_runScript_30 ?_
    refine rr_rdS (rest := [.ref mo]) F hK (c_X7_in l D cy n0 1 3 (by first | assumption | omega | exact ⟨by omega, by omega⟩) (by first | assumption | omega | exact ⟨by omega, by omega⟩) (by first | assumption | omega | exact ⟨by omega, by omega⟩)) (hP.sub [] rfl) sf_X7_in tw921 ⟨Nat.le_of_ble_eq_true rfl, Nat.le_of_ble_eq_true rfl⟩ hl rfl (Nat.le_of_ble_eq_true rfl) dX7_runScript_31 ⟨Nat.zero_le _, Nat.zero_le _⟩ ?_
    refine rr_ifP_eq F (tgt := 54) dX7_runScript_34 (by decide) (fun c_34 => ?_) (fun c_34 => ?_)
    · refine rr_iconst F dX7_runScript_54 ?_
      refine rr_wrV (rest := []) (wr := [(no, .inl (cy 1, 118, .inl (iA a))), (th, .inl (cy 1, 118, .inl (iA a2)))]) (ws2 := [(mo, .inr (7, [vI 1, .ref no, .ref th, .ref pa, vI ss, .ref sl, .ref sv, .ref tx, vI ty])), (no, .inl (cy 1, 118, .inl (iA a))), (th, .inl (cy 1, 118, .inl (iA a2)))]) F hK (c_X7_refuses l D cy mo no th pa sl sv tx tr ss ty 1 (by first | assumption | omega | exact ⟨by omega, by omega⟩)) hP hD hS hA sf_X7_refuses tw910 7 rfl rfl ⟨Nat.le_of_ble_eq_true rfl, Nat.le_of_ble_eq_true rfl⟩ hl rfl (Nat.le_of_ble_eq_true rfl) dX7_runScript_55 ⟨Nat.zero_le _, Nat.zero_le _⟩ [0] [1, 2] [2, 0, 1] rfl rfl (by decide) (by decide) (by decide) rfl rfl (by decide) (fun H locs hP hD hS => ?_)
      have hP : va_P D vwCl [(mo, .inr (7, [vI 1, .ref no, .ref th, .ref pa, vI ss, .ref sl, .ref sv, .ref tx, vI ty])), (no, .inl (cy 1, 118, .inl (iA a))), (th, .inl (cy 1, 118, .inl (iA a2)))] H := hP
      have hD : va_D _ [(mo, .inr (7, [vI 1, .ref no, .ref th, .ref pa, vI ss, .ref sl, .ref sv, .ref tx, vI ty])), (no, .inl (cy 1, 118, .inl (iA a))), (th, .inl (cy 1, 118, .inl (iA a2)))] := hD
      refine rr_ifP_eq F (tgt := 63) dX7_runScript_58 (by decide) (fun c_58 => ?_) (fun c_58 => ?_)
      · exfalso; omega
      · refine rr_iconst F dX7_runScript_61 ?_
        exact rr_wiret F hr hlocks dX7_runScript_62 hP hS (by repeat' (first | rfl | split | omega)) (rfl)
    · refine lv_lload_n F.1 F.2.1 dX7_runScript_37 rfl (lv_at hl 3 rfl) ?_
      refine rr_lconst F 0 rfl dX7_runScript_38 ?_
      refine rr_lcmp F dX7_runScript_39 hs0 ⟨by omega, by omega⟩ ?_
      have lc_39 := lcm_spec s0 0
      refine rr_if_lt F (tgt := 54) dX7_runScript_40 (by decide) ⟨by omega, by omega⟩ (fun c_40 => ?_) (fun c_40 => ?_)
      · refine rr_iconst F dX7_runScript_54 ?_
        refine rr_wrV (rest := []) (wr := [(no, .inl (cy 1, 118, .inl (iA a))), (th, .inl (cy 1, 118, .inl (iA a2)))]) (ws2 := [(mo, .inr (7, [vI 1, .ref no, .ref th, .ref pa, vI ss, .ref sl, .ref sv, .ref tx, vI ty])), (no, .inl (cy 1, 118, .inl (iA a))), (th, .inl (cy 1, 118, .inl (iA a2)))]) F hK (c_X7_refuses l D cy mo no th pa sl sv tx tr ss ty 1 (by first | assumption | omega | exact ⟨by omega, by omega⟩)) hP hD hS hA sf_X7_refuses tw910 7 rfl rfl ⟨Nat.le_of_ble_eq_true rfl, Nat.le_of_ble_eq_true rfl⟩ hl rfl (Nat.le_of_ble_eq_true rfl) dX7_runScript_55 ⟨Nat.zero_le _, Nat.zero_le _⟩ [0] [1, 2] [2, 0, 1] rfl rfl (by decide) (by decide) (by decide) rfl rfl (by decide) (fun H locs hP hD hS => ?_)
        have hP : va_P D vwCl [(mo, .inr (7, [vI 1, .ref no, .ref th, .ref pa, vI ss, .ref sl, .ref sv, .ref tx, vI ty])), (no, .inl (cy 1, 118, .inl (iA a))), (th, .inl (cy 1, 118, .inl (iA a2)))] H := hP
        have hD : va_D _ [(mo, .inr (7, [vI 1, .ref no, .ref th, .ref pa, vI ss, .ref sl, .ref sv, .ref tx, vI ty])), (no, .inl (cy 1, 118, .inl (iA a))), (th, .inl (cy 1, 118, .inl (iA a2)))] := hD
        refine rr_ifP_eq F (tgt := 63) dX7_runScript_58 (by decide) (fun c_58 => ?_) (fun c_58 => ?_)
        · exfalso; omega
        · refine rr_iconst F dX7_runScript_61 ?_
          exact rr_wiret F hr hlocks dX7_runScript_62 hP hS (by repeat' (first | rfl | split | omega)) (rfl)
      · refine lv_lload_n F.1 F.2.1 dX7_runScript_43 rfl (lv_at hl 3 rfl) ?_
        refine lv_lload F.1 F.2.1 dX7_runScript_44 (lv_at hl 0 rfl) ?_
        refine rr_lcmp F dX7_runScript_46 hs0 ⟨by omega, by omega⟩ ?_
        have lc_46 := lcm_spec s0 10000
        refine rr_if_ge F (tgt := 54) dX7_runScript_47 (by decide) ⟨by omega, by omega⟩ (fun c_47 => ?_) (fun c_47 => ?_)
        · refine rr_iconst F dX7_runScript_54 ?_
          refine rr_wrV (rest := []) (wr := [(no, .inl (cy 1, 118, .inl (iA a))), (th, .inl (cy 1, 118, .inl (iA a2)))]) (ws2 := [(mo, .inr (7, [vI 1, .ref no, .ref th, .ref pa, vI ss, .ref sl, .ref sv, .ref tx, vI ty])), (no, .inl (cy 1, 118, .inl (iA a))), (th, .inl (cy 1, 118, .inl (iA a2)))]) F hK (c_X7_refuses l D cy mo no th pa sl sv tx tr ss ty 1 (by first | assumption | omega | exact ⟨by omega, by omega⟩)) hP hD hS hA sf_X7_refuses tw910 7 rfl rfl ⟨Nat.le_of_ble_eq_true rfl, Nat.le_of_ble_eq_true rfl⟩ hl rfl (Nat.le_of_ble_eq_true rfl) dX7_runScript_55 ⟨Nat.zero_le _, Nat.zero_le _⟩ [0] [1, 2] [2, 0, 1] rfl rfl (by decide) (by decide) (by decide) rfl rfl (by decide) (fun H locs hP hD hS => ?_)
          have hP : va_P D vwCl [(mo, .inr (7, [vI 1, .ref no, .ref th, .ref pa, vI ss, .ref sl, .ref sv, .ref tx, vI ty])), (no, .inl (cy 1, 118, .inl (iA a))), (th, .inl (cy 1, 118, .inl (iA a2)))] H := hP
          have hD : va_D _ [(mo, .inr (7, [vI 1, .ref no, .ref th, .ref pa, vI ss, .ref sl, .ref sv, .ref tx, vI ty])), (no, .inl (cy 1, 118, .inl (iA a))), (th, .inl (cy 1, 118, .inl (iA a2)))] := hD
          refine rr_ifP_eq F (tgt := 63) dX7_runScript_58 (by decide) (fun c_58 => ?_) (fun c_58 => ?_)
          · exfalso; omega
          · refine rr_iconst F dX7_runScript_61 ?_
            exact rr_wiret F hr hlocks dX7_runScript_62 hP hS (by repeat' (first | rfl | split | omega)) (rfl)
        · refine rr_iconst F dX7_runScript_50 ?_
          refine lv_goto (tgt := 55) F.1 F.2.1 dX7_runScript_51 (by decide) ?_
          refine rr_wrV (rest := []) (wr := [(no, .inl (cy 1, 118, .inl (iA a))), (th, .inl (cy 1, 118, .inl (iA a2)))]) (ws2 := [(mo, .inr (7, [vI 0, .ref no, .ref th, .ref pa, vI ss, .ref sl, .ref sv, .ref tx, vI ty])), (no, .inl (cy 1, 118, .inl (iA a))), (th, .inl (cy 1, 118, .inl (iA a2)))]) F hK (c_X7_refuses l D cy mo no th pa sl sv tx tr ss ty 0 (by first | assumption | omega | exact ⟨by omega, by omega⟩)) hP hD hS hA sf_X7_refuses tw910 7 rfl rfl ⟨Nat.le_of_ble_eq_true rfl, Nat.le_of_ble_eq_true rfl⟩ hl rfl (Nat.le_of_ble_eq_true rfl) dX7_runScript_55 ⟨Nat.zero_le _, Nat.zero_le _⟩ [0] [1, 2] [2, 0, 1] rfl rfl (by decide) (by decide) (by decide) rfl rfl (by decide) (fun H locs hP hD hS => ?_)
          have hP : va_P D vwCl [(mo, .inr (7, [vI 0, .ref no, .ref th, .ref pa, vI ss, .ref sl, .ref sv, .ref tx, vI ty])), (no, .inl (cy 1, 118, .inl (iA a))), (th, .inl (cy 1, 118, .inl (iA a2)))] H := hP
          have hD : va_D _ [(mo, .inr (7, [vI 0, .ref no, .ref th, .ref pa, vI ss, .ref sl, .ref sv, .ref tx, vI ty])), (no, .inl (cy 1, 118, .inl (iA a))), (th, .inl (cy 1, 118, .inl (iA a2)))] := hD
          refine rr_ifP_eq F (tgt := 63) dX7_runScript_58 (by decide) (fun c_58 => ?_) (fun c_58 => ?_)
          · exfalso; omega
          · exfalso; omega
