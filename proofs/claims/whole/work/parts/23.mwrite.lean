set_option maxRecDepth 100000 in
set_option maxHeartbeats 4000000 in
theorem c_X7_lays (l : Launch) (D : va_G) (cy : Nat → ClassId) (fr to fn tn : Nat) (f t : Int → Int) (fa ta : Int) (h0 : 0 ≤ fa ∧ fa + 118 ≤ fn) (h1 : 0 ≤ ta ∧ ta + 118 ≤ tn) (h2 : fn ≤ 1652) (h3 : tn ≤ 1652) : Wr l yX7_lays cX7_lays 5 (none) 0 [.ref fr, vI fa, .ref to, vI ta] D cy [(fr, .inl (cy 1, fn, .inl (iA f))), (to, .inl (cy 1, tn, .inl (iA t)))] [(fr, .inl (cy 1, fn, .inl (iA f))), (to, .inl (cy 1, tn, .inl (iA (cpZ f t fa ta 118))))] none := by
  refine Wr.of RX7 rfl [(0, .ref fr), (1, vI fa), (2, .ref to), (3, vI ta)] rfl (by decide +kernel) (Nat.le_of_ble_eq_true rfl) ?_
  intro p e s m args below meth c F hr hlocks hK hP hD hS hA ls hl
  refine rr_iconst F dX7_lays_0 ?_
  refine lv_istore (lv' := [(4, vI 0), (0, .ref fr), (1, vI fa), (2, .ref to), (3, vI ta)]) F.1 F.2.1 dX7_lays_1 hl (by decide) rfl (fun ls hl => ?_)
  refine rr_loopW1 (fun k => (0 ≤ k) ∧ (k ≤ 118)) (fun k => (118 - k).toNat) (fun k => [(4, vI k), (0, .ref fr), (1, vI fa), (2, .ref to), (3, vI ta)]) (fun k => [(fr, .inl (cy 1, fn, .inl (iA f))), (to, .inl (cy 1, tn, .inl (iA (cpZ f t fa ta k))))]) ?_ 0 ⟨by omega, by omega⟩ (by rw [cpZ_0]; exact hP) (hD.like rfl) hS (lv_sub hl [0, 1, 2, 3, 4] rfl)
  intro k hI ih_3 H locs ls hP hD hS hl
  obtain ⟨k0, k1⟩ := hI
  have hl : lv_has ls 5 [(4, vI k), (0, .ref fr), (1, vI fa), (2, .ref to), (3, vI ta)] := hl
  have hP : va_P D vwCl [(fr, .inl (cy 1, fn, .inl (iA f))), (to, .inl (cy 1, tn, .inl (iA (cpZ f t fa ta k))))] H := hP
  have hD : va_D _ [(fr, .inl (cy 1, fn, .inl (iA f))), (to, .inl (cy 1, tn, .inl (iA (cpZ f t fa ta k))))] := hD
  refine lv_iload F.1 F.2.1 dX7_lays_3 (lv_at hl 0 rfl) ?_
  refine rr_bipush F dX7_lays_5 (by decide) ?_
  refine rr_icmp_ge F (tgt := 28) dX7_lays_7 (by decide) ⟨by omega, by omega⟩ ⟨by omega, by omega⟩ (fun c_7 => ?_) (fun c_7 => ?_)
  · exact rr_wvret F hr hlocks dX7_lays_28 hP hS (by rw [show k = 118 by omega])
  · refine lv_aload_n F.1 F.2.1 dX7_lays_10 rfl (lv_at hl 3 rfl) ?_
    refine lv_iload_n F.1 F.2.1 dX7_lays_11 rfl (lv_at hl 4 rfl) ?_
    refine lv_iload F.1 F.2.1 dX7_lays_12 (lv_at hl 0 rfl) ?_
    refine rr_iadd F (z := ta + k) dX7_lays_14 (by first | rfl | omega) ?_
    refine lv_aload_n F.1 F.2.1 dX7_lays_15 rfl (lv_at hl 1 rfl) ?_
    refine lv_iload_n F.1 F.2.1 dX7_lays_16 rfl (lv_at hl 2 rfl) ?_
    refine lv_iload F.1 F.2.1 dX7_lays_17 (lv_at hl 0 rfl) ?_
    refine rr_iadd F (z := fa + k) dX7_lays_19 (by first | rfl | omega) ?_
    refine rr_iald F hK hP 0 rfl (by omega) (by omega) (by omega) dX7_lays_20 ?_
    refine rr_iast F hK hP hD hS 1 rfl (by omega) (by omega) (by omega) dX7_lays_21 (fun H locs hP hD hS => ?_)
    rw [show updZ (cpZ f t fa ta k) (ta + k) (f (fa + k)) = cpZ f t fa ta (k + 1) from cpZ_s k0] at hP hD
    have hP : va_P D vwCl [(fr, .inl (cy 1, fn, .inl (iA f))), (to, .inl (cy 1, tn, .inl (iA (cpZ f t fa ta (k + 1)))))] H := hP
    have hD : va_D _ [(fr, .inl (cy 1, fn, .inl (iA f))), (to, .inl (cy 1, tn, .inl (iA (cpZ f t fa ta (k + 1)))))] := hD
    refine lv_iinc (v := iI (k + 1)) (lv' := [(4, vI (k + 1)), (0, .ref fr), (1, vI fa), (2, .ref to), (3, vI ta)]) F.1 F.2.1 dX7_lays_22 hl (k := 0) rfl (iinc_ok (by first | rfl | omega)) (by decide) rfl (fun ls hl => ?_)
    refine lv_goto (tgt := 3) F.1 F.2.1 dX7_lays_25 (by decide) ?_
    exact ih_3 (k + 1) ⟨by omega, by omega⟩ (show ((118 - (k + 1)).toNat) < ((118 - k).toNat) by omega) _ _ ls hP hD hS (lv_sub hl [0, 1, 2, 3, 4] rfl)
set_option maxRecDepth 100000 in
set_option maxHeartbeats 4000000 in
theorem c_X7_sees (l : Launch) (D : va_G) (cy : Nat → ClassId) (ro : Nat) (a : Int → Int) (w : Int) (hw : 0 ≤ w ∧ w < 4) (hn : 0 ≤ a 0 ∧ a 0 ≤ 24) (hW : WK (a 0) (a (97 + 5 * w + 0)) (a (97 + 5 * w + 1)) (a (97 + 5 * w + 2)) (a (97 + 5 * w + 3)) (a (97 + 5 * w + 4))) : Wr l yX7_sees cX7_sees 3 (none) 1 [.ref ro, vI w] D cy [(ro, .inl (cy 1, 118, .inl (iA a)))] [(ro, .inl (cy 1, 118, .inl (iA (updZ a (97 + 5 * w + 4) (bor (a (97 + 5 * w + 4)) (vw (a 0) (a (97 + 5 * w + 0)) (a (97 + 5 * w + 1)) (a (97 + 5 * w + 3))))))))] none := by
  refine Wr.of RX7 rfl [(0, .ref ro), (1, vI w)] rfl (by decide +kernel) (Nat.le_of_ble_eq_true rfl) ?_
  intro p e s m args below meth c F hr hlocks hK hP hD hS hA ls hl
  obtain ⟨v1, v2, v3, v4, v5⟩ := id hW
  have v6 := p2_24 hn.1 hn.2
  refine rr_iconst F dX7_sees_0 ?_
  refine lv_istore_n (lv' := [(2, vI 0), (0, .ref ro), (1, vI w)]) F.1 F.2.1 dX7_sees_1 rfl hl (by decide) rfl (fun ls hl => ?_)
  refine rr_loopW2 (fun (k : Int) (A : (Int → Int)) => (0 ≤ k) ∧ (k ≤ a (97 + 5 * w + 3)) ∧ (∀ j, ¬ j = 97 + 5 * w + 4 → A j = a j) ∧ (A (97 + 5 * w + 4) = bor (a (97 + 5 * w + 4)) (vw (a 0) (a (97 + 5 * w + 0)) (a (97 + 5 * w + 1)) k))) (fun (k : Int) (A : (Int → Int)) => (6 - k).toNat) (fun (k : Int) (A : (Int → Int)) => [(2, vI k), (0, .ref ro), (1, vI w)]) (fun (k : Int) (A : (Int → Int)) => [(ro, .inl (cy 1, 118, .inl (iA A)))]) ?_ 0 a ⟨by omega, by omega, fun j _ => rfl, (bor_0 (by omega)).symm⟩ hP hD hS (lv_sub hl [0, 1, 2] rfl)
  intro k A hI ih_2 H locs ls hP hD hS hl
  obtain ⟨k0, k1, hA, hX⟩ := hI
  have hl : lv_has ls 3 [(2, vI k), (0, .ref ro), (1, vI w)] := hl
  have hP : va_P D vwCl [(ro, .inl (cy 1, 118, .inl (iA A)))] H := hP
  have hD : va_D _ [(ro, .inl (cy 1, 118, .inl (iA A)))] := hD
  have e0 := hA 0 (by omega)
  have e1 := hA (97 + 5 * w + 0) (by omega)
  have e2 := hA (97 + 5 * w + 1) (by omega)
  have e3 := hA (97 + 5 * w + 3) (by omega)
  have vr := vw_lt (n := a 0) (pl := a (97 + 5 * w + 0)) (d := a (97 + 5 * w + 1)) (k := k) (by omega) k0
  have br := bor_lt v5 vr
  refine lv_iload_n F.1 F.2.1 dX7_sees_2 rfl (lv_at hl 0 rfl) ?_
  refine lv_aload_n F.1 F.2.1 dX7_sees_3 rfl (lv_at hl 1 rfl) ?_
  refine lv_iload_n F.1 F.2.1 dX7_sees_4 rfl (lv_at hl 2 rfl) ?_
  refine rr_iconst F dX7_sees_5 ?_
  refine rr_rdS (rest := [vI k]) F hK (c_X7_of l D cy ro A w 3 (by first | assumption | omega | exact ⟨by omega, by omega⟩) (by first | assumption | omega | exact ⟨by omega, by omega⟩)) hP sf_X7_of tw1076 ⟨Nat.le_of_ble_eq_true rfl, Nat.le_of_ble_eq_true rfl⟩ hl rfl (Nat.le_of_ble_eq_true rfl) dX7_sees_6 ⟨Nat.zero_le _, Nat.zero_le _⟩ ?_
  refine rr_icmp_ge F (tgt := 50) dX7_sees_9 (by decide) ⟨by omega, by omega⟩ ⟨by omega, by omega⟩ (fun c_9 => ?_) (fun c_9 => ?_)
  · exact rr_wvret F hr hlocks dX7_sees_50 hP hS (by rw [show A = updZ a (97 + 5 * w + 4) (bor (a (97 + 5 * w + 4)) (vw (a 0) (a (97 + 5 * w + 0)) (a (97 + 5 * w + 1)) (a (97 + 5 * w + 3)))) from updZ_ext hA (by rw [hX, show k = a (97 + 5 * w + 3) by omega])])
  · refine lv_aload_n F.1 F.2.1 dX7_sees_12 rfl (lv_at hl 1 rfl) ?_
    refine rr_bipush F dX7_sees_13 (by decide) ?_
    refine rr_iconst F dX7_sees_15 ?_
    refine lv_iload_n F.1 F.2.1 dX7_sees_16 rfl (lv_at hl 2 rfl) ?_
    refine rr_imul F (z := 5 * w) dX7_sees_17 (by first | rfl | omega) ?_
    refine rr_iadd F (z := 97 + (5 * w)) dX7_sees_18 (by first | rfl | omega) ?_
    refine rr_iconst F dX7_sees_19 ?_
    refine rr_iadd F (z := (97 + (5 * w)) + 4) dX7_sees_20 (by first | rfl | omega) ?_
    refine lv_dup2_11 F.1 F.2.1 dX7_sees_21 rfl rfl ?_
    refine rr_iald F hK hP 0 rfl (by omega) (by omega) (by decide) dX7_sees_22 ?_
    refine rr_iconst F dX7_sees_23 ?_
    refine lv_aload_n F.1 F.2.1 dX7_sees_24 rfl (lv_at hl 1 rfl) ?_
    refine lv_aload_n F.1 F.2.1 dX7_sees_25 rfl (lv_at hl 1 rfl) ?_
    refine lv_iload_n F.1 F.2.1 dX7_sees_26 rfl (lv_at hl 2 rfl) ?_
    refine rr_iconst F dX7_sees_27 ?_
    refine rr_rdS (rest := [.ref ro, vI 1, vI (A ((97 + (5 * w)) + 4)), vI ((97 + (5 * w)) + 4), .ref ro]) F hK (c_X7_of l D cy ro A w 0 (by first | assumption | omega | exact ⟨by omega, by omega⟩) (by first | assumption | omega | exact ⟨by omega, by omega⟩)) hP sf_X7_of tw1076 ⟨Nat.le_of_ble_eq_true rfl, Nat.le_of_ble_eq_true rfl⟩ hl rfl (Nat.le_of_ble_eq_true rfl) dX7_sees_28 ⟨Nat.zero_le _, Nat.zero_le _⟩ ?_
    refine lv_aload_n F.1 F.2.1 dX7_sees_31 rfl (lv_at hl 1 rfl) ?_
    refine lv_iload_n F.1 F.2.1 dX7_sees_32 rfl (lv_at hl 2 rfl) ?_
    refine rr_iconst F dX7_sees_33 ?_
    refine rr_rdS (rest := [vI (A (97 + 5 * w + 0)), .ref ro, vI 1, vI (A ((97 + (5 * w)) + 4)), vI ((97 + (5 * w)) + 4), .ref ro]) F hK (c_X7_of l D cy ro A w 1 (by first | assumption | omega | exact ⟨by omega, by omega⟩) (by first | assumption | omega | exact ⟨by omega, by omega⟩)) hP sf_X7_of tw1076 ⟨Nat.le_of_ble_eq_true rfl, Nat.le_of_ble_eq_true rfl⟩ hl rfl (Nat.le_of_ble_eq_true rfl) dX7_sees_34 ⟨Nat.zero_le _, Nat.zero_le _⟩ ?_
    refine lv_iload_n F.1 F.2.1 dX7_sees_37 rfl (lv_at hl 0 rfl) ?_
    refine rr_rdS (rest := [vI 1, vI (A ((97 + (5 * w)) + 4)), vI ((97 + (5 * w)) + 4), .ref ro]) F hK (c_X7_off l D cy ro A (A (97 + 5 * w + 0)) (A (97 + 5 * w + 1)) k (by first | assumption | omega | exact ⟨by omega, by omega⟩) (by first | assumption | omega | exact ⟨by omega, by omega⟩) (by first | assumption | omega | exact ⟨by omega, by omega⟩) (by first | assumption | omega | exact ⟨by omega, by omega⟩)) hP sf_X7_off tw962 ⟨Nat.le_of_ble_eq_true rfl, Nat.le_of_ble_eq_true rfl⟩ hl rfl (Nat.le_of_ble_eq_true rfl) dX7_sees_38 ⟨Nat.zero_le _, Nat.zero_le _⟩ ?_
    have q_38_0 := (off_rng (n := A 0) (by omega) (A (97 + 5 * w + 0)) (A (97 + 5 * w + 1)) k)
    refine rr_ishl F (z := p2 (off (A 0) (A (97 + 5 * w + 0)) (A (97 + 5 * w + 1)) k)) dX7_sees_41 ⟨rfl, by omega, by omega, rfl⟩ ?_
    refine rr_ior F (z := bor (A (97 + 5 * w + 4)) (p2 (off (A 0) (A (97 + 5 * w + 0)) (A (97 + 5 * w + 1)) k))) dX7_sees_42 ⟨by omega, Int.natCast_nonneg _, rfl⟩ ?_
    refine rr_iast F hK hP hD hS 0 rfl (by omega) (by omega) (by decide) dX7_sees_43 (fun H locs hP hD hS => ?_)
    have hP : va_P D vwCl [(ro, .inl (cy 1, 118, .inl (iA (updZ A ((97 + (5 * w)) + 4) (bor (A (97 + 5 * w + 4)) (p2 (off (A 0) (A (97 + 5 * w + 0)) (A (97 + 5 * w + 1)) k)))))))] H := hP
    have hD : va_D _ [(ro, .inl (cy 1, 118, .inl (iA (updZ A ((97 + (5 * w)) + 4) (bor (A (97 + 5 * w + 4)) (p2 (off (A 0) (A (97 + 5 * w + 0)) (A (97 + 5 * w + 1)) k)))))))] := hD
    refine lv_iinc (v := iI (k + 1)) (lv' := [(2, vI (k + 1)), (0, .ref ro), (1, vI w)]) F.1 F.2.1 dX7_sees_44 hl (k := 0) rfl (iinc_ok (by first | rfl | omega)) (by decide) rfl (fun ls hl => ?_)
    refine lv_goto (tgt := 2) F.1 F.2.1 dX7_sees_47 (by decide) ?_
    exact ih_2 (k + 1) (updZ A ((97 + (5 * w)) + 4) (bor (A (97 + 5 * w + 4)) (p2 (off (A 0) (A (97 + 5 * w + 0)) (A (97 + 5 * w + 1)) k)))) ⟨by omega, by omega, fun j hj => by rw [updZ_n hj]; exact hA j hj, by rw [updZ_s, hX, e0, e1, e2, bor_assoc, vw_s _ _ _ k0]⟩ (show ((6 - (k + 1)).toNat) < ((6 - k).toNat) by omega) _ _ ls hP hD hS (lv_sub hl [0, 1, 2] rfl)
set_option maxRecDepth 100000 in
set_option maxHeartbeats 4000000 in
theorem c_X7_steps (l : Launch) (D : va_G) (cy : Nat → ClassId) (ro : Nat) (a : Int → Int) (w : Int) (hw : 0 ≤ w ∧ w < 4) (hn : 0 ≤ a 0 ∧ a 0 ≤ 24) (hW : WK (a 0) (a (97 + 5 * w + 0)) (a (97 + 5 * w + 1)) (a (97 + 5 * w + 2)) (a (97 + 5 * w + 3)) (a (97 + 5 * w + 4))) : Wr l yX7_steps cX7_steps 2 (none) 2 [.ref ro, vI w] D cy [(ro, .inl (cy 1, 118, .inl (iA a)))] [(ro, .inl (cy 1, 118, .inl (iA (updZ (updZ a (97 + 5 * w + 0) (off (a 0) (a (97 + 5 * w + 0)) (a (97 + 5 * w + 1)) (a (97 + 5 * w + 2)))) (97 + 5 * w + 4) (bor (a (97 + 5 * w + 4)) (vw (a 0) (off (a 0) (a (97 + 5 * w + 0)) (a (97 + 5 * w + 1)) (a (97 + 5 * w + 2))) (a (97 + 5 * w + 1)) (a (97 + 5 * w + 3))))))))] none := by
  refine Wr.of RX7 rfl [(0, .ref ro), (1, vI w)] rfl (by decide +kernel) (Nat.le_of_ble_eq_true rfl) ?_
  intro p e s m args below meth c F hr hlocks hK hP hD hS hA ls hl
  obtain ⟨v1, v2, v3, v4, v5⟩ := id hW
  have v6 := p2_24 hn.1 hn.2
  refine lv_aload_n F.1 F.2.1 dX7_steps_0 rfl (lv_at hl 0 rfl) ?_
  refine rr_bipush F dX7_steps_1 (by decide) ?_
  refine rr_iconst F dX7_steps_3 ?_
  refine lv_iload_n F.1 F.2.1 dX7_steps_4 rfl (lv_at hl 1 rfl) ?_
  refine rr_imul F (z := 5 * w) dX7_steps_5 (by first | rfl | omega) ?_
  refine rr_iadd F (z := 97 + (5 * w)) dX7_steps_6 (by first | rfl | omega) ?_
  refine rr_iconst F dX7_steps_7 ?_
  refine rr_iadd F (z := (97 + (5 * w)) + 0) dX7_steps_8 (by first | rfl | omega) ?_
  refine lv_aload_n F.1 F.2.1 dX7_steps_9 rfl (lv_at hl 0 rfl) ?_
  refine lv_aload_n F.1 F.2.1 dX7_steps_10 rfl (lv_at hl 0 rfl) ?_
  refine lv_iload_n F.1 F.2.1 dX7_steps_11 rfl (lv_at hl 1 rfl) ?_
  refine rr_iconst F dX7_steps_12 ?_
  refine rr_rdS (rest := [.ref ro, vI ((97 + (5 * w)) + 0), .ref ro]) F hK (c_X7_of l D cy ro a w 0 (by first | assumption | omega | exact ⟨by omega, by omega⟩) (by first | assumption | omega | exact ⟨by omega, by omega⟩)) hP sf_X7_of tw1076 ⟨Nat.le_of_ble_eq_true rfl, Nat.le_of_ble_eq_true rfl⟩ hl rfl (Nat.le_of_ble_eq_true rfl) dX7_steps_13 ⟨Nat.zero_le _, Nat.zero_le _⟩ ?_
  refine lv_aload_n F.1 F.2.1 dX7_steps_16 rfl (lv_at hl 0 rfl) ?_
  refine lv_iload_n F.1 F.2.1 dX7_steps_17 rfl (lv_at hl 1 rfl) ?_
  refine rr_iconst F dX7_steps_18 ?_
  refine rr_rdS (rest := [vI (a (97 + 5 * w + 0)), .ref ro, vI ((97 + (5 * w)) + 0), .ref ro]) F hK (c_X7_of l D cy ro a w 1 (by first | assumption | omega | exact ⟨by omega, by omega⟩) (by first | assumption | omega | exact ⟨by omega, by omega⟩)) hP sf_X7_of tw1076 ⟨Nat.le_of_ble_eq_true rfl, Nat.le_of_ble_eq_true rfl⟩ hl rfl (Nat.le_of_ble_eq_true rfl) dX7_steps_19 ⟨Nat.zero_le _, Nat.zero_le _⟩ ?_
  refine lv_aload_n F.1 F.2.1 dX7_steps_22 rfl (lv_at hl 0 rfl) ?_
  refine lv_iload_n F.1 F.2.1 dX7_steps_23 rfl (lv_at hl 1 rfl) ?_
  refine rr_iconst F dX7_steps_24 ?_
  refine rr_rdS (rest := [vI (a (97 + 5 * w + 1)), vI (a (97 + 5 * w + 0)), .ref ro, vI ((97 + (5 * w)) + 0), .ref ro]) F hK (c_X7_of l D cy ro a w 2 (by first | assumption | omega | exact ⟨by omega, by omega⟩) (by first | assumption | omega | exact ⟨by omega, by omega⟩)) hP sf_X7_of tw1076 ⟨Nat.le_of_ble_eq_true rfl, Nat.le_of_ble_eq_true rfl⟩ hl rfl (Nat.le_of_ble_eq_true rfl) dX7_steps_25 ⟨Nat.zero_le _, Nat.zero_le _⟩ ?_
  refine rr_rdS (rest := [vI ((97 + (5 * w)) + 0), .ref ro]) F hK (c_X7_off l D cy ro a (a (97 + 5 * w + 0)) (a (97 + 5 * w + 1)) (a (97 + 5 * w + 2)) (by first | assumption | omega | exact ⟨by omega, by omega⟩) (by first | assumption | omega | exact ⟨by omega, by omega⟩) (by first | assumption | omega | exact ⟨by omega, by omega⟩) (by first | assumption | omega | exact ⟨by omega, by omega⟩)) hP sf_X7_off tw962 ⟨Nat.le_of_ble_eq_true rfl, Nat.le_of_ble_eq_true rfl⟩ hl rfl (Nat.le_of_ble_eq_true rfl) dX7_steps_28 ⟨Nat.zero_le _, Nat.zero_le _⟩ ?_
  have q_28_0 := (off_rng (n := a 0) (by omega) (a (97 + 5 * w + 0)) (a (97 + 5 * w + 1)) (a (97 + 5 * w + 2)))
  refine rr_iast F hK hP hD hS 0 rfl (by omega) (by omega) (by decide) dX7_steps_31 (fun H locs hP hD hS => ?_)
  have hP : va_P D vwCl [(ro, .inl (cy 1, 118, .inl (iA (updZ a ((97 + (5 * w)) + 0) (off (a 0) (a (97 + 5 * w + 0)) (a (97 + 5 * w + 1)) (a (97 + 5 * w + 2)))))))] H := hP
  have hD : va_D _ [(ro, .inl (cy 1, 118, .inl (iA (updZ a ((97 + (5 * w)) + 0) (off (a 0) (a (97 + 5 * w + 0)) (a (97 + 5 * w + 1)) (a (97 + 5 * w + 2)))))))] := hD
  have o0 := off_rng (n := a 0) (by omega) (a (97 + 5 * w + 0)) (a (97 + 5 * w + 1)) (a (97 + 5 * w + 2))
  generalize hB : updZ a (97 + 5 * w + 0) (off (a 0) (a (97 + 5 * w + 0)) (a (97 + 5 * w + 1)) (a (97 + 5 * w + 2))) = B at hP hD
  have b0 : B 0 = a 0 := by rw [← hB, updZ_n (by omega)]
  have bp : B (97 + 5 * w + 0) = off (a 0) (a (97 + 5 * w + 0)) (a (97 + 5 * w + 1)) (a (97 + 5 * w + 2)) := by rw [← hB, updZ_s]
  have b1 : B (97 + 5 * w + 1) = a (97 + 5 * w + 1) := by rw [← hB, updZ_n (by omega)]
  have b2 : B (97 + 5 * w + 2) = a (97 + 5 * w + 2) := by rw [← hB, updZ_n (by omega)]
  have b3 : B (97 + 5 * w + 3) = a (97 + 5 * w + 3) := by rw [← hB, updZ_n (by omega)]
  have b4 : B (97 + 5 * w + 4) = a (97 + 5 * w + 4) := by rw [← hB, updZ_n (by omega)]
  refine lv_aload_n F.1 F.2.1 dX7_steps_32 rfl (lv_at hl 0 rfl) ?_
  refine lv_iload_n F.1 F.2.1 dX7_steps_33 rfl (lv_at hl 1 rfl) ?_
  refine rr_wrS (rest := []) (wr := []) (ws2 := [(ro, .inl (cy 1, 118, .inl (iA (updZ B (97 + 5 * w + 4) (bor (B (97 + 5 * w + 4)) (vw (B 0) (B (97 + 5 * w + 0)) (B (97 + 5 * w + 1)) (B (97 + 5 * w + 3))))))))]) F hK (c_X7_sees l D cy ro B w (by first | assumption | omega | exact ⟨by omega, by omega⟩) (by omega) (by rw [b0, bp, b1, b2, b3, b4]; exact ⟨o0, v2, v3, v4, v5⟩)) hP hD hS hA sf_X7_sees tw1149 ⟨Nat.le_of_ble_eq_true rfl, Nat.le_of_ble_eq_true rfl⟩ hl rfl (Nat.le_of_ble_eq_true rfl) dX7_steps_34 ⟨Nat.zero_le _, Nat.zero_le _⟩ [0] [] [0] rfl rfl (by decide) (by decide) (by decide) rfl rfl (by decide) (fun H locs hP hD hS => ?_)
  have hP : va_P D vwCl [(ro, .inl (cy 1, 118, .inl (iA (updZ B (97 + 5 * w + 4) (bor (B (97 + 5 * w + 4)) (vw (B 0) (B (97 + 5 * w + 0)) (B (97 + 5 * w + 1)) (B (97 + 5 * w + 3))))))))] H := hP
  have hD : va_D _ [(ro, .inl (cy 1, 118, .inl (iA (updZ B (97 + 5 * w + 4) (bor (B (97 + 5 * w + 4)) (vw (B 0) (B (97 + 5 * w + 0)) (B (97 + 5 * w + 1)) (B (97 + 5 * w + 3))))))))] := hD
  exact rr_wvret F hr hlocks dX7_steps_37 hP hS (by rw [b0, bp, b1, b3, b4, ← hB])
set_option maxRecDepth 100000 in
set_option maxHeartbeats 4000000 in
theorem c_X7_sendsAway (l : Launch) (D : va_G) (cy : Nat → ClassId) (ro : Nat) (a : Int → Int)  : Wr l yX7_sendsAway cX7_sendsAway 2 (none) 0 [.ref ro] D cy [(ro, .inl (cy 1, 118, .inl (iA a)))] [(ro, .inl (cy 1, 118, .inl (iA (zrZ a 96 117))))] none := by
  refine Wr.of RX7 rfl [(0, .ref ro)] rfl (by decide +kernel) (Nat.le_of_ble_eq_true rfl) ?_
  intro p e s m args below meth c F hr hlocks hK hP hD hS hA ls hl
  refine rr_bipush F dX7_sendsAway_0 (by decide) ?_
  refine lv_istore_n (lv' := [(1, vI 96), (0, .ref ro)]) F.1 F.2.1 dX7_sendsAway_2 rfl hl (by decide) rfl (fun ls hl => ?_)
  refine rr_loopW1 (fun k => (96 ≤ k) ∧ (k ≤ 117)) (fun k => (117 - k).toNat) (fun k => [(1, vI k), (0, .ref ro)]) (fun k => [(ro, .inl (cy 1, 118, .inl (iA (zrZ a 96 k))))]) ?_ 96 ⟨by omega, by omega⟩ (by rw [zrZ_0]; exact hP) (hD.like rfl) hS (lv_sub hl [0, 1] rfl)
  intro k hI ih_3 H locs ls hP hD hS hl
  obtain ⟨k0, k1⟩ := hI
  have hl : lv_has ls 2 [(1, vI k), (0, .ref ro)] := hl
  have hP : va_P D vwCl [(ro, .inl (cy 1, 118, .inl (iA (zrZ a 96 k))))] H := hP
  have hD : va_D _ [(ro, .inl (cy 1, 118, .inl (iA (zrZ a 96 k))))] := hD
  refine lv_iload_n F.1 F.2.1 dX7_sendsAway_3 rfl (lv_at hl 0 rfl) ?_
  refine rr_bipush F dX7_sendsAway_4 (by decide) ?_
  refine rr_icmp_ge F (tgt := 19) dX7_sendsAway_6 (by decide) ⟨by omega, by omega⟩ ⟨by omega, by omega⟩ (fun c_6 => ?_) (fun c_6 => ?_)
  · exact rr_wvret F hr hlocks dX7_sendsAway_19 hP hS (by rw [show k = 117 by omega])
  · refine lv_aload_n F.1 F.2.1 dX7_sendsAway_9 rfl (lv_at hl 1 rfl) ?_
    refine lv_iload_n F.1 F.2.1 dX7_sendsAway_10 rfl (lv_at hl 0 rfl) ?_
    refine rr_iconst F dX7_sendsAway_11 ?_
    refine rr_iast F hK hP hD hS 0 rfl (by omega) (by omega) (by decide) dX7_sendsAway_12 (fun H locs hP hD hS => ?_)
    rw [show updZ (zrZ a 96 k) k 0 = zrZ a 96 (k + 1) from zrZ_s (by omega)] at hP hD
    have hP : va_P D vwCl [(ro, .inl (cy 1, 118, .inl (iA (zrZ a 96 (k + 1)))))] H := hP
    have hD : va_D _ [(ro, .inl (cy 1, 118, .inl (iA (zrZ a 96 (k + 1)))))] := hD
    refine lv_iinc (v := iI (k + 1)) (lv' := [(1, vI (k + 1)), (0, .ref ro)]) F.1 F.2.1 dX7_sendsAway_13 hl (k := 0) rfl (iinc_ok (by first | rfl | omega)) (by decide) rfl (fun ls hl => ?_)
    refine lv_goto (tgt := 3) F.1 F.2.1 dX7_sendsAway_16 (by decide) ?_
    exact ih_3 (k + 1) ⟨by omega, by omega⟩ (show ((117 - (k + 1)).toNat) < ((117 - k).toNat) by omega) _ _ ls hP hD hS (lv_sub hl [0, 1] rfl)
set_option maxRecDepth 100000 in
set_option maxHeartbeats 4000000 in
theorem c_X7_carves (l : Launch) (D : va_G) (cy : Nat → ClassId) (ro : Nat) (a : Int → Int) (i c0 : Int) (hi : 0 ≤ i ∧ i < 24) : Wr l yX7_carves cX7_carves 4 (some FieldType.int) 0 [.ref ro, vI i, vI c0] D cy [(ro, .inl (cy 1, 118, .inl (iA a)))] [(ro, .inl (cy 1, 118, .inl (iA (updZ a (1 + i) c0))))] (some (vI (a (1 + i)))) := by
  refine Wr.of RX7 rfl [(0, .ref ro), (1, vI i), (2, vI c0)] rfl (by decide +kernel) (Nat.le_of_ble_eq_true rfl) ?_
  intro p e s m args below meth c F hr hlocks hK hP hD hS hA ls hl
  refine lv_aload_n F.1 F.2.1 dX7_carves_0 rfl (lv_at hl 0 rfl) ?_
  refine rr_iconst F dX7_carves_1 ?_
  refine lv_iload_n F.1 F.2.1 dX7_carves_2 rfl (lv_at hl 1 rfl) ?_
  refine rr_iadd F (z := 1 + i) dX7_carves_3 (by first | rfl | omega) ?_
  refine rr_iald F hK hP 0 rfl (by omega) (by omega) (by decide) dX7_carves_4 ?_
  refine lv_istore_n (lv' := [(3, vI (a (1 + i))), (0, .ref ro), (1, vI i), (2, vI c0)]) F.1 F.2.1 dX7_carves_5 rfl hl (by decide) rfl (fun ls hl => ?_)
  refine lv_aload_n F.1 F.2.1 dX7_carves_6 rfl (lv_at hl 1 rfl) ?_
  refine rr_iconst F dX7_carves_7 ?_
  refine lv_iload_n F.1 F.2.1 dX7_carves_8 rfl (lv_at hl 2 rfl) ?_
  refine rr_iadd F (z := 1 + i) dX7_carves_9 (by first | rfl | omega) ?_
  refine lv_iload_n F.1 F.2.1 dX7_carves_10 rfl (lv_at hl 3 rfl) ?_
  refine rr_iast F hK hP hD hS 0 rfl (by omega) (by omega) (by decide) dX7_carves_11 (fun H locs hP hD hS => ?_)
  have hP : va_P D vwCl [(ro, .inl (cy 1, 118, .inl (iA (updZ a (1 + i) c0))))] H := hP
  have hD : va_D _ [(ro, .inl (cy 1, 118, .inl (iA (updZ a (1 + i) c0))))] := hD
  refine lv_iload_n F.1 F.2.1 dX7_carves_12 rfl (lv_at hl 0 rfl) ?_
  exact rr_wiret F hr hlocks dX7_carves_13 hP hS (rfl) (by first | rfl | omega)
set_option maxRecDepth 100000 in
set_option maxHeartbeats 4000000 in
theorem c_X7_wears (l : Launch) (D : va_G) (cy : Nat → ClassId) (ro : Nat) (a : Int → Int) (i : Int) (hM : MR a) (hi : 0 ≤ i ∧ i < a 0) : Wr l yX7_wears cX7_wears 2 (some FieldType.int) 1 [.ref ro, vI i] D cy [(ro, .inl (cy 1, 118, .inl (iA a)))] [(ro, .inl (cy 1, 118, .inl (iA (updZ a (1 + i) (if a (1 + i) = 0 then 0 else 9)))))] (some (vI (cnt (fun j => (updZ a (1 + i) (if a (1 + i) = 0 then 0 else 9)) (1 + j) = 9) (a 0)))) := by
  refine Wr.of RX7 rfl [(0, .ref ro), (1, vI i)] rfl (by decide +kernel) (Nat.le_of_ble_eq_true rfl) ?_
  intro p e s m args below meth c F hr hlocks hK hP hD hS hA ls hl
  have hn0 := hM.n
  have hw0 := hM.nw
  have hc0 := hM.wc
  have hq := hM.q hi.1 hi.2
  refine lv_aload_n F.1 F.2.1 dX7_wears_0 rfl (lv_at hl 0 rfl) ?_
  refine rr_iconst F dX7_wears_1 ?_
  refine lv_iload_n F.1 F.2.1 dX7_wears_2 rfl (lv_at hl 1 rfl) ?_
  refine rr_iadd F (z := 1 + i) dX7_wears_3 (by first | rfl | omega) ?_
  refine lv_aload_n F.1 F.2.1 dX7_wears_4 rfl (lv_at hl 0 rfl) ?_
  refine rr_iconst F dX7_wears_5 ?_
  refine lv_iload_n F.1 F.2.1 dX7_wears_6 rfl (lv_at hl 1 rfl) ?_
  refine rr_iadd F (z := 1 + i) dX7_wears_7 (by first | rfl | omega) ?_
  refine rr_iald F hK hP 0 rfl (by omega) (by omega) (by decide) dX7_wears_8 ?_
  refine rr_if_ne F (tgt := 16) dX7_wears_9 (by decide) ⟨by omega, by omega⟩ (fun c_9 => ?_) (fun c_9 => ?_)
  · refine rr_bipush F dX7_wears_16 (by decide) ?_
    refine rr_iast F hK hP hD hS 0 rfl (by omega) (by omega) (by decide) dX7_wears_18 (fun H locs hP hD hS => ?_)
    rw [show updZ a (1 + i) 9 = updZ a (1 + i) (if a (1 + i) = 0 then 0 else 9) from by first | rw [if_pos (by assumption)] | rw [if_neg (by assumption)]] at hP hD
    have hP : va_P D vwCl [(ro, .inl (cy 1, 118, .inl (iA (updZ a (1 + i) (if a (1 + i) = 0 then 0 else 9)))))] H := hP
    have hD : va_D _ [(ro, .inl (cy 1, 118, .inl (iA (updZ a (1 + i) (if a (1 + i) = 0 then 0 else 9)))))] := hD
    have hM2 := MR_wear hM hi.1 hi.2
    generalize hB : updZ a (1 + i) (if a (1 + i) = 0 then 0 else 9) = B at hP hD hM2
    have b0 : B 0 = a 0 := by rw [← hB, updZ_n (by omega)]
    refine lv_aload_n F.1 F.2.1 dX7_wears_19 rfl (lv_at hl 0 rfl) ?_
    refine rr_rdS (rest := []) F hK (c_X7_worn l D cy ro B hM2) hP sf_X7_worn tw951 ⟨Nat.le_of_ble_eq_true rfl, Nat.le_of_ble_eq_true rfl⟩ hl rfl (Nat.le_of_ble_eq_true rfl) dX7_wears_20 ⟨Nat.zero_le _, Nat.zero_le _⟩ ?_
    exact rr_wiret F hr hlocks dX7_wears_23 hP hS (by first | rfl | rw [hB]) (by first | rw [b0] | rw [hB, b0])
  · refine rr_iconst F dX7_wears_12 ?_
    refine lv_goto (tgt := 18) F.1 F.2.1 dX7_wears_13 (by decide) ?_
    refine rr_iast F hK hP hD hS 0 rfl (by omega) (by omega) (by decide) dX7_wears_18 (fun H locs hP hD hS => ?_)
    rw [show updZ a (1 + i) 0 = updZ a (1 + i) (if a (1 + i) = 0 then 0 else 9) from by first | rw [if_pos (by assumption)] | rw [if_neg (by assumption)]] at hP hD
    have hP : va_P D vwCl [(ro, .inl (cy 1, 118, .inl (iA (updZ a (1 + i) (if a (1 + i) = 0 then 0 else 9)))))] H := hP
    have hD : va_D _ [(ro, .inl (cy 1, 118, .inl (iA (updZ a (1 + i) (if a (1 + i) = 0 then 0 else 9)))))] := hD
    have hM2 := MR_wear hM hi.1 hi.2
    generalize hB : updZ a (1 + i) (if a (1 + i) = 0 then 0 else 9) = B at hP hD hM2
    have b0 : B 0 = a 0 := by rw [← hB, updZ_n (by omega)]
    refine lv_aload_n F.1 F.2.1 dX7_wears_19 rfl (lv_at hl 0 rfl) ?_
    refine rr_rdS (rest := []) F hK (c_X7_worn l D cy ro B hM2) hP sf_X7_worn tw951 ⟨Nat.le_of_ble_eq_true rfl, Nat.le_of_ble_eq_true rfl⟩ hl rfl (Nat.le_of_ble_eq_true rfl) dX7_wears_20 ⟨Nat.zero_le _, Nat.zero_le _⟩ ?_
    exact rr_wiret F hr hlocks dX7_wears_23 hP hS (by first | rfl | rw [hB]) (by first | rw [b0] | rw [hB, b0])
set_option maxRecDepth 100000 in
set_option maxHeartbeats 4000000 in
theorem c_X7_inserts (l : Launch) (D : va_G) (cy : Nat → ClassId) (ro : Nat) (a : Int → Int) (i c0 : Int) (hn : 0 ≤ a 0 ∧ a 0 < 24) (hi : 0 ≤ i ∧ i ≤ a 0) : Wr l yX7_inserts cX7_inserts 4 (some FieldType.int) 1 [.ref ro, vI i, vI c0] D cy [(ro, .inl (cy 1, 118, .inl (iA a)))] [(ro, .inl (cy 1, 118, .inl (iA (zrZ (updZ (updZ (insZ a (1 + a 0) (1 + i)) (1 + i) c0) 0 (a 0 + 1)) 96 117))))] (some (vI (a 0 + 1))) := by
  refine Wr.of RX7 rfl [(0, .ref ro), (1, vI i), (2, vI c0)] rfl (by decide +kernel) (Nat.le_of_ble_eq_true rfl) ?_
  intro p e s m args below meth c F hr hlocks hK hP hD hS hA ls hl
  refine lv_aload_n F.1 F.2.1 dX7_inserts_0 rfl (lv_at hl 0 rfl) ?_
  refine rr_iconst F dX7_inserts_1 ?_
  refine rr_iald F hK hP 0 rfl (by omega) (by omega) (by decide) dX7_inserts_2 ?_
  refine lv_istore_n (lv' := [(3, vI (a 0)), (0, .ref ro), (1, vI i), (2, vI c0)]) F.1 F.2.1 dX7_inserts_3 rfl hl (by decide) rfl (fun ls hl => ?_)
  refine rr_loopW2 (fun (k : Int) (A : (Int → Int)) => (i ≤ k) ∧ (k ≤ a 0) ∧ (A = insZ a (1 + a 0) (1 + k))) (fun (k : Int) (A : (Int → Int)) => (k - i).toNat) (fun (k : Int) (A : (Int → Int)) => [(3, vI k), (0, .ref ro), (1, vI i), (2, vI c0)]) (fun (k : Int) (A : (Int → Int)) => [(ro, .inl (cy 1, 118, .inl (iA A)))]) ?_ (a 0) a ⟨by omega, by omega, insZ_0 a (1 + a 0)⟩ hP hD hS (lv_sub hl [0, 1, 2, 3] rfl)
  intro k A hI ih_4 H locs ls hP hD hS hl
  obtain ⟨k0, k1, hAA⟩ := hI
  have hl : lv_has ls 4 [(3, vI k), (0, .ref ro), (1, vI i), (2, vI c0)] := hl
  have hP : va_P D vwCl [(ro, .inl (cy 1, 118, .inl (iA A)))] H := hP
  have hD : va_D _ [(ro, .inl (cy 1, 118, .inl (iA A)))] := hD
  have a0 : A 0 = a 0 := by rw [hAA]; unfold insZ; rw [if_neg (by omega)]
  refine lv_iload_n F.1 F.2.1 dX7_inserts_4 rfl (lv_at hl 0 rfl) ?_
  refine lv_iload_n F.1 F.2.1 dX7_inserts_5 rfl (lv_at hl 2 rfl) ?_
  refine rr_icmp_le F (tgt := 27) dX7_inserts_6 (by decide) ⟨by omega, by omega⟩ ⟨by omega, by omega⟩ (fun c_6 => ?_) (fun c_6 => ?_)
  · refine lv_aload_n F.1 F.2.1 dX7_inserts_27 rfl (lv_at hl 1 rfl) ?_
    refine rr_iconst F dX7_inserts_28 ?_
    refine lv_iload_n F.1 F.2.1 dX7_inserts_29 rfl (lv_at hl 2 rfl) ?_
    refine rr_iadd F (z := 1 + i) dX7_inserts_30 (by first | rfl | omega) ?_
    refine lv_iload_n F.1 F.2.1 dX7_inserts_31 rfl (lv_at hl 3 rfl) ?_
    refine rr_iast F hK hP hD hS 0 rfl (by omega) (by omega) (by decide) dX7_inserts_32 (fun H locs hP hD hS => ?_)
    have hP : va_P D vwCl [(ro, .inl (cy 1, 118, .inl (iA (updZ A (1 + i) c0))))] H := hP
    have hD : va_D _ [(ro, .inl (cy 1, 118, .inl (iA (updZ A (1 + i) c0))))] := hD
    generalize hB : updZ A (1 + i) c0 = B at hP hD
    have b0 : B 0 = a 0 := by rw [← hB, updZ_n (by omega)]; exact a0
    refine lv_aload_n F.1 F.2.1 dX7_inserts_33 rfl (lv_at hl 1 rfl) ?_
    refine rr_iconst F dX7_inserts_34 ?_
    refine lv_dup2_11 F.1 F.2.1 dX7_inserts_35 rfl rfl ?_
    refine rr_iald F hK hP 0 rfl (by omega) (by omega) (by decide) dX7_inserts_36 ?_
    refine rr_iconst F dX7_inserts_37 ?_
    refine rr_iadd F (z := a 0 + 1) dX7_inserts_38 (by omega) ?_
    refine rr_iast F hK hP hD hS 0 rfl (by omega) (by omega) (by decide) dX7_inserts_39 (fun H locs hP hD hS => ?_)
    have hP : va_P D vwCl [(ro, .inl (cy 1, 118, .inl (iA (updZ B 0 (a 0 + 1)))))] H := hP
    have hD : va_D _ [(ro, .inl (cy 1, 118, .inl (iA (updZ B 0 (a 0 + 1)))))] := hD
    generalize hC : updZ B 0 (a 0 + 1) = C at hP hD
    have c0_ : C 0 = a 0 + 1 := by rw [← hC, updZ_s]
    refine lv_aload_n F.1 F.2.1 dX7_inserts_40 rfl (lv_at hl 1 rfl) ?_
    refine rr_wrS (rest := []) (wr := []) (ws2 := [(ro, .inl (cy 1, 118, .inl (iA (zrZ C 96 117))))]) F hK (c_X7_sendsAway l D cy ro C ) hP hD hS hA sf_X7_sendsAway tw1100 ⟨Nat.le_of_ble_eq_true rfl, Nat.le_of_ble_eq_true rfl⟩ hl rfl (Nat.le_of_ble_eq_true rfl) dX7_inserts_41 ⟨Nat.zero_le _, Nat.zero_le _⟩ [0] [] [0] rfl rfl (by decide) (by decide) (by decide) rfl rfl (by decide) (fun H locs hP hD hS => ?_)
    have hP : va_P D vwCl [(ro, .inl (cy 1, 118, .inl (iA (zrZ C 96 117))))] H := hP
    have hD : va_D _ [(ro, .inl (cy 1, 118, .inl (iA (zrZ C 96 117))))] := hD
    refine lv_aload_n F.1 F.2.1 dX7_inserts_44 rfl (lv_at hl 1 rfl) ?_
    refine rr_iconst F dX7_inserts_45 ?_
    refine rr_iald F hK hP 0 rfl (by omega) (by omega) (by decide) dX7_inserts_46 ?_
    exact rr_wiret F hr hlocks dX7_inserts_47 hP hS (by rw [← hC, ← hB, hAA, show k = i by omega]) (by unfold zrZ; rw [if_neg (by omega)]; exact c0_)
  · refine lv_aload_n F.1 F.2.1 dX7_inserts_9 rfl (lv_at hl 1 rfl) ?_
    refine rr_iconst F dX7_inserts_10 ?_
    refine lv_iload_n F.1 F.2.1 dX7_inserts_11 rfl (lv_at hl 0 rfl) ?_
    refine rr_iadd F (z := 1 + k) dX7_inserts_12 (by first | rfl | omega) ?_
    refine lv_aload_n F.1 F.2.1 dX7_inserts_13 rfl (lv_at hl 1 rfl) ?_
    refine rr_iconst F dX7_inserts_14 ?_
    refine lv_iload_n F.1 F.2.1 dX7_inserts_15 rfl (lv_at hl 0 rfl) ?_
    refine rr_iadd F (z := 1 + k) dX7_inserts_16 (by first | rfl | omega) ?_
    refine rr_iconst F dX7_inserts_17 ?_
    refine rr_isub F (z := (1 + k) - 1) dX7_inserts_18 (by first | rfl | omega) ?_
    refine rr_iald F hK hP 0 rfl (by omega) (by omega) (by decide) dX7_inserts_19 ?_
    refine rr_iast F hK hP hD hS 0 rfl (by omega) (by omega) (by decide) dX7_inserts_20 (fun H locs hP hD hS => ?_)
    have hP : va_P D vwCl [(ro, .inl (cy 1, 118, .inl (iA (updZ A (1 + k) (A ((1 + k) - 1))))))] H := hP
    have hD : va_D _ [(ro, .inl (cy 1, 118, .inl (iA (updZ A (1 + k) (A ((1 + k) - 1))))))] := hD
    refine lv_iinc (v := iI (k - 1)) (lv' := [(3, vI (k - 1)), (0, .ref ro), (1, vI i), (2, vI c0)]) F.1 F.2.1 dX7_inserts_21 hl (k := 0) rfl (iinc_ok (by first | rfl | omega)) (by decide) rfl (fun ls hl => ?_)
    refine lv_goto (tgt := 4) F.1 F.2.1 dX7_inserts_24 (by decide) ?_
    exact ih_4 (k - 1) (updZ A (1 + k) (A ((1 + k) - 1))) ⟨by omega, by omega, by rw [hAA, show 1 + (k - 1) = (1 + k) - 1 by omega]; exact insZ_s (by omega)⟩ (show (((k - 1) - i).toNat) < ((k - i).toNat) by omega) _ _ ls hP hD hS (lv_sub hl [0, 1, 2, 3] rfl)
set_option maxRecDepth 100000 in
set_option maxHeartbeats 4000000 in
theorem c_X7_erases (l : Launch) (D : va_G) (cy : Nat → ClassId) (ro : Nat) (a : Int → Int) (i : Int) (hn : 0 < a 0 ∧ a 0 ≤ 24) (hi : 0 ≤ i ∧ i < a 0) : Wr l yX7_erases cX7_erases 3 (some FieldType.int) 1 [.ref ro, vI i] D cy [(ro, .inl (cy 1, 118, .inl (iA a)))] [(ro, .inl (cy 1, 118, .inl (iA (zrZ (updZ (delZ (updZ a 0 (a 0 - 1)) (1 + i) (1 + (a 0 - 1))) (1 + (a 0 - 1)) 0) 96 117))))] (some (vI (a 0 - 1))) := by
  refine Wr.of RX7 rfl [(0, .ref ro), (1, vI i)] rfl (by decide +kernel) (Nat.le_of_ble_eq_true rfl) ?_
  intro p e s m args below meth c F hr hlocks hK hP hD hS hA ls hl
  refine lv_aload_n F.1 F.2.1 dX7_erases_0 rfl (lv_at hl 0 rfl) ?_
  refine rr_iconst F dX7_erases_1 ?_
  refine lv_dup2_11 F.1 F.2.1 dX7_erases_2 rfl rfl ?_
  refine rr_iald F hK hP 0 rfl (by omega) (by omega) (by decide) dX7_erases_3 ?_
  refine rr_iconst F dX7_erases_4 ?_
  refine rr_isub F (z := (a 0) - 1) dX7_erases_5 (by first | rfl | omega) ?_
  refine rr_iast F hK hP hD hS 0 rfl (by omega) (by omega) (by decide) dX7_erases_6 (fun H locs hP hD hS => ?_)
  have hP : va_P D vwCl [(ro, .inl (cy 1, 118, .inl (iA (updZ a 0 ((a 0) - 1)))))] H := hP
  have hD : va_D _ [(ro, .inl (cy 1, 118, .inl (iA (updZ a 0 ((a 0) - 1)))))] := hD
  refine lv_iload_n F.1 F.2.1 dX7_erases_7 rfl (lv_at hl 1 rfl) ?_
  refine lv_istore_n (lv' := [(2, vI i), (0, .ref ro), (1, vI i)]) F.1 F.2.1 dX7_erases_8 rfl hl (by decide) rfl (fun ls hl => ?_)
  refine rr_loopW2 (fun (k : Int) (A : (Int → Int)) => (i ≤ k) ∧ (k ≤ a 0 - 1) ∧ (A = delZ (updZ a 0 (a 0 - 1)) (1 + i) (1 + k))) (fun (k : Int) (A : (Int → Int)) => (a 0 - k).toNat) (fun (k : Int) (A : (Int → Int)) => [(2, vI k), (0, .ref ro), (1, vI i)]) (fun (k : Int) (A : (Int → Int)) => [(ro, .inl (cy 1, 118, .inl (iA A)))]) ?_ i (updZ a 0 (a 0 - 1)) ⟨by omega, by omega, delZ_0 _ (1 + i)⟩ hP hD hS (lv_sub hl [0, 1, 2] rfl)
  intro k A hI ih_9 H locs ls hP hD hS hl
  obtain ⟨k0, k1, hAA⟩ := hI
  have hl : lv_has ls 3 [(2, vI k), (0, .ref ro), (1, vI i)] := hl
  have hP : va_P D vwCl [(ro, .inl (cy 1, 118, .inl (iA A)))] H := hP
  have hD : va_D _ [(ro, .inl (cy 1, 118, .inl (iA A)))] := hD
  have a0 : A 0 = a 0 - 1 := by rw [hAA]; unfold delZ; rw [if_neg (by omega), updZ_s]
  refine lv_iload_n F.1 F.2.1 dX7_erases_9 rfl (lv_at hl 0 rfl) ?_
  refine lv_aload_n F.1 F.2.1 dX7_erases_10 rfl (lv_at hl 1 rfl) ?_
  refine rr_iconst F dX7_erases_11 ?_
  refine rr_iald F hK hP 0 rfl (by omega) (by omega) (by decide) dX7_erases_12 ?_
  refine rr_icmp_ge F (tgt := 34) dX7_erases_13 (by decide) ⟨by omega, by omega⟩ ⟨by omega, by omega⟩ (fun c_13 => ?_) (fun c_13 => ?_)
  · refine lv_aload_n F.1 F.2.1 dX7_erases_34 rfl (lv_at hl 1 rfl) ?_
    refine rr_iconst F dX7_erases_35 ?_
    refine lv_aload_n F.1 F.2.1 dX7_erases_36 rfl (lv_at hl 1 rfl) ?_
    refine rr_iconst F dX7_erases_37 ?_
    refine rr_iald F hK hP 0 rfl (by omega) (by omega) (by decide) dX7_erases_38 ?_
    refine rr_iadd F (z := 1 + (A 0)) dX7_erases_39 (by first | rfl | omega) ?_
    refine rr_iconst F dX7_erases_40 ?_
    refine rr_iast F hK hP hD hS 0 rfl (by omega) (by omega) (by decide) dX7_erases_41 (fun H locs hP hD hS => ?_)
    have hP : va_P D vwCl [(ro, .inl (cy 1, 118, .inl (iA (updZ A (1 + (A 0)) 0))))] H := hP
    have hD : va_D _ [(ro, .inl (cy 1, 118, .inl (iA (updZ A (1 + (A 0)) 0))))] := hD
    generalize hB : updZ A (1 + A 0) 0 = B at hP hD
    have b0 : B 0 = a 0 - 1 := by rw [← hB, updZ_n (by omega)]; exact a0
    refine lv_aload_n F.1 F.2.1 dX7_erases_42 rfl (lv_at hl 1 rfl) ?_
    refine rr_wrS (rest := []) (wr := []) (ws2 := [(ro, .inl (cy 1, 118, .inl (iA (zrZ B 96 117))))]) F hK (c_X7_sendsAway l D cy ro B ) hP hD hS hA sf_X7_sendsAway tw1100 ⟨Nat.le_of_ble_eq_true rfl, Nat.le_of_ble_eq_true rfl⟩ hl rfl (Nat.le_of_ble_eq_true rfl) dX7_erases_43 ⟨Nat.zero_le _, Nat.zero_le _⟩ [0] [] [0] rfl rfl (by decide) (by decide) (by decide) rfl rfl (by decide) (fun H locs hP hD hS => ?_)
    have hP : va_P D vwCl [(ro, .inl (cy 1, 118, .inl (iA (zrZ B 96 117))))] H := hP
    have hD : va_D _ [(ro, .inl (cy 1, 118, .inl (iA (zrZ B 96 117))))] := hD
    refine lv_aload_n F.1 F.2.1 dX7_erases_46 rfl (lv_at hl 1 rfl) ?_
    refine rr_iconst F dX7_erases_47 ?_
    refine rr_iald F hK hP 0 rfl (by omega) (by omega) (by decide) dX7_erases_48 ?_
    exact rr_wiret F hr hlocks dX7_erases_49 hP hS (by rw [← hB, a0, hAA, show k = a 0 - 1 by omega]) (by unfold zrZ; rw [if_neg (by omega)]; exact b0)
  · refine lv_aload_n F.1 F.2.1 dX7_erases_16 rfl (lv_at hl 1 rfl) ?_
    refine rr_iconst F dX7_erases_17 ?_
    refine lv_iload_n F.1 F.2.1 dX7_erases_18 rfl (lv_at hl 0 rfl) ?_
    refine rr_iadd F (z := 1 + k) dX7_erases_19 (by first | rfl | omega) ?_
    refine lv_aload_n F.1 F.2.1 dX7_erases_20 rfl (lv_at hl 1 rfl) ?_
    refine rr_iconst F dX7_erases_21 ?_
    refine lv_iload_n F.1 F.2.1 dX7_erases_22 rfl (lv_at hl 0 rfl) ?_
    refine rr_iadd F (z := 1 + k) dX7_erases_23 (by first | rfl | omega) ?_
    refine rr_iconst F dX7_erases_24 ?_
    refine rr_iadd F (z := (1 + k) + 1) dX7_erases_25 (by first | rfl | omega) ?_
    refine rr_iald F hK hP 0 rfl (by omega) (by omega) (by decide) dX7_erases_26 ?_
    refine rr_iast F hK hP hD hS 0 rfl (by omega) (by omega) (by decide) dX7_erases_27 (fun H locs hP hD hS => ?_)
    have hP : va_P D vwCl [(ro, .inl (cy 1, 118, .inl (iA (updZ A (1 + k) (A ((1 + k) + 1))))))] H := hP
    have hD : va_D _ [(ro, .inl (cy 1, 118, .inl (iA (updZ A (1 + k) (A ((1 + k) + 1))))))] := hD
    refine lv_iinc (v := iI (k + 1)) (lv' := [(2, vI (k + 1)), (0, .ref ro), (1, vI i)]) F.1 F.2.1 dX7_erases_28 hl (k := 0) rfl (iinc_ok (by first | rfl | omega)) (by decide) rfl (fun ls hl => ?_)
    refine lv_goto (tgt := 9) F.1 F.2.1 dX7_erases_31 (by decide) ?_
    exact ih_9 (k + 1) (updZ A (1 + k) (A ((1 + k) + 1))) ⟨by omega, by omega, by rw [hAA]; have e := delZ_s (g := updZ a 0 (a 0 - 1)) (i := 1 + i) (k := 1 + k + 1) (by omega); rw [show (1 + k + 1 - 1 : Int) = 1 + k by omega, show (1 + k + 1 + 1 - 1 : Int) = 1 + (k + 1) by omega] at e; exact e⟩ (show ((a 0 - (k + 1)).toNat) < ((a 0 - k).toNat) by omega) _ _ ls hP hD hS (lv_sub hl [0, 1, 2] rfl)
set_option maxRecDepth 100000 in
set_option maxHeartbeats 4000000 in
theorem c_X7_comes (l : Launch) (D : va_G) (cy : Nat → ClassId) (ro : Nat) (a : Int → Int) (i d pa si : Int) (hn : 0 < a 0 ∧ a 0 ≤ 24) (hw : 0 ≤ a 96 ∧ a 96 < 4) (hi : 0 ≤ i ∧ i < a 0) (hd : 0 ≤ d ∧ d ≤ 1) (hp : 1 ≤ pa ∧ pa ≤ 3) (hs : 1 ≤ si ∧ si ≤ 5) : Wr l yX7_comes cX7_comes 7 (some FieldType.int) 2 [.ref ro, vI i, vI d, vI pa, vI si] D cy [(ro, .inl (cy 1, 118, .inl (iA a)))] [(ro, .inl (cy 1, 118, .inl (iA (updZ (updZ (updZ (updZ (updZ (updZ (updZ a (97 + 5 * a 96 + 0) i) (97 + 5 * a 96 + 1) d) (97 + 5 * a 96 + 2) pa) (97 + 5 * a 96 + 3) si) (97 + 5 * a 96 + 4) 0) 96 (a 96 + 1)) (97 + 5 * a 96 + 4) (bor 0 (vw (a 0) i d si))))))] (some (vI (a 96))) := by
  refine Wr.of RX7 rfl [(0, .ref ro), (1, vI i), (2, vI d), (3, vI pa), (4, vI si)] rfl (by decide +kernel) (Nat.le_of_ble_eq_true rfl) ?_
  intro p e s m args below meth c F hr hlocks hK hP hD hS hA ls hl
  refine lv_aload_n F.1 F.2.1 dX7_comes_0 rfl (lv_at hl 0 rfl) ?_
  refine rr_bipush F dX7_comes_1 (by decide) ?_
  refine rr_iald F hK hP 0 rfl (by omega) (by omega) (by decide) dX7_comes_3 ?_
  refine lv_istore (lv' := [(5, vI (a 96)), (0, .ref ro), (1, vI i), (2, vI d), (3, vI pa), (4, vI si)]) F.1 F.2.1 dX7_comes_4 hl (by decide) rfl (fun ls hl => ?_)
  refine rr_bipush F dX7_comes_6 (by decide) ?_
  refine rr_iconst F dX7_comes_8 ?_
  refine lv_iload F.1 F.2.1 dX7_comes_9 (lv_at hl 0 rfl) ?_
  refine rr_imul F (z := 5 * (a 96)) dX7_comes_11 (by first | rfl | omega) ?_
  refine rr_iadd F (z := 97 + (5 * (a 96))) dX7_comes_12 (by first | rfl | omega) ?_
  refine lv_istore (lv' := [(6, vI (97 + (5 * (a 96)))), (5, vI (a 96)), (0, .ref ro), (1, vI i), (2, vI d), (3, vI pa), (4, vI si)]) F.1 F.2.1 dX7_comes_13 hl (by decide) rfl (fun ls hl => ?_)
  refine lv_aload_n F.1 F.2.1 dX7_comes_15 rfl (lv_at hl 2 rfl) ?_
  refine lv_iload F.1 F.2.1 dX7_comes_16 (lv_at hl 0 rfl) ?_
  refine rr_iconst F dX7_comes_18 ?_
  refine rr_iadd F (z := (97 + (5 * (a 96))) + 0) dX7_comes_19 (by first | rfl | omega) ?_
  refine lv_iload_n F.1 F.2.1 dX7_comes_20 rfl (lv_at hl 3 rfl) ?_
  refine rr_iast F hK hP hD hS 0 rfl (by omega) (by omega) (by decide) dX7_comes_21 (fun H locs hP hD hS => ?_)
  have hP : va_P D vwCl [(ro, .inl (cy 1, 118, .inl (iA (updZ a ((97 + (5 * (a 96))) + 0) i))))] H := hP
  have hD : va_D _ [(ro, .inl (cy 1, 118, .inl (iA (updZ a ((97 + (5 * (a 96))) + 0) i))))] := hD
  refine lv_aload_n F.1 F.2.1 dX7_comes_22 rfl (lv_at hl 2 rfl) ?_
  refine lv_iload F.1 F.2.1 dX7_comes_23 (lv_at hl 0 rfl) ?_
  refine rr_iconst F dX7_comes_25 ?_
  refine rr_iadd F (z := (97 + (5 * (a 96))) + 1) dX7_comes_26 (by first | rfl | omega) ?_
  refine lv_iload_n F.1 F.2.1 dX7_comes_27 rfl (lv_at hl 4 rfl) ?_
  refine rr_iast F hK hP hD hS 0 rfl (by omega) (by omega) (by decide) dX7_comes_28 (fun H locs hP hD hS => ?_)
  have hP : va_P D vwCl [(ro, .inl (cy 1, 118, .inl (iA (updZ (updZ a ((97 + (5 * (a 96))) + 0) i) ((97 + (5 * (a 96))) + 1) d))))] H := hP
  have hD : va_D _ [(ro, .inl (cy 1, 118, .inl (iA (updZ (updZ a ((97 + (5 * (a 96))) + 0) i) ((97 + (5 * (a 96))) + 1) d))))] := hD
  refine lv_aload_n F.1 F.2.1 dX7_comes_29 rfl (lv_at hl 2 rfl) ?_
  refine lv_iload F.1 F.2.1 dX7_comes_30 (lv_at hl 0 rfl) ?_
  refine rr_iconst F dX7_comes_32 ?_
  refine rr_iadd F (z := (97 + (5 * (a 96))) + 2) dX7_comes_33 (by first | rfl | omega) ?_
  refine lv_iload_n F.1 F.2.1 dX7_comes_34 rfl (lv_at hl 5 rfl) ?_
  refine rr_iast F hK hP hD hS 0 rfl (by omega) (by omega) (by decide) dX7_comes_35 (fun H locs hP hD hS => ?_)
  have hP : va_P D vwCl [(ro, .inl (cy 1, 118, .inl (iA (updZ (updZ (updZ a ((97 + (5 * (a 96))) + 0) i) ((97 + (5 * (a 96))) + 1) d) ((97 + (5 * (a 96))) + 2) pa))))] H := hP
  have hD : va_D _ [(ro, .inl (cy 1, 118, .inl (iA (updZ (updZ (updZ a ((97 + (5 * (a 96))) + 0) i) ((97 + (5 * (a 96))) + 1) d) ((97 + (5 * (a 96))) + 2) pa))))] := hD
  refine lv_aload_n F.1 F.2.1 dX7_comes_36 rfl (lv_at hl 2 rfl) ?_
  refine lv_iload F.1 F.2.1 dX7_comes_37 (lv_at hl 0 rfl) ?_
  refine rr_iconst F dX7_comes_39 ?_
  refine rr_iadd F (z := (97 + (5 * (a 96))) + 3) dX7_comes_40 (by first | rfl | omega) ?_
  refine lv_iload F.1 F.2.1 dX7_comes_41 (lv_at hl 6 rfl) ?_
  refine rr_iast F hK hP hD hS 0 rfl (by omega) (by omega) (by decide) dX7_comes_43 (fun H locs hP hD hS => ?_)
  have hP : va_P D vwCl [(ro, .inl (cy 1, 118, .inl (iA (updZ (updZ (updZ (updZ a ((97 + (5 * (a 96))) + 0) i) ((97 + (5 * (a 96))) + 1) d) ((97 + (5 * (a 96))) + 2) pa) ((97 + (5 * (a 96))) + 3) si))))] H := hP
  have hD : va_D _ [(ro, .inl (cy 1, 118, .inl (iA (updZ (updZ (updZ (updZ a ((97 + (5 * (a 96))) + 0) i) ((97 + (5 * (a 96))) + 1) d) ((97 + (5 * (a 96))) + 2) pa) ((97 + (5 * (a 96))) + 3) si))))] := hD
  refine lv_aload_n F.1 F.2.1 dX7_comes_44 rfl (lv_at hl 2 rfl) ?_
  refine lv_iload F.1 F.2.1 dX7_comes_45 (lv_at hl 0 rfl) ?_
  refine rr_iconst F dX7_comes_47 ?_
  refine rr_iadd F (z := (97 + (5 * (a 96))) + 4) dX7_comes_48 (by first | rfl | omega) ?_
  refine rr_iconst F dX7_comes_49 ?_
  refine rr_iast F hK hP hD hS 0 rfl (by omega) (by omega) (by decide) dX7_comes_50 (fun H locs hP hD hS => ?_)
  have hP : va_P D vwCl [(ro, .inl (cy 1, 118, .inl (iA (updZ (updZ (updZ (updZ (updZ a ((97 + (5 * (a 96))) + 0) i) ((97 + (5 * (a 96))) + 1) d) ((97 + (5 * (a 96))) + 2) pa) ((97 + (5 * (a 96))) + 3) si) ((97 + (5 * (a 96))) + 4) 0))))] H := hP
  have hD : va_D _ [(ro, .inl (cy 1, 118, .inl (iA (updZ (updZ (updZ (updZ (updZ a ((97 + (5 * (a 96))) + 0) i) ((97 + (5 * (a 96))) + 1) d) ((97 + (5 * (a 96))) + 2) pa) ((97 + (5 * (a 96))) + 3) si) ((97 + (5 * (a 96))) + 4) 0))))] := hD
  refine lv_aload_n F.1 F.2.1 dX7_comes_51 rfl (lv_at hl 2 rfl) ?_
  refine rr_bipush F dX7_comes_52 (by decide) ?_
  refine lv_dup2_11 F.1 F.2.1 dX7_comes_54 rfl rfl ?_
  refine rr_iald F hK hP 0 rfl (by omega) (by omega) (by decide) dX7_comes_55 ?_
  refine rr_iconst F dX7_comes_56 ?_
  refine rr_iadd F (z := a 96 + 1) dX7_comes_57 (by rw [updZ_n (by omega), updZ_n (by omega), updZ_n (by omega), updZ_n (by omega), updZ_n (by omega)]) ?_
  refine rr_iast F hK hP hD hS 0 rfl (by omega) (by omega) (by decide) dX7_comes_58 (fun H locs hP hD hS => ?_)
  have hP : va_P D vwCl [(ro, .inl (cy 1, 118, .inl (iA (updZ (updZ (updZ (updZ (updZ (updZ a ((97 + (5 * (a 96))) + 0) i) ((97 + (5 * (a 96))) + 1) d) ((97 + (5 * (a 96))) + 2) pa) ((97 + (5 * (a 96))) + 3) si) ((97 + (5 * (a 96))) + 4) 0) 96 (a 96 + 1)))))] H := hP
  have hD : va_D _ [(ro, .inl (cy 1, 118, .inl (iA (updZ (updZ (updZ (updZ (updZ (updZ a ((97 + (5 * (a 96))) + 0) i) ((97 + (5 * (a 96))) + 1) d) ((97 + (5 * (a 96))) + 2) pa) ((97 + (5 * (a 96))) + 3) si) ((97 + (5 * (a 96))) + 4) 0) 96 (a 96 + 1)))))] := hD
  generalize hB : updZ (updZ (updZ (updZ (updZ (updZ a (97 + 5 * a 96 + 0) i) (97 + 5 * a 96 + 1) d) (97 + 5 * a 96 + 2) pa) (97 + 5 * a 96 + 3) si) (97 + 5 * a 96 + 4) 0) 96 (a 96 + 1) = B at hP hD
  have v6 := p2_24 (n := a 0) (by omega) hn.2
  obtain ⟨b0, bp, b1, b2, b3, b4⟩ : B 0 = a 0 ∧ B (97 + 5 * a 96 + 0) = i ∧ B (97 + 5 * a 96 + 1) = d ∧ B (97 + 5 * a 96 + 2) = pa ∧ B (97 + 5 * a 96 + 3) = si ∧ B (97 + 5 * a 96 + 4) = 0 := by rw [← hB]; exact CM_at (by omega)
  refine lv_aload_n F.1 F.2.1 dX7_comes_59 rfl (lv_at hl 2 rfl) ?_
  refine lv_iload F.1 F.2.1 dX7_comes_60 (lv_at hl 1 rfl) ?_
  refine rr_wrS (rest := []) (wr := []) (ws2 := [(ro, .inl (cy 1, 118, .inl (iA (updZ B (97 + 5 * (a 96) + 4) (bor (B (97 + 5 * (a 96) + 4)) (vw (B 0) (B (97 + 5 * (a 96) + 0)) (B (97 + 5 * (a 96) + 1)) (B (97 + 5 * (a 96) + 3))))))))]) F hK (c_X7_sees l D cy ro B (a 96) (by first | assumption | omega | exact ⟨by omega, by omega⟩) (by omega) (by rw [b0, bp, b1, b2, b3, b4]; exact ⟨hi, hd, hp, hs, by omega⟩)) hP hD hS hA sf_X7_sees tw1149 ⟨Nat.le_of_ble_eq_true rfl, Nat.le_of_ble_eq_true rfl⟩ hl rfl (Nat.le_of_ble_eq_true rfl) dX7_comes_62 ⟨Nat.zero_le _, Nat.zero_le _⟩ [0] [] [0] rfl rfl (by decide) (by decide) (by decide) rfl rfl (by decide) (fun H locs hP hD hS => ?_)
  have hP : va_P D vwCl [(ro, .inl (cy 1, 118, .inl (iA (updZ B (97 + 5 * (a 96) + 4) (bor (B (97 + 5 * (a 96) + 4)) (vw (B 0) (B (97 + 5 * (a 96) + 0)) (B (97 + 5 * (a 96) + 1)) (B (97 + 5 * (a 96) + 3))))))))] H := hP
  have hD : va_D _ [(ro, .inl (cy 1, 118, .inl (iA (updZ B (97 + 5 * (a 96) + 4) (bor (B (97 + 5 * (a 96) + 4)) (vw (B 0) (B (97 + 5 * (a 96) + 0)) (B (97 + 5 * (a 96) + 1)) (B (97 + 5 * (a 96) + 3))))))))] := hD
  refine lv_iload F.1 F.2.1 dX7_comes_65 (lv_at hl 1 rfl) ?_
  exact rr_wiret F hr hlocks dX7_comes_67 hP hS (by rw [b0, bp, b1, b3, b4, ← hB]) (by first | rfl | omega)
set_option maxRecDepth 100000 in
set_option maxHeartbeats 4000000 in
theorem c_X7_turns (l : Launch) (D : va_G) (cy : Nat → ClassId) (ro : Nat) (a : Int → Int) (w : Int) (hw : 0 ≤ w ∧ w < 4) (hn : 0 ≤ a 0 ∧ a 0 ≤ 24) (hW : WK (a 0) (a (97 + 5 * w + 0)) (a (97 + 5 * w + 1)) (a (97 + 5 * w + 2)) (a (97 + 5 * w + 3)) (a (97 + 5 * w + 4))) : Wr l yX7_turns cX7_turns 2 (some FieldType.int) 2 [.ref ro, vI w] D cy [(ro, .inl (cy 1, 118, .inl (iA a)))] [(ro, .inl (cy 1, 118, .inl (iA (updZ (updZ a (97 + 5 * w + 1) (1 - a (97 + 5 * w + 1))) (97 + 5 * w + 4) (bor (a (97 + 5 * w + 4)) (vw (a 0) (a (97 + 5 * w + 0)) (1 - a (97 + 5 * w + 1)) (a (97 + 5 * w + 3))))))))] (some (vI (cnt (bit (bor (a (97 + 5 * w + 4)) (vw (a 0) (a (97 + 5 * w + 0)) (1 - a (97 + 5 * w + 1)) (a (97 + 5 * w + 3))))) 24))) := by
  refine Wr.of RX7 rfl [(0, .ref ro), (1, vI w)] rfl (by decide +kernel) (Nat.le_of_ble_eq_true rfl) ?_
  intro p e s m args below meth c F hr hlocks hK hP hD hS hA ls hl
  obtain ⟨v1, v2, v3, v4, v5⟩ := id hW
  have v6 := p2_24 hn.1 hn.2
  have vr := vw_lt (n := a 0) (pl := a (97 + 5 * w + 0)) (d := 1 - a (97 + 5 * w + 1)) (k := a (97 + 5 * w + 3)) (by omega) (by omega)
  have br := bor_lt v5 vr
  refine lv_aload_n F.1 F.2.1 dX7_turns_0 rfl (lv_at hl 0 rfl) ?_
  refine rr_bipush F dX7_turns_1 (by decide) ?_
  refine rr_iconst F dX7_turns_3 ?_
  refine lv_iload_n F.1 F.2.1 dX7_turns_4 rfl (lv_at hl 1 rfl) ?_
  refine rr_imul F (z := 5 * w) dX7_turns_5 (by first | rfl | omega) ?_
  refine rr_iadd F (z := 97 + (5 * w)) dX7_turns_6 (by first | rfl | omega) ?_
  refine rr_iconst F dX7_turns_7 ?_
  refine rr_iadd F (z := (97 + (5 * w)) + 1) dX7_turns_8 (by first | rfl | omega) ?_
  refine lv_dup2_11 F.1 F.2.1 dX7_turns_9 rfl rfl ?_
  refine rr_iald F hK hP 0 rfl (by omega) (by omega) (by decide) dX7_turns_10 ?_
  refine rr_iconst F dX7_turns_11 ?_
  refine rr_ixor F (z := 1 - a (97 + 5 * w + 1)) dX7_turns_12 ⟨by omega, by omega⟩ rfl ?_
  refine rr_iast F hK hP hD hS 0 rfl (by omega) (by omega) (by decide) dX7_turns_13 (fun H locs hP hD hS => ?_)
  have hP : va_P D vwCl [(ro, .inl (cy 1, 118, .inl (iA (updZ a ((97 + (5 * w)) + 1) (1 - a (97 + 5 * w + 1))))))] H := hP
  have hD : va_D _ [(ro, .inl (cy 1, 118, .inl (iA (updZ a ((97 + (5 * w)) + 1) (1 - a (97 + 5 * w + 1))))))] := hD
  generalize hB : updZ a (97 + 5 * w + 1) (1 - a (97 + 5 * w + 1)) = B at hP hD
  have b0 : B 0 = a 0 := by rw [← hB, updZ_n (by omega)]
  have bp : B (97 + 5 * w + 0) = a (97 + 5 * w + 0) := by rw [← hB, updZ_n (by omega)]
  have b1 : B (97 + 5 * w + 1) = 1 - a (97 + 5 * w + 1) := by rw [← hB, updZ_s]
  have b2 : B (97 + 5 * w + 2) = a (97 + 5 * w + 2) := by rw [← hB, updZ_n (by omega)]
  have b3 : B (97 + 5 * w + 3) = a (97 + 5 * w + 3) := by rw [← hB, updZ_n (by omega)]
  have b4 : B (97 + 5 * w + 4) = a (97 + 5 * w + 4) := by rw [← hB, updZ_n (by omega)]
  refine lv_aload_n F.1 F.2.1 dX7_turns_14 rfl (lv_at hl 0 rfl) ?_
  refine lv_iload_n F.1 F.2.1 dX7_turns_15 rfl (lv_at hl 1 rfl) ?_
  refine rr_wrS (rest := []) (wr := []) (ws2 := [(ro, .inl (cy 1, 118, .inl (iA (updZ B (97 + 5 * w + 4) (bor (B (97 + 5 * w + 4)) (vw (B 0) (B (97 + 5 * w + 0)) (B (97 + 5 * w + 1)) (B (97 + 5 * w + 3))))))))]) F hK (c_X7_sees l D cy ro B w (by first | assumption | omega | exact ⟨by omega, by omega⟩) (by omega) (by rw [b0, bp, b1, b2, b3, b4]; exact ⟨v1, by omega, v3, v4, v5⟩)) hP hD hS hA sf_X7_sees tw1149 ⟨Nat.le_of_ble_eq_true rfl, Nat.le_of_ble_eq_true rfl⟩ hl rfl (Nat.le_of_ble_eq_true rfl) dX7_turns_16 ⟨Nat.zero_le _, Nat.zero_le _⟩ [0] [] [0] rfl rfl (by decide) (by decide) (by decide) rfl rfl (by decide) (fun H locs hP hD hS => ?_)
  have hP : va_P D vwCl [(ro, .inl (cy 1, 118, .inl (iA (updZ B (97 + 5 * w + 4) (bor (B (97 + 5 * w + 4)) (vw (B 0) (B (97 + 5 * w + 0)) (B (97 + 5 * w + 1)) (B (97 + 5 * w + 3))))))))] H := hP
  have hD : va_D _ [(ro, .inl (cy 1, 118, .inl (iA (updZ B (97 + 5 * w + 4) (bor (B (97 + 5 * w + 4)) (vw (B 0) (B (97 + 5 * w + 0)) (B (97 + 5 * w + 1)) (B (97 + 5 * w + 3))))))))] := hD
  rw [b0, bp, b1, b3, b4] at hP hD
  generalize hC : updZ B (97 + 5 * w + 4) (bor (a (97 + 5 * w + 4)) (vw (a 0) (a (97 + 5 * w + 0)) (1 - a (97 + 5 * w + 1)) (a (97 + 5 * w + 3)))) = C at hP hD
  have e4 : C (97 + 5 * w + 4) = bor (a (97 + 5 * w + 4)) (vw (a 0) (a (97 + 5 * w + 0)) (1 - a (97 + 5 * w + 1)) (a (97 + 5 * w + 3))) := by rw [← hC, updZ_s]
  refine lv_aload_n F.1 F.2.1 dX7_turns_19 rfl (lv_at hl 0 rfl) ?_
  refine lv_iload_n F.1 F.2.1 dX7_turns_20 rfl (lv_at hl 1 rfl) ?_
  refine rr_iconst F dX7_turns_21 ?_
  refine rr_rdS (rest := []) F hK (c_X7_of l D cy ro C w 4 (by first | assumption | omega | exact ⟨by omega, by omega⟩) (by first | assumption | omega | exact ⟨by omega, by omega⟩)) hP sf_X7_of tw1076 ⟨Nat.le_of_ble_eq_true rfl, Nat.le_of_ble_eq_true rfl⟩ hl rfl (Nat.le_of_ble_eq_true rfl) dX7_turns_22 ⟨Nat.zero_le _, Nat.zero_le _⟩ ?_
  refine rr_rdS (rest := []) F hK (c_X7_ones l D cy (C (97 + 5 * w + 4)) (by first | assumption | omega | exact ⟨by omega, by omega⟩)) (hP.sub [] rfl) sf_X7_ones tw1079 ⟨Nat.le_of_ble_eq_true rfl, Nat.le_of_ble_eq_true rfl⟩ hl rfl (Nat.le_of_ble_eq_true rfl) dX7_turns_25 ⟨Nat.zero_le _, Nat.zero_le _⟩ ?_
  exact rr_wiret F hr hlocks dX7_turns_28 hP hS (by rw [← hC, ← hB]) (by rw [e4])
set_option maxRecDepth 100000 in
set_option maxHeartbeats 4000000 in
theorem c_X7_goes (l : Launch) (D : va_G) (cy : Nat → ClassId) (ro : Nat) (a : Int → Int) (t : Int) (hM : MR a) (ht : 1 ≤ t ∧ t ≤ 50) (hsp : 0 ≤ a 117 ∧ a 117 ≤ 100000000) : Wr l yX7_goes cX7_goes 4 (some FieldType.int) 6 [.ref ro, vI t] D cy [(ro, .inl (cy 1, 118, .inl (iA a)))] [(ro, .inl (cy 1, 118, .inl (iA (updZ (goR a 0 t) 117 (a 117 + t)))))] (some (vI (sm (fun w => knb (a 0) (rq a) (a 25) (rbl a) (rbc a) (a (97 + 5 * w + 1)) (goR a 0 t (97 + 5 * w + 4)) 0) (a 96)))) := by
  refine Wr.of RX7 rfl [(0, .ref ro), (1, vI t)] rfl (by decide +kernel) (Nat.le_of_ble_eq_true rfl) ?_
  intro p e s m args below meth c F hr hlocks hK hP hD hS hA ls hl
  have hn0 := hM.n
  have hw0 := hM.nw
  have hc0 := hM.wc
  refine rr_iconst F dX7_goes_0 ?_
  refine lv_istore_n (lv' := [(2, vI 0), (0, .ref ro), (1, vI t)]) F.1 F.2.1 dX7_goes_1 rfl hl (by decide) rfl (fun ls hl => ?_)
  refine rr_loopW1 (fun k => (0 ≤ k) ∧ (k ≤ t)) (fun k => (t - k).toNat) (fun k => [(2, vI k), (0, .ref ro), (1, vI t)]) (fun k => [(ro, .inl (cy 1, 118, .inl (iA (goR a 0 k))))]) ?_ 0 ⟨by omega, by omega⟩ (by rw [goR_0]; exact hP) (hD.like rfl) hS (lv_sub hl [0, 1, 2] rfl)
  intro k hI ih_2 H locs ls hP hD hS hl
  obtain ⟨k0, k1⟩ := hI
  have hl : lv_has ls 4 [(2, vI k), (0, .ref ro), (1, vI t)] := hl
  have hP : va_P D vwCl [(ro, .inl (cy 1, 118, .inl (iA (goR a 0 k))))] H := hP
  have hD : va_D _ [(ro, .inl (cy 1, 118, .inl (iA (goR a 0 k))))] := hD
  refine lv_iload_n F.1 F.2.1 dX7_goes_2 rfl (lv_at hl 0 rfl) ?_
  refine lv_iload_n F.1 F.2.1 dX7_goes_3 rfl (lv_at hl 2 rfl) ?_
  refine rr_icmp_ge F (tgt := 34) dX7_goes_4 (by decide) ⟨by omega, by omega⟩ ⟨by omega, by omega⟩ (fun c_4 => ?_) (fun c_4 => ?_)
  · refine lv_aload_n F.1 F.2.1 dX7_goes_34 rfl (lv_at hl 1 rfl) ?_
    refine rr_bipush F dX7_goes_35 (by decide) ?_
    refine lv_dup2_11 F.1 F.2.1 dX7_goes_37 rfl rfl ?_
    refine rr_iald F hK hP 0 rfl (by omega) (by omega) (by decide) dX7_goes_38 ?_
    refine lv_iload_n F.1 F.2.1 dX7_goes_39 rfl (lv_at hl 2 rfl) ?_
    refine rr_iadd F (z := ((goR a 0 k) 117) + t) dX7_goes_40 (by first | rfl | omega) ?_
    refine rr_iast F hK hP hD hS 0 rfl (by omega) (by omega) (by decide) dX7_goes_41 (fun H locs hP hD hS => ?_)
    have hP : va_P D vwCl [(ro, .inl (cy 1, 118, .inl (iA (updZ (goR a 0 k) 117 (((goR a 0 k) 117) + t)))))] H := hP
    have hD : va_D _ [(ro, .inl (cy 1, 118, .inl (iA (updZ (goR a 0 k) 117 (((goR a 0 k) 117) + t)))))] := hD
    rw [show k = t by omega, show goR a 0 t 117 = a 117 from goR_c (by omega)] at hP hD
    refine lv_aload_n F.1 F.2.1 dX7_goes_42 rfl (lv_at hl 1 rfl) ?_
    refine rr_rdS (rest := []) F hK (c_X7_knownByAll l D cy ro (updZ (goR a 0 t) 117 (a 117 + t)) (goR_MR2 hM (by omega))) hP sf_X7_knownByAll tw1169 ⟨Nat.le_of_ble_eq_true rfl, Nat.le_of_ble_eq_true rfl⟩ hl rfl (Nat.le_of_ble_eq_true rfl) dX7_goes_43 ⟨Nat.zero_le _, Nat.zero_le _⟩ ?_
    exact rr_wiret F hr hlocks dX7_goes_46 hP hS (rfl) (goR_sm hM (by omega))
  · refine rr_iconst F dX7_goes_7 ?_
    refine lv_istore_n (lv' := [(3, vI 0), (2, vI k), (0, .ref ro), (1, vI t)]) F.1 F.2.1 dX7_goes_8 rfl hl (by decide) rfl (fun ls hl => ?_)
    refine rr_loopW1 (fun j => (0 ≤ j) ∧ (j ≤ a 96)) (fun j => (a 96 - j).toNat) (fun j => [(3, vI j), (2, vI k), (0, .ref ro), (1, vI t)]) (fun j => [(ro, .inl (cy 1, 118, .inl (iA (goR a j k))))]) ?_ 0 ⟨by omega, by omega⟩ hP hD hS (lv_sub hl [0, 1, 2, 3] rfl)
    intro j hI ih_9 H locs ls hP hD hS hl
    obtain ⟨j0, j1⟩ := hI
    have hl : lv_has ls 4 [(3, vI j), (2, vI k), (0, .ref ro), (1, vI t)] := hl
    have hP : va_P D vwCl [(ro, .inl (cy 1, 118, .inl (iA (goR a j k))))] H := hP
    have hD : va_D _ [(ro, .inl (cy 1, 118, .inl (iA (goR a j k))))] := hD
    have gc : goR a j k 96 = a 96 := goR_c (by omega)
    refine lv_iload_n F.1 F.2.1 dX7_goes_9 rfl (lv_at hl 0 rfl) ?_
    refine lv_aload_n F.1 F.2.1 dX7_goes_10 rfl (lv_at hl 2 rfl) ?_
    refine rr_bipush F dX7_goes_11 (by decide) ?_
    refine rr_iald F hK hP 0 rfl (by omega) (by omega) (by decide) dX7_goes_13 ?_
    refine rr_icmp_ge F (tgt := 28) dX7_goes_14 (by decide) ⟨by omega, by omega⟩ ⟨by omega, by omega⟩ (fun c_14 => ?_) (fun c_14 => ?_)
    · refine lv_iinc (v := iI (k + 1)) (lv' := [(2, vI (k + 1)), (3, vI j), (0, .ref ro), (1, vI t)]) F.1 F.2.1 dX7_goes_28 hl (k := 1) rfl (iinc_ok (by first | rfl | omega)) (by decide) rfl (fun ls hl => ?_)
      refine lv_goto (tgt := 2) F.1 F.2.1 dX7_goes_31 (by decide) ?_
      exact ih_2 (k + 1) ⟨by omega, by omega⟩ (show ((t - (k + 1)).toNat) < ((t - k).toNat) by omega) _ _ ls (by rw [← goR_end (show a 96 ≤ j by rw [← gc]; assumption)]; exact hP) (hD.like rfl) hS (lv_sub hl [0, 2, 3] rfl)
    · refine lv_aload_n F.1 F.2.1 dX7_goes_17 rfl (lv_at hl 2 rfl) ?_
      refine lv_iload_n F.1 F.2.1 dX7_goes_18 rfl (lv_at hl 0 rfl) ?_
      refine rr_wrS (rest := []) (wr := []) (ws2 := [(ro, .inl (cy 1, 118, .inl (iA (updZ (updZ (goR a j k) (97 + 5 * j + 0) (off ((goR a j k) 0) ((goR a j k) (97 + 5 * j + 0)) ((goR a j k) (97 + 5 * j + 1)) ((goR a j k) (97 + 5 * j + 2)))) (97 + 5 * j + 4) (bor ((goR a j k) (97 + 5 * j + 4)) (vw ((goR a j k) 0) (off ((goR a j k) 0) ((goR a j k) (97 + 5 * j + 0)) ((goR a j k) (97 + 5 * j + 1)) ((goR a j k) (97 + 5 * j + 2))) ((goR a j k) (97 + 5 * j + 1)) ((goR a j k) (97 + 5 * j + 3))))))))]) F hK (c_X7_steps l D cy ro (goR a j k) j (by first | assumption | omega | exact ⟨by omega, by omega⟩) (by rw [goR_c (by omega)]; exact hn0) (goR_WK hM j0 (by omega))) hP hD hS hA sf_X7_steps tw1166 ⟨Nat.le_of_ble_eq_true rfl, Nat.le_of_ble_eq_true rfl⟩ hl rfl (Nat.le_of_ble_eq_true rfl) dX7_goes_19 ⟨Nat.zero_le _, Nat.zero_le _⟩ [0] [] [0] rfl rfl (by decide) (by decide) (by decide) rfl rfl (by decide) (fun H locs hP hD hS => ?_)
      have hP : va_P D vwCl [(ro, .inl (cy 1, 118, .inl (iA (updZ (updZ (goR a j k) (97 + 5 * j + 0) (off ((goR a j k) 0) ((goR a j k) (97 + 5 * j + 0)) ((goR a j k) (97 + 5 * j + 1)) ((goR a j k) (97 + 5 * j + 2)))) (97 + 5 * j + 4) (bor ((goR a j k) (97 + 5 * j + 4)) (vw ((goR a j k) 0) (off ((goR a j k) 0) ((goR a j k) (97 + 5 * j + 0)) ((goR a j k) (97 + 5 * j + 1)) ((goR a j k) (97 + 5 * j + 2))) ((goR a j k) (97 + 5 * j + 1)) ((goR a j k) (97 + 5 * j + 3))))))))] H := hP
      have hD : va_D _ [(ro, .inl (cy 1, 118, .inl (iA (updZ (updZ (goR a j k) (97 + 5 * j + 0) (off ((goR a j k) 0) ((goR a j k) (97 + 5 * j + 0)) ((goR a j k) (97 + 5 * j + 1)) ((goR a j k) (97 + 5 * j + 2)))) (97 + 5 * j + 4) (bor ((goR a j k) (97 + 5 * j + 4)) (vw ((goR a j k) 0) (off ((goR a j k) 0) ((goR a j k) (97 + 5 * j + 0)) ((goR a j k) (97 + 5 * j + 1)) ((goR a j k) (97 + 5 * j + 2))) ((goR a j k) (97 + 5 * j + 1)) ((goR a j k) (97 + 5 * j + 3))))))))] := hD
      refine lv_iinc (v := iI (j + 1)) (lv' := [(3, vI (j + 1)), (2, vI k), (0, .ref ro), (1, vI t)]) F.1 F.2.1 dX7_goes_22 hl (k := 0) rfl (iinc_ok (by first | rfl | omega)) (by decide) rfl (fun ls hl => ?_)
      refine lv_goto (tgt := 9) F.1 F.2.1 dX7_goes_25 (by decide) ?_
      exact ih_9 (j + 1) ⟨by omega, by omega⟩ (show ((a 96 - (j + 1)).toNat) < ((a 96 - j).toNat) by omega) _ _ ls (by rw [← goR_s hM j0 (by omega) k0]; exact hP) (hD.like rfl) hS (lv_sub hl [0, 1, 2, 3] rfl)
