set_option maxRecDepth 100000 in
set_option maxHeartbeats 4000000 in
theorem c_X7_lays (l : Launch) (D : va_G) (cy : Nat → ClassId) (fr to fn tn : Nat) (f t : Int → Int) (fa ta : Int) (h0 : 0 ≤ fa ∧ fa + 118 ≤ fn) (h1 : 0 ≤ ta ∧ ta + 118 ≤ tn) (h2 : fn ≤ 1652) (h3 : tn ≤ 1652) : Wr l yX7_lays cX7_lays 5 (none) 0 [.ref fr, vI fa, .ref to, vI ta] D cy [(fr, .inl (cy 1, fn, .inl (iA f))), (to, .inl (cy 1, tn, .inl (iA t)))] [(fr, .inl (cy 1, fn, .inl (iA f))), (to, .inl (cy 1, tn, .inl (iA (cpZ f t fa ta 118))))] none := by
  refine Wr.of RX7 rfl [(0, .ref fr), (1, vI fa), (2, .ref to), (3, vI ta)] rfl (by decide +kernel) (Nat.le_of_ble_eq_true rfl) ?_
  intro p e s m args below meth c F hr hlocks hK hP hD hS hA ls hl
  refine rr_iconst F dX7_lays_0 ?_
  refine lv_istore (lv' := [(4, vI 0), (0, .ref fr), (1, vI fa), (2, .ref to), (3, vI ta)]) F.1 F.2.1 dX7_lays_1 hl (by decide) rfl (fun ls hl => ?_)
  refine rr_loopW1 (fun k => (0 ≤ k) ∧ (k ≤ 118)) (fun k => (118 - k).toNat) (fun k => [(4, vI k), (0, .ref fr), (1, vI fa), (2, .ref to), (3, vI ta)]) (fun k => [(fr, .inl (cy 1, fn, .inl (iA f))), (to, .inl (cy 1, tn, .inl (iA (cpZ f t fa ta k))))]) ?_ 0 ⟨by omega, by omega⟩ (by rw [cpZ_0]; exact hP) (hD.like rfl) hS (lv_sub hl [0, 1, 2, 3, 4] rfl)
  intro k hI ih_3 H locs ls hP hD hS hl
  obtain ⟨k0, k1⟩ := hI
  have hl : lv_has ls 5 [(4, vI k), (0, .ref fr), (1, vI fa), (2, .ref to), (3, vI ta)] := hl
  have hP : va_P D vwCl [(fr, .inl (cy 1, fn, .inl (iA f))), (to, .inl (cy 1, tn, .inl (iA (cpZ f t fa ta k))))] H := hP
  have hD : va_D _ [(fr, .inl (cy 1, fn, .inl (iA f))), (to, .inl (cy 1, tn, .inl (iA (cpZ f t fa ta k))))] := hD
  refine lv_iload F.1 F.2.1 dX7_lays_3 (lv_at hl 0 rfl) ?_
  refine rr_bipush F dX7_lays_5 (by decide) ?_
  refine rr_icmp_ge F (tgt := 28) dX7_lays_7 (by decide) ⟨by omega, by omega⟩ ⟨by omega, by omega⟩ (fun c_7 => ?_) (fun c_7 => ?_)
  · exact rr_wvret F hr hlocks dX7_lays_28 hP hS (by rw [show k = 118 by omega])
  · refine lv_aload_n F.1 F.2.1 dX7_lays_10 rfl (lv_at hl 3 rfl) ?_
    refine lv_iload_n F.1 F.2.1 dX7_lays_11 rfl (lv_at hl 4 rfl) ?_
    refine lv_iload F.1 F.2.1 dX7_lays_12 (lv_at hl 0 rfl) ?_
    refine rr_iadd F (z := ta + k) dX7_lays_14 (by first | rfl | omega) ?_
    refine lv_aload_n F.1 F.2.1 dX7_lays_15 rfl (lv_at hl 1 rfl) ?_
    refine lv_iload_n F.1 F.2.1 dX7_lays_16 rfl (lv_at hl 2 rfl) ?_
    refine lv_iload F.1 F.2.1 dX7_lays_17 (lv_at hl 0 rfl) ?_
    refine rr_iadd F (z := fa + k) dX7_lays_19 (by first | rfl | omega) ?_
    refine rr_iald F hK hP 0 rfl (by omega) (by omega) (by decide) dX7_lays_20 ?_
    refine rr_iast F hK hP hD hS 1 rfl (by omega) (by omega) (by decide) dX7_lays_21 (fun H locs hP hD hS => ?_)
    rw [show updZ (cpZ f t fa ta k) (ta + k) (f (fa + k)) = cpZ f t fa ta (k + 1) from cpZ_s k0] at hP hD
    have hP : va_P D vwCl [(fr, .inl (cy 1, fn, .inl (iA f))), (to, .inl (cy 1, tn, .inl (iA (cpZ f t fa ta (k + 1)))))] H := hP
    have hD : va_D _ [(fr, .inl (cy 1, fn, .inl (iA f))), (to, .inl (cy 1, tn, .inl (iA (cpZ f t fa ta (k + 1)))))] := hD
    refine lv_iinc (v := iI (k + 1)) (lv' := [(4, vI (k + 1)), (0, .ref fr), (1, vI fa), (2, .ref to), (3, vI ta)]) F.1 F.2.1 dX7_lays_22 hl (k := 0) rfl (iinc_ok (by first | rfl | omega)) (by decide) rfl (fun ls hl => ?_)
    refine lv_goto (tgt := 3) F.1 F.2.1 dX7_lays_25 (by decide) ?_
    exact ih_3 (k + 1) ⟨by omega, by omega⟩ (show ((118 - (k + 1)).toNat) < ((118 - k).toNat) by omega) _ _ ls hP hD hS (lv_sub hl [0, 1, 2, 3, 4] rfl)
set_option maxRecDepth 100000 in
set_option maxHeartbeats 4000000 in
theorem c_X7_sees (l : Launch) (D : va_G) (cy : Nat → ClassId) (ro : Nat) (a : Int → Int) (w : Int) (hw : 0 ≤ w ∧ w < 4) (hn : 0 ≤ a 0 ∧ a 0 ≤ 24) (hW : WK (a 0) (a (97 + 5 * w + 0)) (a (97 + 5 * w + 1)) (a (97 + 5 * w + 2)) (a (97 + 5 * w + 3)) (a (97 + 5 * w + 4))) : Wr l yX7_sees cX7_sees 3 (none) 1 [.ref ro, vI w] D cy [(ro, .inl (cy 1, 118, .inl (iA a)))] [(ro, .inl (cy 1, 118, .inl (iA (updZ a (97 + 5 * w + 4) (bor (a (97 + 5 * w + 4)) (vw (a 0) (a (97 + 5 * w + 0)) (a (97 + 5 * w + 1)) (a (97 + 5 * w + 3))))))))] none := by
  refine Wr.of RX7 rfl [(0, .ref ro), (1, vI w)] rfl (by decide +kernel) (Nat.le_of_ble_eq_true rfl) ?_
  intro p e s m args below meth c F hr hlocks hK hP hD hS hA ls hl
  obtain ⟨v1, v2, v3, v4, v5⟩ := id hW
  have v6 := p2_24 hn.1 hn.2
  refine rr_iconst F dX7_sees_0 ?_
  refine lv_istore_n (lv' := [(2, vI 0), (0, .ref ro), (1, vI w)]) F.1 F.2.1 dX7_sees_1 rfl hl (by decide) rfl (fun ls hl => ?_)
  refine rr_loopW2 (fun (k : Int) (A : (Int → Int)) => (0 ≤ k) ∧ (k ≤ a (97 + 5 * w + 3)) ∧ (∀ j, ¬ j = 97 + 5 * w + 4 → A j = a j) ∧ (A (97 + 5 * w + 4) = bor (a (97 + 5 * w + 4)) (vw (a 0) (a (97 + 5 * w + 0)) (a (97 + 5 * w + 1)) k))) (fun (k : Int) (A : (Int → Int)) => (6 - k).toNat) (fun (k : Int) (A : (Int → Int)) => [(2, vI k), (0, .ref ro), (1, vI w)]) (fun (k : Int) (A : (Int → Int)) => [(ro, .inl (cy 1, 118, .inl (iA A)))]) ?_ 0 a ⟨by omega, by omega, fun j _ => rfl, (bor_0 (by omega)).symm⟩ hP hD hS (lv_sub hl [0, 1, 2] rfl)
  intro k A hI ih_2 H locs ls hP hD hS hl
  obtain ⟨k0, k1, hA, hX⟩ := hI
  have hl : lv_has ls 3 [(2, vI k), (0, .ref ro), (1, vI w)] := hl
  have hP : va_P D vwCl [(ro, .inl (cy 1, 118, .inl (iA A)))] H := hP
  have hD : va_D _ [(ro, .inl (cy 1, 118, .inl (iA A)))] := hD
  have e0 := hA 0 (by omega)
  have e1 := hA (97 + 5 * w + 0) (by omega)
  have e2 := hA (97 + 5 * w + 1) (by omega)
  have e3 := hA (97 + 5 * w + 3) (by omega)
  have vr := vw_lt (n := a 0) (pl := a (97 + 5 * w + 0)) (d := a (97 + 5 * w + 1)) (k := k) (by omega) k0
  have br := bor_lt v5 vr
  refine lv_iload_n F.1 F.2.1 dX7_sees_2 rfl (lv_at hl 0 rfl) ?_
  refine lv_aload_n F.1 F.2.1 dX7_sees_3 rfl (lv_at hl 1 rfl) ?_
  refine lv_iload_n F.1 F.2.1 dX7_sees_4 rfl (lv_at hl 2 rfl) ?_
  refine rr_iconst F dX7_sees_5 ?_
  refine rr_rdS (rest := [vI k]) F hK (c_X7_of l D cy ro A w 3 (by first | assumption | omega | exact ⟨by omega, by omega⟩) (by first | assumption | omega | exact ⟨by omega, by omega⟩)) hP sf_X7_of tw1076 ⟨Nat.le_of_ble_eq_true rfl, Nat.le_of_ble_eq_true rfl⟩ hl rfl (Nat.le_of_ble_eq_true rfl) dX7_sees_6 ⟨Nat.zero_le _, Nat.zero_le _⟩ ?_
  refine rr_icmp_ge F (tgt := 50) dX7_sees_9 (by decide) ⟨by omega, by omega⟩ ⟨by omega, by omega⟩ (fun c_9 => ?_) (fun c_9 => ?_)
  · exact rr_wvret F hr hlocks dX7_sees_50 hP hS (by rw [show A = updZ a (97 + 5 * w + 4) (bor (a (97 + 5 * w + 4)) (vw (a 0) (a (97 + 5 * w + 0)) (a (97 + 5 * w + 1)) (a (97 + 5 * w + 3)))) from updZ_ext hA (by rw [hX, show k = a (97 + 5 * w + 3) by omega])])
  · refine lv_aload_n F.1 F.2.1 dX7_sees_12 rfl (lv_at hl 1 rfl) ?_
    refine rr_bipush F dX7_sees_13 (by decide) ?_
    refine rr_iconst F dX7_sees_15 ?_
    refine lv_iload_n F.1 F.2.1 dX7_sees_16 rfl (lv_at hl 2 rfl) ?_
    refine rr_imul F (z := 5 * w) dX7_sees_17 (by first | rfl | omega) ?_
    refine rr_iadd F (z := 97 + (5 * w)) dX7_sees_18 (by first | rfl | omega) ?_
    refine rr_iconst F dX7_sees_19 ?_
    refine rr_iadd F (z := (97 + (5 * w)) + 4) dX7_sees_20 (by first | rfl | omega) ?_
    refine lv_dup2_11 F.1 F.2.1 dX7_sees_21 rfl rfl ?_
    refine rr_iald F hK hP 0 rfl (by omega) (by omega) (by decide) dX7_sees_22 ?_
    refine rr_iconst F dX7_sees_23 ?_
    refine lv_aload_n F.1 F.2.1 dX7_sees_24 rfl (lv_at hl 1 rfl) ?_
    refine lv_aload_n F.1 F.2.1 dX7_sees_25 rfl (lv_at hl 1 rfl) ?_
    refine lv_iload_n F.1 F.2.1 dX7_sees_26 rfl (lv_at hl 2 rfl) ?_
    refine rr_iconst F dX7_sees_27 ?_
    refine rr_rdS (rest := [.ref ro, vI 1, vI (A ((97 + (5 * w)) + 4)), vI ((97 + (5 * w)) + 4), .ref ro]) F hK (c_X7_of l D cy ro A w 0 (by first | assumption | omega | exact ⟨by omega, by omega⟩) (by first | assumption | omega | exact ⟨by omega, by omega⟩)) hP sf_X7_of tw1076 ⟨Nat.le_of_ble_eq_true rfl, Nat.le_of_ble_eq_true rfl⟩ hl rfl (Nat.le_of_ble_eq_true rfl) dX7_sees_28 ⟨Nat.zero_le _, Nat.zero_le _⟩ ?_
    refine lv_aload_n F.1 F.2.1 dX7_sees_31 rfl (lv_at hl 1 rfl) ?_
    refine lv_iload_n F.1 F.2.1 dX7_sees_32 rfl (lv_at hl 2 rfl) ?_
    refine rr_iconst F dX7_sees_33 ?_
    refine rr_rdS (rest := [vI (A (97 + 5 * w + 0)), .ref ro, vI 1, vI (A ((97 + (5 * w)) + 4)), vI ((97 + (5 * w)) + 4), .ref ro]) F hK (c_X7_of l D cy ro A w 1 (by first | assumption | omega | exact ⟨by omega, by omega⟩) (by first | assumption | omega | exact ⟨by omega, by omega⟩)) hP sf_X7_of tw1076 ⟨Nat.le_of_ble_eq_true rfl, Nat.le_of_ble_eq_true rfl⟩ hl rfl (Nat.le_of_ble_eq_true rfl) dX7_sees_34 ⟨Nat.zero_le _, Nat.zero_le _⟩ ?_
    refine lv_iload_n F.1 F.2.1 dX7_sees_37 rfl (lv_at hl 0 rfl) ?_
    refine rr_rdS (rest := [vI 1, vI (A ((97 + (5 * w)) + 4)), vI ((97 + (5 * w)) + 4), .ref ro]) F hK (c_X7_off l D cy ro A (A (97 + 5 * w + 0)) (A (97 + 5 * w + 1)) k (by first | assumption | omega | exact ⟨by omega, by omega⟩) (by first | assumption | omega | exact ⟨by omega, by omega⟩) (by first | assumption | omega | exact ⟨by omega, by omega⟩) (by first | assumption | omega | exact ⟨by omega, by omega⟩)) hP sf_X7_off tw962 ⟨Nat.le_of_ble_eq_true rfl, Nat.le_of_ble_eq_true rfl⟩ hl rfl (Nat.le_of_ble_eq_true rfl) dX7_sees_38 ⟨Nat.zero_le _, Nat.zero_le _⟩ ?_
    have q_38_0 := (off_rng (n := A 0) (by omega) (A (97 + 5 * w + 0)) (A (97 + 5 * w + 1)) k)
    refine rr_ishl F (z := p2 (off (A 0) (A (97 + 5 * w + 0)) (A (97 + 5 * w + 1)) k)) dX7_sees_41 ⟨rfl, by omega, by omega, rfl⟩ ?_
    refine rr_ior F (z := bor (A (97 + 5 * w + 4)) (p2 (off (A 0) (A (97 + 5 * w + 0)) (A (97 + 5 * w + 1)) k))) dX7_sees_42 ⟨by omega, Int.natCast_nonneg _, rfl⟩ ?_
    refine rr_iast F hK hP hD hS 0 rfl (by omega) (by omega) (by decide) dX7_sees_43 (fun H locs hP hD hS => ?_)
    have hP : va_P D vwCl [(ro, .inl (cy 1, 118, .inl (iA (updZ A ((97 + (5 * w)) + 4) (bor (A (97 + 5 * w + 4)) (p2 (off (A 0) (A (97 + 5 * w + 0)) (A (97 + 5 * w + 1)) k)))))))] H := hP
    have hD : va_D _ [(ro, .inl (cy 1, 118, .inl (iA (updZ A ((97 + (5 * w)) + 4) (bor (A (97 + 5 * w + 4)) (p2 (off (A 0) (A (97 + 5 * w + 0)) (A (97 + 5 * w + 1)) k)))))))] := hD
    refine lv_iinc (v := iI (k + 1)) (lv' := [(2, vI (k + 1)), (0, .ref ro), (1, vI w)]) F.1 F.2.1 dX7_sees_44 hl (k := 0) rfl (iinc_ok (by first | rfl | omega)) (by decide) rfl (fun ls hl => ?_)
    refine lv_goto (tgt := 2) F.1 F.2.1 dX7_sees_47 (by decide) ?_
    exact ih_2 (k + 1) (updZ A ((97 + (5 * w)) + 4) (bor (A (97 + 5 * w + 4)) (p2 (off (A 0) (A (97 + 5 * w + 0)) (A (97 + 5 * w + 1)) k)))) ⟨by omega, by omega, fun j hj => by rw [updZ_n hj]; exact hA j hj, by rw [updZ_s, hX, e0, e1, e2, bor_assoc, vw_s _ _ _ k0]⟩ (show ((6 - (k + 1)).toNat) < ((6 - k).toNat) by omega) _ _ ls hP hD hS (lv_sub hl [0, 1, 2] rfl)
set_option maxRecDepth 100000 in
set_option maxHeartbeats 4000000 in
theorem c_X7_steps (l : Launch) (D : va_G) (cy : Nat → ClassId) (ro : Nat) (a : Int → Int) (w : Int) (hw : 0 ≤ w ∧ w < 4) (hn : 0 ≤ a 0 ∧ a 0 ≤ 24) (hW : WK (a 0) (a (97 + 5 * w + 0)) (a (97 + 5 * w + 1)) (a (97 + 5 * w + 2)) (a (97 + 5 * w + 3)) (a (97 + 5 * w + 4))) : Wr l yX7_steps cX7_steps 2 (none) 2 [.ref ro, vI w] D cy [(ro, .inl (cy 1, 118, .inl (iA a)))] [(ro, .inl (cy 1, 118, .inl (iA (updZ (updZ a (97 + 5 * w + 0) (off (a 0) (a (97 + 5 * w + 0)) (a (97 + 5 * w + 1)) (a (97 + 5 * w + 2)))) (97 + 5 * w + 4) (bor (a (97 + 5 * w + 4)) (vw (a 0) (off (a 0) (a (97 + 5 * w + 0)) (a (97 + 5 * w + 1)) (a (97 + 5 * w + 2))) (a (97 + 5 * w + 1)) (a (97 + 5 * w + 3))))))))] none := by
  refine Wr.of RX7 rfl [(0, .ref ro), (1, vI w)] rfl (by decide +kernel) (Nat.le_of_ble_eq_true rfl) ?_
  intro p e s m args below meth c F hr hlocks hK hP hD hS hA ls hl
  obtain ⟨v1, v2, v3, v4, v5⟩ := id hW
  have v6 := p2_24 hn.1 hn.2
  refine lv_aload_n F.1 F.2.1 dX7_steps_0 rfl (lv_at hl 0 rfl) ?_
  refine rr_bipush F dX7_steps_1 (by decide) ?_
  refine rr_iconst F dX7_steps_3 ?_
  refine lv_iload_n F.1 F.2.1 dX7_steps_4 rfl (lv_at hl 1 rfl) ?_
  refine rr_imul F (z := 5 * w) dX7_steps_5 (by first | rfl | omega) ?_
  refine rr_iadd F (z := 97 + (5 * w)) dX7_steps_6 (by first | rfl | omega) ?_
  refine rr_iconst F dX7_steps_7 ?_
  refine rr_iadd F (z := (97 + (5 * w)) + 0) dX7_steps_8 (by first | rfl | omega) ?_
  refine lv_aload_n F.1 F.2.1 dX7_steps_9 rfl (lv_at hl 0 rfl) ?_
  refine lv_aload_n F.1 F.2.1 dX7_steps_10 rfl (lv_at hl 0 rfl) ?_
  refine lv_iload_n F.1 F.2.1 dX7_steps_11 rfl (lv_at hl 1 rfl) ?_
  refine rr_iconst F dX7_steps_12 ?_
  refine rr_rdS (rest := [.ref ro, vI ((97 + (5 * w)) + 0), .ref ro]) F hK (c_X7_of l D cy ro a w 0 (by first | assumption | omega | exact ⟨by omega, by omega⟩) (by first | assumption | omega | exact ⟨by omega, by omega⟩)) hP sf_X7_of tw1076 ⟨Nat.le_of_ble_eq_true rfl, Nat.le_of_ble_eq_true rfl⟩ hl rfl (Nat.le_of_ble_eq_true rfl) dX7_steps_13 ⟨Nat.zero_le _, Nat.zero_le _⟩ ?_
  refine lv_aload_n F.1 F.2.1 dX7_steps_16 rfl (lv_at hl 0 rfl) ?_
  refine lv_iload_n F.1 F.2.1 dX7_steps_17 rfl (lv_at hl 1 rfl) ?_
  refine rr_iconst F dX7_steps_18 ?_
  refine rr_rdS (rest := [vI (a (97 + 5 * w + 0)), .ref ro, vI ((97 + (5 * w)) + 0), .ref ro]) F hK (c_X7_of l D cy ro a w 1 (by first | assumption | omega | exact ⟨by omega, by omega⟩) (by first | assumption | omega | exact ⟨by omega, by omega⟩)) hP sf_X7_of tw1076 ⟨Nat.le_of_ble_eq_true rfl, Nat.le_of_ble_eq_true rfl⟩ hl rfl (Nat.le_of_ble_eq_true rfl) dX7_steps_19 ⟨Nat.zero_le _, Nat.zero_le _⟩ ?_
  refine lv_aload_n F.1 F.2.1 dX7_steps_22 rfl (lv_at hl 0 rfl) ?_
  refine lv_iload_n F.1 F.2.1 dX7_steps_23 rfl (lv_at hl 1 rfl) ?_
  refine rr_iconst F dX7_steps_24 ?_
  refine rr_rdS (rest := [vI (a (97 + 5 * w + 1)), vI (a (97 + 5 * w + 0)), .ref ro, vI ((97 + (5 * w)) + 0), .ref ro]) F hK (c_X7_of l D cy ro a w 2 (by first | assumption | omega | exact ⟨by omega, by omega⟩) (by first | assumption | omega | exact ⟨by omega, by omega⟩)) hP sf_X7_of tw1076 ⟨Nat.le_of_ble_eq_true rfl, Nat.le_of_ble_eq_true rfl⟩ hl rfl (Nat.le_of_ble_eq_true rfl) dX7_steps_25 ⟨Nat.zero_le _, Nat.zero_le _⟩ ?_
  refine rr_rdS (rest := [vI ((97 + (5 * w)) + 0), .ref ro]) F hK (c_X7_off l D cy ro a (a (97 + 5 * w + 0)) (a (97 + 5 * w + 1)) (a (97 + 5 * w + 2)) (by first | assumption | omega | exact ⟨by omega, by omega⟩) (by first | assumption | omega | exact ⟨by omega, by omega⟩) (by first | assumption | omega | exact ⟨by omega, by omega⟩) (by first | assumption | omega | exact ⟨by omega, by omega⟩)) hP sf_X7_off tw962 ⟨Nat.le_of_ble_eq_true rfl, Nat.le_of_ble_eq_true rfl⟩ hl rfl (Nat.le_of_ble_eq_true rfl) dX7_steps_28 ⟨Nat.zero_le _, Nat.zero_le _⟩ ?_
  have q_28_0 := (off_rng (n := a 0) (by omega) (a (97 + 5 * w + 0)) (a (97 + 5 * w + 1)) (a (97 + 5 * w + 2)))
  refine rr_iast F hK hP hD hS 0 rfl (by omega) (by omega) (by decide) dX7_steps_31 (fun H locs hP hD hS => ?_)
  have hP : va_P D vwCl [(ro, .inl (cy 1, 118, .inl (iA (updZ a ((97 + (5 * w)) + 0) (off (a 0) (a (97 + 5 * w + 0)) (a (97 + 5 * w + 1)) (a (97 + 5 * w + 2)))))))] H := hP
  have hD : va_D _ [(ro, .inl (cy 1, 118, .inl (iA (updZ a ((97 + (5 * w)) + 0) (off (a 0) (a (97 + 5 * w + 0)) (a (97 + 5 * w + 1)) (a (97 + 5 * w + 2)))))))] := hD
  have o0 := off_rng (n := a 0) (by omega) (a (97 + 5 * w + 0)) (a (97 + 5 * w + 1)) (a (97 + 5 * w + 2))
  generalize hB : updZ a (97 + 5 * w + 0) (off (a 0) (a (97 + 5 * w + 0)) (a (97 + 5 * w + 1)) (a (97 + 5 * w + 2))) = B at hP hD
  have b0 : B 0 = a 0 := by rw [← hB, updZ_n (by omega)]
  have bp : B (97 + 5 * w + 0) = off (a 0) (a (97 + 5 * w + 0)) (a (97 + 5 * w + 1)) (a (97 + 5 * w + 2)) := by rw [← hB, updZ_s]
  have b1 : B (97 + 5 * w + 1) = a (97 + 5 * w + 1) := by rw [← hB, updZ_n (by omega)]
  have b2 : B (97 + 5 * w + 2) = a (97 + 5 * w + 2) := by rw [← hB, updZ_n (by omega)]
  have b3 : B (97 + 5 * w + 3) = a (97 + 5 * w + 3) := by rw [← hB, updZ_n (by omega)]
  have b4 : B (97 + 5 * w + 4) = a (97 + 5 * w + 4) := by rw [← hB, updZ_n (by omega)]
  refine lv_aload_n F.1 F.2.1 dX7_steps_32 rfl (lv_at hl 0 rfl) ?_
  refine lv_iload_n F.1 F.2.1 dX7_steps_33 rfl (lv_at hl 1 rfl) ?_
  refine rr_wrS (rest := []) (wr := []) (ws2 := [(ro, .inl (cy 1, 118, .inl (iA (updZ B (97 + 5 * w + 4) (bor (B (97 + 5 * w + 4)) (vw (B 0) (B (97 + 5 * w + 0)) (B (97 + 5 * w + 1)) (B (97 + 5 * w + 3))))))))]) F hK (c_X7_sees l D cy ro B w (by first | assumption | omega | exact ⟨by omega, by omega⟩) (by omega) (by rw [b0, bp, b1, b2, b3, b4]; exact ⟨o0, v2, v3, v4, v5⟩)) hP hD hS hA sf_X7_sees tw1149 ⟨Nat.le_of_ble_eq_true rfl, Nat.le_of_ble_eq_true rfl⟩ hl rfl (Nat.le_of_ble_eq_true rfl) dX7_steps_34 ⟨Nat.zero_le _, Nat.zero_le _⟩ [0] [] [0] rfl rfl (by decide) (by decide) (by decide) rfl rfl (by decide) (fun H locs hP hD hS => ?_)
  have hP : va_P D vwCl [(ro, .inl (cy 1, 118, .inl (iA (updZ B (97 + 5 * w + 4) (bor (B (97 + 5 * w + 4)) (vw (B 0) (B (97 + 5 * w + 0)) (B (97 + 5 * w + 1)) (B (97 + 5 * w + 3))))))))] H := hP
  have hD : va_D _ [(ro, .inl (cy 1, 118, .inl (iA (updZ B (97 + 5 * w + 4) (bor (B (97 + 5 * w + 4)) (vw (B 0) (B (97 + 5 * w + 0)) (B (97 + 5 * w + 1)) (B (97 + 5 * w + 3))))))))] := hD
  exact rr_wvret F hr hlocks dX7_steps_37 hP hS (by rw [b0, bp, b1, b3, b4, ← hB])
set_option maxRecDepth 100000 in
set_option maxHeartbeats 4000000 in
theorem c_X7_sendsAway (l : Launch) (D : va_G) (cy : Nat → ClassId) (ro : Nat) (a : Int → Int)  : Wr l yX7_sendsAway cX7_sendsAway 2 (none) 0 [.ref ro] D cy [(ro, .inl (cy 1, 118, .inl (iA a)))] [(ro, .inl (cy 1, 118, .inl (iA (zrZ a 96 117))))] none := by
  refine Wr.of RX7 rfl [(0, .ref ro)] rfl (by decide +kernel) (Nat.le_of_ble_eq_true rfl) ?_
  intro p e s m args below meth c F hr hlocks hK hP hD hS hA ls hl
  refine rr_bipush F dX7_sendsAway_0 (by decide) ?_
  refine lv_istore_n (lv' := [(1, vI 96), (0, .ref ro)]) F.1 F.2.1 dX7_sendsAway_2 rfl hl (by decide) rfl (fun ls hl => ?_)
  refine rr_loopW1 (fun k => (96 ≤ k) ∧ (k ≤ 117)) (fun k => (117 - k).toNat) (fun k => [(1, vI k), (0, .ref ro)]) (fun k => [(ro, .inl (cy 1, 118, .inl (iA (zrZ a 96 k))))]) ?_ 96 ⟨by omega, by omega⟩ (by rw [zrZ_0]; exact hP) (hD.like rfl) hS (lv_sub hl [0, 1] rfl)
  intro k hI ih_3 H locs ls hP hD hS hl
  obtain ⟨k0, k1⟩ := hI
  have hl : lv_has ls 2 [(1, vI k), (0, .ref ro)] := hl
  have hP : va_P D vwCl [(ro, .inl (cy 1, 118, .inl (iA (zrZ a 96 k))))] H := hP
  have hD : va_D _ [(ro, .inl (cy 1, 118, .inl (iA (zrZ a 96 k))))] := hD
  refine lv_iload_n F.1 F.2.1 dX7_sendsAway_3 rfl (lv_at hl 0 rfl) ?_
  refine rr_bipush F dX7_sendsAway_4 (by decide) ?_
  refine rr_icmp_ge F (tgt := 19) dX7_sendsAway_6 (by decide) ⟨by omega, by omega⟩ ⟨by omega, by omega⟩ (fun c_6 => ?_) (fun c_6 => ?_)
  · exact rr_wvret F hr hlocks dX7_sendsAway_19 hP hS (by rw [show k = 117 by omega])
  · refine lv_aload_n F.1 F.2.1 dX7_sendsAway_9 rfl (lv_at hl 1 rfl) ?_
    refine lv_iload_n F.1 F.2.1 dX7_sendsAway_10 rfl (lv_at hl 0 rfl) ?_
    refine rr_iconst F dX7_sendsAway_11 ?_
    refine rr_iast F hK hP hD hS 0 rfl (by omega) (by omega) (by decide) dX7_sendsAway_12 (fun H locs hP hD hS => ?_)
    rw [show updZ (zrZ a 96 k) k 0 = zrZ a 96 (k + 1) from zrZ_s (by omega)] at hP hD
    have hP : va_P D vwCl [(ro, .inl (cy 1, 118, .inl (iA (zrZ a 96 (k + 1)))))] H := hP
    have hD : va_D _ [(ro, .inl (cy 1, 118, .inl (iA (zrZ a 96 (k + 1)))))] := hD
    refine lv_iinc (v := iI (k + 1)) (lv' := [(1, vI (k + 1)), (0, .ref ro)]) F.1 F.2.1 dX7_sendsAway_13 hl (k := 0) rfl (iinc_ok (by first | rfl | omega)) (by decide) rfl (fun ls hl => ?_)
    refine lv_goto (tgt := 3) F.1 F.2.1 dX7_sendsAway_16 (by decide) ?_
    exact ih_3 (k + 1) ⟨by omega, by omega⟩ (show ((117 - (k + 1)).toNat) < ((117 - k).toNat) by omega) _ _ ls hP hD hS (lv_sub hl [0, 1] rfl)
set_option maxRecDepth 100000 in
set_option maxHeartbeats 4000000 in
theorem c_X7_carves (l : Launch) (D : va_G) (cy : Nat → ClassId) (ro : Nat) (a : Int → Int) (i c0 : Int) (hi : 0 ≤ i ∧ i < 24) : Wr l yX7_carves cX7_carves 4 (some FieldType.int) 0 [.ref ro, vI i, vI c0] D cy [(ro, .inl (cy 1, 118, .inl (iA a)))] [(ro, .inl (cy 1, 118, .inl (iA (updZ a (1 + i) c0))))] (some (vI (a (1 + i)))) := by
  refine Wr.of RX7 rfl [(0, .ref ro), (1, vI i), (2, vI c0)] rfl (by decide +kernel) (Nat.le_of_ble_eq_true rfl) ?_
  intro p e s m args below meth c F hr hlocks hK hP hD hS hA ls hl
  refine lv_aload_n F.1 F.2.1 dX7_carves_0 rfl (lv_at hl 0 rfl) ?_
  refine rr_iconst F dX7_carves_1 ?_
  refine lv_iload_n F.1 F.2.1 dX7_carves_2 rfl (lv_at hl 1 rfl) ?_
  refine rr_iadd F (z := 1 + i) dX7_carves_3 (by first | rfl | omega) ?_
  refine rr_iald F hK hP 0 rfl (by omega) (by omega) (by decide) dX7_carves_4 ?_
  refine lv_istore_n (lv' := [(3, vI (a (1 + i))), (0, .ref ro), (1, vI i), (2, vI c0)]) F.1 F.2.1 dX7_carves_5 rfl hl (by decide) rfl (fun ls hl => ?_)
  refine lv_aload_n F.1 F.2.1 dX7_carves_6 rfl (lv_at hl 1 rfl) ?_
  refine rr_iconst F dX7_carves_7 ?_
  refine lv_iload_n F.1 F.2.1 dX7_carves_8 rfl (lv_at hl 2 rfl) ?_
  refine rr_iadd F (z := 1 + i) dX7_carves_9 (by first | rfl | omega) ?_
  refine lv_iload_n F.1 F.2.1 dX7_carves_10 rfl (lv_at hl 3 rfl) ?_
  refine rr_iast F hK hP hD hS 0 rfl (by omega) (by omega) (by decide) dX7_carves_11 (fun H locs hP hD hS => ?_)
  have hP : va_P D vwCl [(ro, .inl (cy 1, 118, .inl (iA (updZ a (1 + i) c0))))] H := hP
  have hD : va_D _ [(ro, .inl (cy 1, 118, .inl (iA (updZ a (1 + i) c0))))] := hD
  refine lv_iload_n F.1 F.2.1 dX7_carves_12 rfl (lv_at hl 0 rfl) ?_
  exact rr_wiret F hr hlocks dX7_carves_13 hP hS (rfl) (by first | rfl | omega)
