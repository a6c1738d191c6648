set_option maxRecDepth 100000 in
set_option maxHeartbeats 4000000 in
theorem c_X7_longest (l : Launch) (D : va_G) (cy : Nat → ClassId) (mo no th pa sl sv tx : Nat) (tr ss ty : Int) (a : Int → Int) (d : Int) (hM : MR a) (hd : 0 ≤ d ∧ d ≤ 1) : Rd l yX7_longest cX7_longest 5 (some FieldType.int) 2 [.ref mo, vI d] D cy [(mo, .inr (7, [vI tr, .ref no, .ref th, .ref pa, vI ss, .ref sl, .ref sv, .ref tx, vI ty])), (no, .inl (cy 1, 118, .inl (iA a)))] (mx (fun j => seg (a 0) (rq a) j d) (a 0)) := by
  refine Rd.of RX7 rfl [(0, .ref mo), (1, vI d)] rfl (by decide +kernel) (Nat.le_of_ble_eq_true rfl) ?_
  intro p e s m args below meth c F hr hlocks hK hP ls hl
  have hn0 := hM.n
  have hw0 := hM.nw
  have hc0 := hM.wc
  refine rr_iconst F dX7_longest_0 ?_
  refine lv_istore_n (lv' := [(2, vI 0), (0, .ref mo), (1, vI d)]) F.1 F.2.1 dX7_longest_1 rfl hl (by decide) rfl (fun ls hl => ?_)
  refine rr_iconst F dX7_longest_2 ?_
  refine lv_istore_n (lv' := [(3, vI 0), (2, vI 0), (0, .ref mo), (1, vI d)]) F.1 F.2.1 dX7_longest_3 rfl hl (by decide) rfl (fun ls hl => ?_)
  refine rr_loop1 (fun k => (0 ≤ k) ∧ (k ≤ a 0)) (fun k => (25 - k).toNat) (fun k => [(3, vI k), (2, vI (mx (fun j => seg (a 0) (rq a) j d) k)), (0, .ref mo), (1, vI d)]) ?_ 0 ⟨by omega, by omega⟩ (lv_sub hl [0, 1, 2, 3] rfl)
  intro k hI ih_4 ls hl
  obtain ⟨k0, k1⟩ := hI
  have hl : lv_has ls 5 [(3, vI k), (2, vI (mx (fun j => seg (a 0) (rq a) j d) k)), (0, .ref mo), (1, vI d)] := hl
  have mr := mx_rng (f := fun j => seg (a 0) (rq a) j d) (c := 24) (n := k) (by omega) k0 (fun j x y => by have := seg_rng (n := a 0) (by omega) (rq a) j d; omega)
  refine lv_iload_n F.1 F.2.1 dX7_longest_4 rfl (lv_at hl 0 rfl) ?_
  refine lv_aload_n F.1 F.2.1 dX7_longest_5 rfl (lv_at hl 2 rfl) ?_
  refine gf7_1 F hK hP 0 rfl tw875 dX7_longest_6 ?_
  refine rr_iconst F dX7_longest_9 ?_
  refine rr_iald F hK hP 1 rfl (by omega) (by omega) (by decide) dX7_longest_10 ?_
  refine rr_icmp_ge F (tgt := 59) dX7_longest_11 (by decide) ⟨by omega, by omega⟩ ⟨by omega, by omega⟩ (fun c_11 => ?_) (fun c_11 => ?_)
  · refine lv_iload_n F.1 F.2.1 dX7_longest_59 rfl (lv_at hl 1 rfl) ?_
    exact rr_iret F hr hlocks dX7_longest_60 (by rw [show k = a 0 by omega])
  · have qq := hM.q k0 c_11
    refine lv_aload_n F.1 F.2.1 dX7_longest_14 rfl (lv_at hl 2 rfl) ?_
    refine gf7_1 F hK hP 0 rfl tw875 dX7_longest_15 ?_
    refine lv_iload_n F.1 F.2.1 dX7_longest_18 rfl (lv_at hl 0 rfl) ?_
    refine rr_rdS (rest := []) F hK (c_X7_isDivider l D cy no a k (by first | assumption | omega | exact ⟨by omega, by omega⟩) (by first | assumption | omega | exact ⟨by omega, by omega⟩)) (hP.sub [1] rfl) sf_X7_isDivider tw948 ⟨Nat.le_of_ble_eq_true rfl, Nat.le_of_ble_eq_true rfl⟩ hl rfl (Nat.le_of_ble_eq_true rfl) dX7_longest_19 ⟨Nat.zero_le _, Nat.zero_le _⟩ ?_
    refine rr_ifP_eq F (tgt := 37) dX7_longest_22 (by decide) (fun c_22 => ?_) (fun c_22 => ?_)
    · refine rr_iconst F dX7_longest_37 ?_
      refine lv_istore (lv' := [(4, vI 0), (3, vI k), (2, vI (mx (fun j => seg (a 0) (rq a) j d) k)), (0, .ref mo), (1, vI d)]) F.1 F.2.1 dX7_longest_38 hl (by decide) rfl (fun ls hl => ?_)
      refine lv_iload F.1 F.2.1 dX7_longest_40 (lv_at hl 0 rfl) ?_
      refine lv_iload_n F.1 F.2.1 dX7_longest_42 rfl (lv_at hl 2 rfl) ?_
      refine rr_icmp_le F (tgt := 51) dX7_longest_43 (by decide) ⟨by omega, by omega⟩ ⟨by omega, by omega⟩ (fun c_43 => ?_) (fun c_43 => ?_)
      · refine lv_iload_n F.1 F.2.1 dX7_longest_51 rfl (lv_at hl 2 rfl) ?_
        refine lv_istore_n (lv' := [(2, vI (mx (fun j => seg (a 0) (rq a) j d) k)), (4, vI 0), (3, vI k), (0, .ref mo), (1, vI d)]) F.1 F.2.1 dX7_longest_52 rfl hl (by decide) rfl (fun ls hl => ?_)
        refine lv_iinc (v := iI (k + 1)) (lv' := [(3, vI (k + 1)), (2, vI (mx (fun j => seg (a 0) (rq a) j d) k)), (4, vI 0), (0, .ref mo), (1, vI d)]) F.1 F.2.1 dX7_longest_53 hl (k := 2) rfl (iinc_ok (by first | rfl | omega)) (by decide) rfl (fun ls hl => ?_)
        refine lv_goto (tgt := 4) F.1 F.2.1 dX7_longest_56 (by decide) ?_
        exact ih_4 (k + 1) ⟨by omega, by omega⟩ (show ((25 - (k + 1)).toNat) < ((25 - k).toNat) by omega) ls (lv_cv (lv_sub hl [0, 1, 3, 4] rfl) (by rw [← show (mx (fun j => seg (a 0) (rq a) j d) k : Int) = mx (fun u_j => seg (a 0) (rq a) u_j d) (k + 1) from by first | (rw [mx_s _ k0]; split <;> omega) | (rw [mx_s _ k0, rseg_no (by assumption)]; split <;> omega)]; rfl))
      · refine lv_iload F.1 F.2.1 dX7_longest_46 (lv_at hl 0 rfl) ?_
        refine lv_goto (tgt := 52) F.1 F.2.1 dX7_longest_48 (by decide) ?_
        refine lv_istore_n (lv' := [(2, vI 0), (4, vI 0), (3, vI k), (0, .ref mo), (1, vI d)]) F.1 F.2.1 dX7_longest_52 rfl hl (by decide) rfl (fun ls hl => ?_)
        refine lv_iinc (v := iI (k + 1)) (lv' := [(3, vI (k + 1)), (2, vI 0), (4, vI 0), (0, .ref mo), (1, vI d)]) F.1 F.2.1 dX7_longest_53 hl (k := 2) rfl (iinc_ok (by first | rfl | omega)) (by decide) rfl (fun ls hl => ?_)
        refine lv_goto (tgt := 4) F.1 F.2.1 dX7_longest_56 (by decide) ?_
        exact ih_4 (k + 1) ⟨by omega, by omega⟩ (show ((25 - (k + 1)).toNat) < ((25 - k).toNat) by omega) ls (lv_cv (lv_sub hl [0, 1, 3, 4] rfl) (by rw [← show (0 : Int) = mx (fun u_j => seg (a 0) (rq a) u_j d) (k + 1) from by first | (rw [mx_s _ k0]; split <;> omega) | (rw [mx_s _ k0, rseg_no (by assumption)]; split <;> omega)]; rfl))
    · refine lv_aload_n F.1 F.2.1 dX7_longest_25 rfl (lv_at hl 2 rfl) ?_
      refine gf7_1 F hK hP 0 rfl tw875 dX7_longest_26 ?_
      refine lv_iload_n F.1 F.2.1 dX7_longest_29 rfl (lv_at hl 0 rfl) ?_
      refine lv_iload_n F.1 F.2.1 dX7_longest_30 rfl (lv_at hl 3 rfl) ?_
      refine rr_rdS (rest := []) F hK (c_X7_longOf l D cy no a k d (by first | assumption | omega | exact ⟨by omega, by omega⟩) (by first | assumption | omega | exact ⟨by omega, by omega⟩) (by first | assumption | omega | exact ⟨by omega, by omega⟩) (by first | assumption | omega | exact ⟨by omega, by omega⟩)) (hP.sub [1] rfl) sf_X7_longOf tw1014 ⟨Nat.le_of_ble_eq_true rfl, Nat.le_of_ble_eq_true rfl⟩ hl rfl (Nat.le_of_ble_eq_true rfl) dX7_longest_31 ⟨Nat.zero_le _, Nat.zero_le _⟩ ?_
      have q_31_0 := (seg_rng (n := a 0) (by omega) (rq a) k d)
      refine lv_goto (tgt := 38) F.1 F.2.1 dX7_longest_34 (by decide) ?_
      refine lv_istore (lv' := [(4, vI (seg (a 0) (rq a) k d)), (3, vI k), (2, vI (mx (fun j => seg (a 0) (rq a) j d) k)), (0, .ref mo), (1, vI d)]) F.1 F.2.1 dX7_longest_38 hl (by decide) rfl (fun ls hl => ?_)
      refine lv_iload F.1 F.2.1 dX7_longest_40 (lv_at hl 0 rfl) ?_
      refine lv_iload_n F.1 F.2.1 dX7_longest_42 rfl (lv_at hl 2 rfl) ?_
      refine rr_icmp_le F (tgt := 51) dX7_longest_43 (by decide) ⟨by omega, by omega⟩ ⟨by omega, by omega⟩ (fun c_43 => ?_) (fun c_43 => ?_)
      · refine lv_iload_n F.1 F.2.1 dX7_longest_51 rfl (lv_at hl 2 rfl) ?_
        refine lv_istore_n (lv' := [(2, vI (mx (fun j => seg (a 0) (rq a) j d) k)), (4, vI (seg (a 0) (rq a) k d)), (3, vI k), (0, .ref mo), (1, vI d)]) F.1 F.2.1 dX7_longest_52 rfl hl (by decide) rfl (fun ls hl => ?_)
        refine lv_iinc (v := iI (k + 1)) (lv' := [(3, vI (k + 1)), (2, vI (mx (fun j => seg (a 0) (rq a) j d) k)), (4, vI (seg (a 0) (rq a) k d)), (0, .ref mo), (1, vI d)]) F.1 F.2.1 dX7_longest_53 hl (k := 2) rfl (iinc_ok (by first | rfl | omega)) (by decide) rfl (fun ls hl => ?_)
        refine lv_goto (tgt := 4) F.1 F.2.1 dX7_longest_56 (by decide) ?_
        exact ih_4 (k + 1) ⟨by omega, by omega⟩ (show ((25 - (k + 1)).toNat) < ((25 - k).toNat) by omega) ls (lv_cv (lv_sub hl [0, 1, 3, 4] rfl) (by rw [← show (mx (fun j => seg (a 0) (rq a) j d) k : Int) = mx (fun u_j => seg (a 0) (rq a) u_j d) (k + 1) from by first | (rw [mx_s _ k0]; split <;> omega) | (rw [mx_s _ k0, rseg_no (by assumption)]; split <;> omega)]; rfl))
      · refine lv_iload F.1 F.2.1 dX7_longest_46 (lv_at hl 0 rfl) ?_
        refine lv_goto (tgt := 52) F.1 F.2.1 dX7_longest_48 (by decide) ?_
        refine lv_istore_n (lv' := [(2, vI (seg (a 0) (rq a) k d)), (4, vI (seg (a 0) (rq a) k d)), (3, vI k), (0, .ref mo), (1, vI d)]) F.1 F.2.1 dX7_longest_52 rfl hl (by decide) rfl (fun ls hl => ?_)
        refine lv_iinc (v := iI (k + 1)) (lv' := [(3, vI (k + 1)), (2, vI (seg (a 0) (rq a) k d)), (4, vI (seg (a 0) (rq a) k d)), (0, .ref mo), (1, vI d)]) F.1 F.2.1 dX7_longest_53 hl (k := 2) rfl (iinc_ok (by first | rfl | omega)) (by decide) rfl (fun ls hl => ?_)
        refine lv_goto (tgt := 4) F.1 F.2.1 dX7_longest_56 (by decide) ?_
        exact ih_4 (k + 1) ⟨by omega, by omega⟩ (show ((25 - (k + 1)).toNat) < ((25 - k).toNat) by omega) ls (lv_cv (lv_sub hl [0, 1, 3, 4] rfl) (by rw [← show (seg (a 0) (rq a) k d : Int) = mx (fun u_j => seg (a 0) (rq a) u_j d) (k + 1) from by first | (rw [mx_s _ k0]; split <;> omega) | (rw [mx_s _ k0, rseg_no (by assumption)]; split <;> omega)]; rfl))
set_option maxRecDepth 100000 in
set_option maxHeartbeats 4000000 in
theorem c_X7_found (l : Launch) (D : va_G) (cy : Nat → ClassId) (mo no th pa sl sv tx : Nat) (tr ss ty : Int) (a : Int → Int) (w d kk : Int) (hM : MR a) (hw : 0 ≤ w ∧ w < a 25) (hd : 0 ≤ d ∧ d ≤ 1) (hk : 0 ≤ kk ∧ kk < 2147483648) : Rd l yX7_found cX7_found 6 (some FieldType.int) 2 [.ref mo, vI w, vI d, vI kk] D cy [(mo, .inr (7, [vI tr, .ref no, .ref th, .ref pa, vI ss, .ref sl, .ref sv, .ref tx, vI ty])), (no, .inl (cy 1, 118, .inl (iA a)))] (kpl (fun j => rbl a w ≤ a 0 ∧ stn (a 0) (rq a) (rbl a w) (rbc a w) j d) kk (a 0)) := by
  refine Rd.of RX7 rfl [(0, .ref mo), (1, vI w), (2, vI d), (3, vI kk)] rfl (by decide +kernel) (Nat.le_of_ble_eq_true rfl) ?_
  intro p e s m args below meth c F hr hlocks hK hP ls hl
  have hn0 := hM.n
  have hw0 := hM.nw
  have hc0 := hM.wc
  have hb := hM.b hw.1 hw.2
  refine lv_iload_n F.1 F.2.1 dX7_found_0 rfl (lv_at hl 3 rfl) ?_
  refine lv_istore (lv' := [(4, vI kk), (0, .ref mo), (1, vI w), (2, vI d), (3, vI kk)]) F.1 F.2.1 dX7_found_1 hl (by decide) rfl (fun ls hl => ?_)
  refine rr_iconst F dX7_found_3 ?_
  refine lv_istore (lv' := [(5, vI 0), (4, vI kk), (0, .ref mo), (1, vI w), (2, vI d), (3, vI kk)]) F.1 F.2.1 dX7_found_4 hl (by decide) rfl (fun ls hl => ?_)
  refine rr_loop1 (fun k => (0 ≤ k) ∧ (k ≤ a 0) ∧ (∀ j, 0 ≤ j → j < k → ¬ ((rbl a w ≤ a 0 ∧ stn (a 0) (rq a) (rbl a w) (rbc a w) j d) ∧ cnt (fun j => rbl a w ≤ a 0 ∧ stn (a 0) (rq a) (rbl a w) (rbc a w) j d) j = kk))) (fun k => (25 - k).toNat) (fun k => [(5, vI k), (4, vI (kk - cnt (fun j => rbl a w ≤ a 0 ∧ stn (a 0) (rq a) (rbl a w) (rbc a w) j d) k)), (0, .ref mo), (1, vI w), (2, vI d), (3, vI kk)]) ?_ 0 ⟨by omega, by omega, fun j x y => by omega⟩ (lv_cv (lv_sub hl [0, 1, 2, 3, 4, 5] rfl) (by rw [← show (kk : Int) = kk - cnt (fun u_j => rbl a w ≤ a 0 ∧ stn (a 0) (rq a) (rbl a w) (rbc a w) u_j d) 0 from by (rw [cnt_0]; omega)]; rfl))
  intro k hI ih_6 ls hl
  obtain ⟨k0, k1, kq⟩ := hI
  have hl : lv_has ls 6 [(5, vI k), (4, vI (kk - cnt (fun j => rbl a w ≤ a 0 ∧ stn (a 0) (rq a) (rbl a w) (rbc a w) j d) k)), (0, .ref mo), (1, vI w), (2, vI d), (3, vI kk)] := hl
  have cr := cnt_rng (fun j => rbl a w ≤ a 0 ∧ stn (a 0) (rq a) (rbl a w) (rbc a w) j d) k0
  refine lv_iload F.1 F.2.1 dX7_found_6 (lv_at hl 0 rfl) ?_
  refine lv_aload_n F.1 F.2.1 dX7_found_8 rfl (lv_at hl 2 rfl) ?_
  refine gf7_1 F hK hP 0 rfl tw875 dX7_found_9 ?_
  refine rr_iconst F dX7_found_12 ?_
  refine rr_iald F hK hP 1 rfl (by omega) (by omega) (by decide) dX7_found_13 ?_
  refine rr_icmp_ge F (tgt := 69) dX7_found_14 (by decide) ⟨by omega, by omega⟩ ⟨by omega, by omega⟩ (fun c_14 => ?_) (fun c_14 => ?_)
  · refine rr_iconst F dX7_found_69 ?_
    exact rr_iret F hr hlocks dX7_found_70 (kpl_miss (by omega) (fun j x y h => by first | exact kq j x (by omega) h | (have h1 : a (26 + 7 * w) ≤ a 0 := h.1.1; omega)))
  · refine lv_aload_n F.1 F.2.1 dX7_found_17 rfl (lv_at hl 2 rfl) ?_
    refine gf7_1 F hK hP 0 rfl tw875 dX7_found_18 ?_
    refine rr_bipush F dX7_found_21 (by decide) ?_
    refine rr_bipush F dX7_found_23 (by decide) ?_
    refine lv_iload_n F.1 F.2.1 dX7_found_25 rfl (lv_at hl 3 rfl) ?_
    refine rr_imul F (z := 7 * w) dX7_found_26 (by first | rfl | omega) ?_
    refine rr_iadd F (z := 26 + (7 * w)) dX7_found_27 (by first | rfl | omega) ?_
    refine rr_iald F hK hP 1 rfl (by omega) (by omega) (by decide) dX7_found_28 ?_
    refine lv_aload_n F.1 F.2.1 dX7_found_29 rfl (lv_at hl 2 rfl) ?_
    refine gf7_1 F hK hP 0 rfl tw875 dX7_found_30 ?_
    refine rr_iconst F dX7_found_33 ?_
    refine rr_iald F hK hP 1 rfl (by omega) (by omega) (by decide) dX7_found_34 ?_
    refine rr_icmp_gt F (tgt := 69) dX7_found_35 (by decide) ⟨by omega, by omega⟩ ⟨by omega, by omega⟩ (fun c_35 => ?_) (fun c_35 => ?_)
    · refine rr_iconst F dX7_found_69 ?_
      exact rr_iret F hr hlocks dX7_found_70 (kpl_miss (by omega) (fun j x y h => by first | exact kq j x (by omega) h | (have h1 : a (26 + 7 * w) ≤ a 0 := h.1.1; omega)))
    · refine lv_aload_n F.1 F.2.1 dX7_found_38 rfl (lv_at hl 2 rfl) ?_
      refine gf7_1 F hK hP 0 rfl tw875 dX7_found_39 ?_
      refine lv_iload_n F.1 F.2.1 dX7_found_42 rfl (lv_at hl 3 rfl) ?_
      refine lv_iload F.1 F.2.1 dX7_found_43 (lv_at hl 0 rfl) ?_
      refine lv_iload_n F.1 F.2.1 dX7_found_45 rfl (lv_at hl 4 rfl) ?_
      refine rr_rdS (rest := []) F hK (c_X7_stands l D cy no a w k d (by first | assumption | omega | exact ⟨by omega, by omega⟩) (by first | assumption | omega | exact ⟨by omega, by omega⟩) (by first | assumption | omega | exact ⟨by omega, by omega⟩) (by first | assumption | omega | exact ⟨by omega, by omega⟩)) (hP.sub [1] rfl) sf_X7_stands tw1026 ⟨Nat.le_of_ble_eq_true rfl, Nat.le_of_ble_eq_true rfl⟩ hl rfl (Nat.le_of_ble_eq_true rfl) dX7_found_46 ⟨Nat.zero_le _, Nat.zero_le _⟩ ?_
      refine rr_ifP_eq F (tgt := 63) dX7_found_49 (by decide) (fun c_49 => ?_) (fun c_49 => ?_)
      · refine lv_iinc (v := iI (k + 1)) (lv' := [(5, vI (k + 1)), (4, vI (kk - cnt (fun j => rbl a w ≤ a 0 ∧ stn (a 0) (rq a) (rbl a w) (rbc a w) j d) k)), (0, .ref mo), (1, vI w), (2, vI d), (3, vI kk)]) F.1 F.2.1 dX7_found_63 hl (k := 0) rfl (iinc_ok (by first | rfl | omega)) (by decide) rfl (fun ls hl => ?_)
        refine lv_goto (tgt := 6) F.1 F.2.1 dX7_found_66 (by decide) ?_
        exact ih_6 (k + 1) ⟨by omega, by omega, fun j x y => (if hj : j = k then by subst hj; intro h; first | exact c_49 h.1.2 | (have := h.2; omega) else kq j x (by omega))⟩ (show ((25 - (k + 1)).toNat) < ((25 - k).toNat) by omega) ls (lv_cv (lv_sub hl [0, 1, 2, 3, 4, 5] rfl) (by rw [← show (kk - cnt (fun j => rbl a w ≤ a 0 ∧ stn (a 0) (rq a) (rbl a w) (rbc a w) j d) k : Int) = kk - cnt (fun u_j => rbl a w ≤ a 0 ∧ stn (a 0) (rq a) (rbl a w) (rbc a w) u_j d) (k + 1) from by first | (rw [← cnt_n (P := fun j => rbl a w ≤ a 0 ∧ stn (a 0) (rq a) (rbl a w) (rbc a w) j d) k0 (fun h => c_49 h.2)]) | (rw [← cnt_y (P := fun j => rbl a w ≤ a 0 ∧ stn (a 0) (rq a) (rbl a w) (rbc a w) j d) k0 ⟨by show a (26 + 7 * w) ≤ a 0; omega, c_49⟩]; omega)]; rfl))
      · refine lv_iload F.1 F.2.1 dX7_found_52 (lv_at hl 1 rfl) ?_
        refine rr_if_ne F (tgt := 60) dX7_found_54 (by decide) ⟨by omega, by omega⟩ (fun c_54 => ?_) (fun c_54 => ?_)
        · refine lv_iinc (v := iI ((kk - cnt (fun j => rbl a w ≤ a 0 ∧ stn (a 0) (rq a) (rbl a w) (rbc a w) j d) k) - 1)) (lv' := [(4, vI ((kk - cnt (fun j => rbl a w ≤ a 0 ∧ stn (a 0) (rq a) (rbl a w) (rbc a w) j d) k) - 1)), (5, vI k), (0, .ref mo), (1, vI w), (2, vI d), (3, vI kk)]) F.1 F.2.1 dX7_found_60 hl (k := 1) rfl (iinc_ok (by first | rfl | omega)) (by decide) rfl (fun ls hl => ?_)
          refine lv_iinc (v := iI (k + 1)) (lv' := [(5, vI (k + 1)), (4, vI ((kk - cnt (fun j => rbl a w ≤ a 0 ∧ stn (a 0) (rq a) (rbl a w) (rbc a w) j d) k) - 1)), (0, .ref mo), (1, vI w), (2, vI d), (3, vI kk)]) F.1 F.2.1 dX7_found_63 hl (k := 1) rfl (iinc_ok (by first | rfl | omega)) (by decide) rfl (fun ls hl => ?_)
          refine lv_goto (tgt := 6) F.1 F.2.1 dX7_found_66 (by decide) ?_
          exact ih_6 (k + 1) ⟨by omega, by omega, fun j x y => (if hj : j = k then by subst hj; intro h; first | exact c_49 h.1.2 | (have := h.2; omega) else kq j x (by omega))⟩ (show ((25 - (k + 1)).toNat) < ((25 - k).toNat) by omega) ls (lv_cv (lv_sub hl [0, 1, 2, 3, 4, 5] rfl) (by rw [← show ((kk - cnt (fun j => rbl a w ≤ a 0 ∧ stn (a 0) (rq a) (rbl a w) (rbc a w) j d) k) - 1 : Int) = kk - cnt (fun u_j => rbl a w ≤ a 0 ∧ stn (a 0) (rq a) (rbl a w) (rbc a w) u_j d) (k + 1) from by first | (rw [← cnt_n (P := fun j => rbl a w ≤ a 0 ∧ stn (a 0) (rq a) (rbl a w) (rbc a w) j d) k0 (fun h => c_49 h.2)]) | (rw [← cnt_y (P := fun j => rbl a w ≤ a 0 ∧ stn (a 0) (rq a) (rbl a w) (rbc a w) j d) k0 ⟨by show a (26 + 7 * w) ≤ a 0; omega, c_49⟩]; omega)]; rfl))
        · refine lv_iload F.1 F.2.1 dX7_found_57 (lv_at hl 0 rfl) ?_
          exact rr_iret F hr hlocks dX7_found_59 (kpl_hit k0 (by omega) ⟨by show a (26 + 7 * w) ≤ a 0; omega, c_49⟩ (by omega) kq)
set_option maxRecDepth 100000 in
set_option maxHeartbeats 4000000 in
theorem c_X7_letters (l : Launch) (D : va_G) (cy : Nat → ClassId) (mo no th pa sl sv tx : Nat) (tr ss ty : Int) (a : Int → Int) (p0 d : Int) (hM : MR a) (hp : 0 ≤ p0 ∧ p0 < a 0) (hd : 0 ≤ d ∧ d ≤ 1) : Rd l yX7_letters cX7_letters 7 (some FieldType.int) 3 [.ref mo, vI p0, vI d] D cy [(mo, .inr (7, [vI tr, .ref no, .ref th, .ref pa, vI ss, .ref sl, .ref sv, .ref tx, vI ty])), (no, .inl (cy 1, 118, .inl (iA a)))] (cbe (a 0) (rq a) (a 25) (rbl a) (rbc a) p0 d) := by
  refine Rd.of RX7 rfl [(0, .ref mo), (1, vI p0), (2, vI d)] rfl (by decide +kernel) (Nat.le_of_ble_eq_true rfl) ?_
  intro p e s m args below meth c F hr hlocks hK hP ls hl
  have hn0 := hM.n
  have hw0 := hM.nw
  have hc0 := hM.wc
  refine rr_iconst F dX7_letters_0 ?_
  refine lv_istore_n (lv' := [(3, vI 0), (0, .ref mo), (1, vI p0), (2, vI d)]) F.1 F.2.1 dX7_letters_1 rfl hl (by decide) rfl (fun ls hl => ?_)
  refine rr_loop1 (fun k => (0 ≤ k) ∧ (k ≤ a 0) ∧ (∀ j, 0 ≤ j → j < k → ¬ rq a (off (a 0) p0 (1 - d) j) = 0)) (fun k => (25 - k).toNat) (fun k => [(3, vI k), (0, .ref mo), (1, vI p0), (2, vI d)]) ?_ 0 ⟨by omega, by omega, fun j x y => by omega⟩ (lv_sub hl [0, 1, 2, 3] rfl)
  intro k hI ih_2 ls hl
  obtain ⟨k0, k1, kq⟩ := hI
  have hl : lv_has ls 7 [(3, vI k), (0, .ref mo), (1, vI p0), (2, vI d)] := hl
  refine lv_iload_n F.1 F.2.1 dX7_letters_2 rfl (lv_at hl 0 rfl) ?_
  refine lv_aload_n F.1 F.2.1 dX7_letters_3 rfl (lv_at hl 1 rfl) ?_
  refine gf7_1 F hK hP 0 rfl tw875 dX7_letters_4 ?_
  refine rr_iconst F dX7_letters_7 ?_
  refine rr_iald F hK hP 1 rfl (by omega) (by omega) (by decide) dX7_letters_8 ?_
  refine rr_icmp_ge F (tgt := 40) dX7_letters_9 (by decide) ⟨by omega, by omega⟩ ⟨by omega, by omega⟩ (fun c_9 => ?_) (fun c_9 => ?_)
  · refine rr_iconst F dX7_letters_40 ?_
    refine lv_istore (lv' := [(4, vI 0), (3, vI k), (0, .ref mo), (1, vI p0), (2, vI d)]) F.1 F.2.1 dX7_letters_41 hl (by decide) rfl (fun ls hl => ?_)
    refine lv_iload_n F.1 F.2.1 dX7_letters_43 rfl (lv_at hl 1 rfl) ?_
    refine rr_if_le F (tgt := 135) dX7_letters_44 (by decide) ⟨by omega, by omega⟩ (fun c_44 => ?_) (fun c_44 => ?_)
    · refine lv_iload F.1 F.2.1 dX7_letters_135 (lv_at hl 0 rfl) ?_
      exact rr_iret F hr hlocks dX7_letters_137 (by first | (rw [show j = a 25 by omega]; exact cbe_y hdf (by omega)) | exact cbe_0 (by rw [← dfd_miss (q := rq a) (d := d) (by omega : 0 ≤ a 0) (fun j x y => kq j x (by omega))]; omega) | (have hdv : a (1 + off (a 0) p0 (1 - d) k) = 0 := by assumption); exact cbe_0 (by rw [← dfd_hit (q := rq a) k0 (by omega) hdv kq]; omega))
    · refine lv_iload_n F.1 F.2.1 dX7_letters_47 rfl (lv_at hl 1 rfl) ?_
      refine lv_aload_n F.1 F.2.1 dX7_letters_48 rfl (lv_at hl 2 rfl) ?_
      refine gf7_1 F hK hP 0 rfl tw875 dX7_letters_49 ?_
      refine rr_iconst F dX7_letters_52 ?_
      refine rr_iald F hK hP 1 rfl (by omega) (by omega) (by decide) dX7_letters_53 ?_
      refine rr_icmp_ge F (tgt := 135) dX7_letters_54 (by decide) ⟨by omega, by omega⟩ ⟨by omega, by omega⟩ (fun c_54 => ?_) (fun c_54 => ?_)
      · refine lv_iload F.1 F.2.1 dX7_letters_135 (lv_at hl 0 rfl) ?_
        exact rr_iret F hr hlocks dX7_letters_137 (by first | (rw [show j = a 25 by omega]; exact cbe_y hdf (by omega)) | exact cbe_0 (by rw [← dfd_miss (q := rq a) (d := d) (by omega : 0 ≤ a 0) (fun j x y => kq j x (by omega))]; omega) | (have hdv : a (1 + off (a 0) p0 (1 - d) k) = 0 := by assumption); exact cbe_0 (by rw [← dfd_hit (q := rq a) k0 (by omega) hdv kq]; omega))
      · have hdv : a (1 + off (a 0) p0 (1 - d) k) = 0 := by first | assumption | (exfalso; omega)
        have hdf := dfd_hit (q := rq a) k0 c_54 hdv kq
        have hsc := seg_cov (q := rq a) hd (by omega : 0 < k) c_54 hdv kq
        refine lv_aload_n F.1 F.2.1 dX7_letters_57 rfl (lv_at hl 2 rfl) ?_
        refine gf7_1 F hK hP 0 rfl tw875 dX7_letters_58 ?_
        refine lv_iload_n F.1 F.2.1 dX7_letters_61 rfl (lv_at hl 3 rfl) ?_
        refine rr_iconst F dX7_letters_62 ?_
        refine lv_iload_n F.1 F.2.1 dX7_letters_63 rfl (lv_at hl 4 rfl) ?_
        refine rr_isub F (z := 1 - d) dX7_letters_64 (by first | rfl | omega) ?_
        refine lv_iload_n F.1 F.2.1 dX7_letters_65 rfl (lv_at hl 1 rfl) ?_
        refine rr_rdS (rest := []) F hK (c_X7_off l D cy no a p0 (1 - d) k (by first | assumption | omega | exact ⟨by omega, by omega⟩) (by first | assumption | omega | exact ⟨by omega, by omega⟩) (by first | assumption | omega | exact ⟨by omega, by omega⟩) (by first | assumption | omega | exact ⟨by omega, by omega⟩)) (hP.sub [1] rfl) sf_X7_off tw962 ⟨Nat.le_of_ble_eq_true rfl, Nat.le_of_ble_eq_true rfl⟩ hl rfl (Nat.le_of_ble_eq_true rfl) dX7_letters_66 ⟨Nat.zero_le _, Nat.zero_le _⟩ ?_
        have q_66_0 := (off_rng (n := a 0) (by omega) p0 (1 - d) k)
        refine lv_istore (lv' := [(5, vI (off (a 0) p0 (1 - d) k)), (4, vI 0), (3, vI k), (0, .ref mo), (1, vI p0), (2, vI d)]) F.1 F.2.1 dX7_letters_69 hl (by decide) rfl (fun ls hl => ?_)
        refine rr_iconst F dX7_letters_71 ?_
        refine lv_istore (lv' := [(6, vI 0), (5, vI (off (a 0) p0 (1 - d) k)), (4, vI 0), (3, vI k), (0, .ref mo), (1, vI p0), (2, vI d)]) F.1 F.2.1 dX7_letters_72 hl (by decide) rfl (fun ls hl => ?_)
        refine rr_loop1 (fun j => (0 ≤ j) ∧ (j ≤ a 25)) (fun j => (11 - j).toNat) (fun j => [(6, vI j), (5, vI (off (a 0) p0 (1 - d) k)), (4, vI (lts (fun w => k - 1 < rbl a w ∧ ft (a 0) (rq a) (rbl a w) (rbc a w) (off (a 0) p0 (1 - d) k) d) (fun w => rbc a w (k - 1) - 1) j)), (3, vI k), (0, .ref mo), (1, vI p0), (2, vI d)]) ?_ 0 ⟨by omega, by omega⟩ (lv_cv (lv_sub hl [0, 1, 2, 3, 4, 5, 6] rfl) (by rw [← show (0 : Int) = lts (fun u_w => k - 1 < rbl a u_w ∧ ft (a 0) (rq a) (rbl a u_w) (rbc a u_w) (off (a 0) p0 (1 - d) k) d) (fun u_w => rbc a u_w (k - 1) - 1) 0 from by rfl]; rfl))
        intro j hI ih_74 ls hl
        obtain ⟨j0, j1⟩ := hI
        have hl : lv_has ls 7 [(6, vI j), (5, vI (off (a 0) p0 (1 - d) k)), (4, vI (lts (fun w => k - 1 < rbl a w ∧ ft (a 0) (rq a) (rbl a w) (rbc a w) (off (a 0) p0 (1 - d) k) d) (fun w => rbc a w (k - 1) - 1) j)), (3, vI k), (0, .ref mo), (1, vI p0), (2, vI d)] := hl
        have lr := lts_rng (C := fun w => k - 1 < rbl a w ∧ ft (a 0) (rq a) (rbl a w) (rbc a w) (off (a 0) p0 (1 - d) k) d) (f := fun w => rbc a w (k - 1) - 1) j0 (fun w x y hc => by have h : 1 ≤ rbc a w (k - 1) ∧ rbc a w (k - 1) ≤ 8 := (hM.b x (by omega)).2 (k - 1) (by omega) hc.1; omega)
        refine lv_iload F.1 F.2.1 dX7_letters_74 (lv_at hl 0 rfl) ?_
        refine lv_aload_n F.1 F.2.1 dX7_letters_76 rfl (lv_at hl 4 rfl) ?_
        refine gf7_1 F hK hP 0 rfl tw875 dX7_letters_77 ?_
        refine rr_bipush F dX7_letters_80 (by decide) ?_
        refine rr_iald F hK hP 1 rfl (by omega) (by omega) (by decide) dX7_letters_82 ?_
        refine rr_icmp_ge F (tgt := 135) dX7_letters_83 (by decide) ⟨by omega, by omega⟩ ⟨by omega, by omega⟩ (fun c_83 => ?_) (fun c_83 => ?_)
        · refine lv_iload F.1 F.2.1 dX7_letters_135 (lv_at hl 2 rfl) ?_
          exact rr_iret F hr hlocks dX7_letters_137 (by first | (rw [show j = a 25 by omega]; exact cbe_y hdf (by omega)) | exact cbe_0 (by rw [← dfd_miss (q := rq a) (d := d) (by omega : 0 ≤ a 0) (fun j x y => kq j x (by omega))]; omega) | (have hdv : a (1 + off (a 0) p0 (1 - d) k) = 0 := by assumption); exact cbe_0 (by rw [← dfd_hit (q := rq a) k0 (by omega) hdv kq]; omega))
        · refine lv_iload F.1 F.2.1 dX7_letters_86 (lv_at hl 2 rfl) ?_
          refine lv_aload_n F.1 F.2.1 dX7_letters_88 rfl (lv_at hl 4 rfl) ?_
          refine gf7_1 F hK hP 0 rfl tw875 dX7_letters_89 ?_
          refine lv_iload F.1 F.2.1 dX7_letters_92 (lv_at hl 0 rfl) ?_
          refine lv_iload F.1 F.2.1 dX7_letters_94 (lv_at hl 1 rfl) ?_
          refine lv_iload_n F.1 F.2.1 dX7_letters_96 rfl (lv_at hl 6 rfl) ?_
          refine rr_rdS (rest := [vI (lts (fun w => k - 1 < rbl a w ∧ ft (a 0) (rq a) (rbl a w) (rbc a w) (off (a 0) p0 (1 - d) k) d) (fun w => rbc a w (k - 1) - 1) j)]) F hK (c_X7_isFit l D cy no a j (off (a 0) p0 (1 - d) k) d (by first | assumption | omega | exact ⟨by omega, by omega⟩) (by first | assumption | omega | exact ⟨by omega, by omega⟩) (by first | assumption | omega | exact ⟨by omega, by omega⟩) (by first | assumption | omega | exact ⟨by omega, by omega⟩) (by first | assumption | omega | exact ⟨by omega, by omega⟩)) (hP.sub [1] rfl) sf_X7_isFit tw1023 ⟨Nat.le_of_ble_eq_true rfl, Nat.le_of_ble_eq_true rfl⟩ hl rfl (Nat.le_of_ble_eq_true rfl) dX7_letters_97 ⟨Nat.zero_le _, Nat.zero_le _⟩ ?_
          refine rr_ifP_eq F (tgt := 125) dX7_letters_100 (by decide) (fun c_100 => ?_) (fun c_100 => ?_)
          · refine rr_iconst F dX7_letters_125 ?_
            refine rr_ior F (z := lts (fun w => k - 1 < rbl a w ∧ ft (a 0) (rq a) (rbl a w) (rbc a w) (off (a 0) p0 (1 - d) k) d) (fun w => rbc a w (k - 1) - 1) (j + 1)) dX7_letters_126 (by first | exact ⟨lr.1, by have := p2_rng (k := a (26 + 7 * j + k) - 1) (by omega) (by omega); omega, by rw [← lts_y (C := fun w => k - 1 < rbl a w ∧ ft (a 0) (rq a) (rbl a w) (rbc a w) (off (a 0) p0 (1 - d) k) d) (f := fun w => rbc a w (k - 1) - 1) j0 ⟨by show k - 1 < a (26 + 7 * j); omega, c_100⟩]; show bor _ (p2 (a (26 + 7 * j + k) - 1)) = bor _ (p2 (a (26 + 7 * j + 1 + (k - 1)) - 1)); rw [hie]⟩ | exact ⟨lr.1, by omega, by rw [bor_0 lr.1]; exact lts_n (C := fun w => k - 1 < rbl a w ∧ ft (a 0) (rq a) (rbl a w) (rbc a w) (off (a 0) p0 (1 - d) k) d) (f := fun w => rbc a w (k - 1) - 1) j0 (fun h => c_100 h.2)⟩) ?_
            refine lv_istore (lv' := [(4, vI (lts (fun w => k - 1 < rbl a w ∧ ft (a 0) (rq a) (rbl a w) (rbc a w) (off (a 0) p0 (1 - d) k) d) (fun w => rbc a w (k - 1) - 1) (j + 1))), (6, vI j), (5, vI (off (a 0) p0 (1 - d) k)), (3, vI k), (0, .ref mo), (1, vI p0), (2, vI d)]) F.1 F.2.1 dX7_letters_127 hl (by decide) rfl (fun ls hl => ?_)
            refine lv_iinc (v := iI (j + 1)) (lv' := [(6, vI (j + 1)), (4, vI (lts (fun w => k - 1 < rbl a w ∧ ft (a 0) (rq a) (rbl a w) (rbc a w) (off (a 0) p0 (1 - d) k) d) (fun w => rbc a w (k - 1) - 1) (j + 1))), (5, vI (off (a 0) p0 (1 - d) k)), (3, vI k), (0, .ref mo), (1, vI p0), (2, vI d)]) F.1 F.2.1 dX7_letters_129 hl (k := 1) rfl (iinc_ok (by first | rfl | omega)) (by decide) rfl (fun ls hl => ?_)
            refine lv_goto (tgt := 74) F.1 F.2.1 dX7_letters_132 (by decide) ?_
            exact ih_74 (j + 1) ⟨by omega, by omega⟩ (show ((11 - (j + 1)).toNat) < ((11 - j).toNat) by omega) ls (lv_sub hl [0, 2, 1, 3, 4, 5, 6] rfl)
          · have hbl : a (26 + 7 * j) = seg (a 0) (rq a) (off (a 0) p0 (1 - d) k) d := c_100.1
            have hb := hM.b j0 c_83
            have hbc := hb.2 (k - 1) (by omega) (by omega)
            have hie : a (26 + 7 * j + 1 + (k - 1)) = a (26 + 7 * j + k) := by rw [show 26 + 7 * j + 1 + (k - 1) = 26 + 7 * j + k by omega]
            rw [hie] at hbc
            refine rr_iconst F dX7_letters_103 ?_
            refine lv_aload_n F.1 F.2.1 dX7_letters_104 rfl (lv_at hl 4 rfl) ?_
            refine gf7_1 F hK hP 0 rfl tw875 dX7_letters_105 ?_
            refine rr_bipush F dX7_letters_108 (by decide) ?_
            refine rr_bipush F dX7_letters_110 (by decide) ?_
            refine lv_iload F.1 F.2.1 dX7_letters_112 (lv_at hl 0 rfl) ?_
            refine rr_imul F (z := 7 * j) dX7_letters_114 (by first | rfl | omega) ?_
            refine rr_iadd F (z := 26 + (7 * j)) dX7_letters_115 (by first | rfl | omega) ?_
            refine lv_iload_n F.1 F.2.1 dX7_letters_116 rfl (lv_at hl 3 rfl) ?_
            refine rr_iadd F (z := (26 + (7 * j)) + k) dX7_letters_117 (by first | rfl | omega) ?_
            refine rr_iald F hK hP 1 rfl (by omega) (by omega) (by decide) dX7_letters_118 ?_
            refine rr_iconst F dX7_letters_119 ?_
            refine rr_isub F (z := (a ((26 + (7 * j)) + k)) - 1) dX7_letters_120 (by first | rfl | omega) ?_
            refine rr_ishl F (z := p2 (a (26 + 7 * j + k) - 1)) dX7_letters_121 ⟨rfl, by omega, by omega, rfl⟩ ?_
            refine lv_goto (tgt := 126) F.1 F.2.1 dX7_letters_122 (by decide) ?_
            refine rr_ior F (z := lts (fun w => k - 1 < rbl a w ∧ ft (a 0) (rq a) (rbl a w) (rbc a w) (off (a 0) p0 (1 - d) k) d) (fun w => rbc a w (k - 1) - 1) (j + 1)) dX7_letters_126 (by first | exact ⟨lr.1, by have := p2_rng (k := a (26 + 7 * j + k) - 1) (by omega) (by omega); omega, by rw [← lts_y (C := fun w => k - 1 < rbl a w ∧ ft (a 0) (rq a) (rbl a w) (rbc a w) (off (a 0) p0 (1 - d) k) d) (f := fun w => rbc a w (k - 1) - 1) j0 ⟨by show k - 1 < a (26 + 7 * j); omega, c_100⟩]; show bor _ (p2 (a (26 + 7 * j + k) - 1)) = bor _ (p2 (a (26 + 7 * j + 1 + (k - 1)) - 1)); rw [hie]⟩ | exact ⟨lr.1, by omega, by rw [bor_0 lr.1]; exact lts_n (C := fun w => k - 1 < rbl a w ∧ ft (a 0) (rq a) (rbl a w) (rbc a w) (off (a 0) p0 (1 - d) k) d) (f := fun w => rbc a w (k - 1) - 1) j0 (fun h => c_100 h.2)⟩) ?_
            refine lv_istore (lv' := [(4, vI (lts (fun w => k - 1 < rbl a w ∧ ft (a 0) (rq a) (rbl a w) (rbc a w) (off (a 0) p0 (1 - d) k) d) (fun w => rbc a w (k - 1) - 1) (j + 1))), (6, vI j), (5, vI (off (a 0) p0 (1 - d) k)), (3, vI k), (0, .ref mo), (1, vI p0), (2, vI d)]) F.1 F.2.1 dX7_letters_127 hl (by decide) rfl (fun ls hl => ?_)
            refine lv_iinc (v := iI (j + 1)) (lv' := [(6, vI (j + 1)), (4, vI (lts (fun w => k - 1 < rbl a w ∧ ft (a 0) (rq a) (rbl a w) (rbc a w) (off (a 0) p0 (1 - d) k) d) (fun w => rbc a w (k - 1) - 1) (j + 1))), (5, vI (off (a 0) p0 (1 - d) k)), (3, vI k), (0, .ref mo), (1, vI p0), (2, vI d)]) F.1 F.2.1 dX7_letters_129 hl (k := 1) rfl (iinc_ok (by first | rfl | omega)) (by decide) rfl (fun ls hl => ?_)
            refine lv_goto (tgt := 74) F.1 F.2.1 dX7_letters_132 (by decide) ?_
            exact ih_74 (j + 1) ⟨by omega, by omega⟩ (show ((11 - (j + 1)).toNat) < ((11 - j).toNat) by omega) ls (lv_sub hl [0, 2, 1, 3, 4, 5, 6] rfl)
  · refine lv_aload_n F.1 F.2.1 dX7_letters_12 rfl (lv_at hl 1 rfl) ?_
    refine gf7_1 F hK hP 0 rfl tw875 dX7_letters_13 ?_
    refine lv_aload_n F.1 F.2.1 dX7_letters_16 rfl (lv_at hl 1 rfl) ?_
    refine gf7_1 F hK hP 0 rfl tw875 dX7_letters_17 ?_
    refine lv_iload_n F.1 F.2.1 dX7_letters_20 rfl (lv_at hl 2 rfl) ?_
    refine rr_iconst F dX7_letters_21 ?_
    refine lv_iload_n F.1 F.2.1 dX7_letters_22 rfl (lv_at hl 3 rfl) ?_
    refine rr_isub F (z := 1 - d) dX7_letters_23 (by first | rfl | omega) ?_
    refine lv_iload_n F.1 F.2.1 dX7_letters_24 rfl (lv_at hl 0 rfl) ?_
    refine rr_rdS (rest := [.ref no]) F hK (c_X7_off l D cy no a p0 (1 - d) k (by first | assumption | omega | exact ⟨by omega, by omega⟩) (by first | assumption | omega | exact ⟨by omega, by omega⟩) (by first | assumption | omega | exact ⟨by omega, by omega⟩) (by first | assumption | omega | exact ⟨by omega, by omega⟩)) (hP.sub [1] rfl) sf_X7_off tw962 ⟨Nat.le_of_ble_eq_true rfl, Nat.le_of_ble_eq_true rfl⟩ hl rfl (Nat.le_of_ble_eq_true rfl) dX7_letters_25 ⟨Nat.zero_le _, Nat.zero_le _⟩ ?_
    have q_25_0 := (off_rng (n := a 0) (by omega) p0 (1 - d) k)
    have qq := hM.q q_25_0.1 q_25_0.2
    refine rr_rdS (rest := []) F hK (c_X7_isDivider l D cy no a (off (a 0) p0 (1 - d) k) (by first | assumption | omega | exact ⟨by omega, by omega⟩) (by first | assumption | omega | exact ⟨by omega, by omega⟩)) (hP.sub [1] rfl) sf_X7_isDivider tw948 ⟨Nat.le_of_ble_eq_true rfl, Nat.le_of_ble_eq_true rfl⟩ hl rfl (Nat.le_of_ble_eq_true rfl) dX7_letters_28 ⟨Nat.zero_le _, Nat.zero_le _⟩ ?_
    refine rr_ifP_ne F (tgt := 40) dX7_letters_31 (by decide) (fun c_31 => ?_) (fun c_31 => ?_)
    · refine rr_iconst F dX7_letters_40 ?_
      refine lv_istore (lv' := [(4, vI 0), (3, vI k), (0, .ref mo), (1, vI p0), (2, vI d)]) F.1 F.2.1 dX7_letters_41 hl (by decide) rfl (fun ls hl => ?_)
      refine lv_iload_n F.1 F.2.1 dX7_letters_43 rfl (lv_at hl 1 rfl) ?_
      refine rr_if_le F (tgt := 135) dX7_letters_44 (by decide) ⟨by omega, by omega⟩ (fun c_44 => ?_) (fun c_44 => ?_)
      · refine lv_iload F.1 F.2.1 dX7_letters_135 (lv_at hl 0 rfl) ?_
        exact rr_iret F hr hlocks dX7_letters_137 (by first | (rw [show j = a 25 by omega]; exact cbe_y hdf (by omega)) | exact cbe_0 (by rw [← dfd_miss (q := rq a) (d := d) (by omega : 0 ≤ a 0) (fun j x y => kq j x (by omega))]; omega) | (have hdv : a (1 + off (a 0) p0 (1 - d) k) = 0 := by assumption); exact cbe_0 (by rw [← dfd_hit (q := rq a) k0 (by omega) hdv kq]; omega))
      · refine lv_iload_n F.1 F.2.1 dX7_letters_47 rfl (lv_at hl 1 rfl) ?_
        refine lv_aload_n F.1 F.2.1 dX7_letters_48 rfl (lv_at hl 2 rfl) ?_
        refine gf7_1 F hK hP 0 rfl tw875 dX7_letters_49 ?_
        refine rr_iconst F dX7_letters_52 ?_
        refine rr_iald F hK hP 1 rfl (by omega) (by omega) (by decide) dX7_letters_53 ?_
        refine rr_icmp_ge F (tgt := 135) dX7_letters_54 (by decide) ⟨by omega, by omega⟩ ⟨by omega, by omega⟩ (fun c_54 => ?_) (fun c_54 => ?_)
        · refine lv_iload F.1 F.2.1 dX7_letters_135 (lv_at hl 0 rfl) ?_
          exact rr_iret F hr hlocks dX7_letters_137 (by first | (rw [show j = a 25 by omega]; exact cbe_y hdf (by omega)) | exact cbe_0 (by rw [← dfd_miss (q := rq a) (d := d) (by omega : 0 ≤ a 0) (fun j x y => kq j x (by omega))]; omega) | (have hdv : a (1 + off (a 0) p0 (1 - d) k) = 0 := by assumption); exact cbe_0 (by rw [← dfd_hit (q := rq a) k0 (by omega) hdv kq]; omega))
        · have hdv : a (1 + off (a 0) p0 (1 - d) k) = 0 := by first | assumption | (exfalso; omega)
          have hdf := dfd_hit (q := rq a) k0 c_54 hdv kq
          have hsc := seg_cov (q := rq a) hd (by omega : 0 < k) c_54 hdv kq
          refine lv_aload_n F.1 F.2.1 dX7_letters_57 rfl (lv_at hl 2 rfl) ?_
          refine gf7_1 F hK hP 0 rfl tw875 dX7_letters_58 ?_
          refine lv_iload_n F.1 F.2.1 dX7_letters_61 rfl (lv_at hl 3 rfl) ?_
          refine rr_iconst F dX7_letters_62 ?_
          refine lv_iload_n F.1 F.2.1 dX7_letters_63 rfl (lv_at hl 4 rfl) ?_
          refine rr_isub F (z := 1 - d) dX7_letters_64 (by first | rfl | omega) ?_
          refine lv_iload_n F.1 F.2.1 dX7_letters_65 rfl (lv_at hl 1 rfl) ?_
          refine rr_rdS (rest := []) F hK (c_X7_off l D cy no a p0 (1 - d) k (by first | assumption | omega | exact ⟨by omega, by omega⟩) (by first | assumption | omega | exact ⟨by omega, by omega⟩) (by first | assumption | omega | exact ⟨by omega, by omega⟩) (by first | assumption | omega | exact ⟨by omega, by omega⟩)) (hP.sub [1] rfl) sf_X7_off tw962 ⟨Nat.le_of_ble_eq_true rfl, Nat.le_of_ble_eq_true rfl⟩ hl rfl (Nat.le_of_ble_eq_true rfl) dX7_letters_66 ⟨Nat.zero_le _, Nat.zero_le _⟩ ?_
          have q_66_0 := (off_rng (n := a 0) (by omega) p0 (1 - d) k)
          refine lv_istore (lv' := [(5, vI (off (a 0) p0 (1 - d) k)), (4, vI 0), (3, vI k), (0, .ref mo), (1, vI p0), (2, vI d)]) F.1 F.2.1 dX7_letters_69 hl (by decide) rfl (fun ls hl => ?_)
          refine rr_iconst F dX7_letters_71 ?_
          refine lv_istore (lv' := [(6, vI 0), (5, vI (off (a 0) p0 (1 - d) k)), (4, vI 0), (3, vI k), (0, .ref mo), (1, vI p0), (2, vI d)]) F.1 F.2.1 dX7_letters_72 hl (by decide) rfl (fun ls hl => ?_)
          refine rr_loop1 (fun j => (0 ≤ j) ∧ (j ≤ a 25)) (fun j => (11 - j).toNat) (fun j => [(6, vI j), (5, vI (off (a 0) p0 (1 - d) k)), (4, vI (lts (fun w => k - 1 < rbl a w ∧ ft (a 0) (rq a) (rbl a w) (rbc a w) (off (a 0) p0 (1 - d) k) d) (fun w => rbc a w (k - 1) - 1) j)), (3, vI k), (0, .ref mo), (1, vI p0), (2, vI d)]) ?_ 0 ⟨by omega, by omega⟩ (lv_cv (lv_sub hl [0, 1, 2, 3, 4, 5, 6] rfl) (by rw [← show (0 : Int) = lts (fun u_w => k - 1 < rbl a u_w ∧ ft (a 0) (rq a) (rbl a u_w) (rbc a u_w) (off (a 0) p0 (1 - d) k) d) (fun u_w => rbc a u_w (k - 1) - 1) 0 from by rfl]; rfl))
          intro j hI ih_74 ls hl
          obtain ⟨j0, j1⟩ := hI
          have hl : lv_has ls 7 [(6, vI j), (5, vI (off (a 0) p0 (1 - d) k)), (4, vI (lts (fun w => k - 1 < rbl a w ∧ ft (a 0) (rq a) (rbl a w) (rbc a w) (off (a 0) p0 (1 - d) k) d) (fun w => rbc a w (k - 1) - 1) j)), (3, vI k), (0, .ref mo), (1, vI p0), (2, vI d)] := hl
          have lr := lts_rng (C := fun w => k - 1 < rbl a w ∧ ft (a 0) (rq a) (rbl a w) (rbc a w) (off (a 0) p0 (1 - d) k) d) (f := fun w => rbc a w (k - 1) - 1) j0 (fun w x y hc => by have h : 1 ≤ rbc a w (k - 1) ∧ rbc a w (k - 1) ≤ 8 := (hM.b x (by omega)).2 (k - 1) (by omega) hc.1; omega)
          refine lv_iload F.1 F.2.1 dX7_letters_74 (lv_at hl 0 rfl) ?_
          refine lv_aload_n F.1 F.2.1 dX7_letters_76 rfl (lv_at hl 4 rfl) ?_
          refine gf7_1 F hK hP 0 rfl tw875 dX7_letters_77 ?_
          refine rr_bipush F dX7_letters_80 (by decide) ?_
          refine rr_iald F hK hP 1 rfl (by omega) (by omega) (by decide) dX7_letters_82 ?_
          refine rr_icmp_ge F (tgt := 135) dX7_letters_83 (by decide) ⟨by omega, by omega⟩ ⟨by omega, by omega⟩ (fun c_83 => ?_) (fun c_83 => ?_)
          · refine lv_iload F.1 F.2.1 dX7_letters_135 (lv_at hl 2 rfl) ?_
            exact rr_iret F hr hlocks dX7_letters_137 (by first | (rw [show j = a 25 by omega]; exact cbe_y hdf (by omega)) | exact cbe_0 (by rw [← dfd_miss (q := rq a) (d := d) (by omega : 0 ≤ a 0) (fun j x y => kq j x (by omega))]; omega) | (have hdv : a (1 + off (a 0) p0 (1 - d) k) = 0 := by assumption); exact cbe_0 (by rw [← dfd_hit (q := rq a) k0 (by omega) hdv kq]; omega))
          · refine lv_iload F.1 F.2.1 dX7_letters_86 (lv_at hl 2 rfl) ?_
            refine lv_aload_n F.1 F.2.1 dX7_letters_88 rfl (lv_at hl 4 rfl) ?_
            refine gf7_1 F hK hP 0 rfl tw875 dX7_letters_89 ?_
            refine lv_iload F.1 F.2.1 dX7_letters_92 (lv_at hl 0 rfl) ?_
            refine lv_iload F.1 F.2.1 dX7_letters_94 (lv_at hl 1 rfl) ?_
            refine lv_iload_n F.1 F.2.1 dX7_letters_96 rfl (lv_at hl 6 rfl) ?_
            refine rr_rdS (rest := [vI (lts (fun w => k - 1 < rbl a w ∧ ft (a 0) (rq a) (rbl a w) (rbc a w) (off (a 0) p0 (1 - d) k) d) (fun w => rbc a w (k - 1) - 1) j)]) F hK (c_X7_isFit l D cy no a j (off (a 0) p0 (1 - d) k) d (by first | assumption | omega | exact ⟨by omega, by omega⟩) (by first | assumption | omega | exact ⟨by omega, by omega⟩) (by first | assumption | omega | exact ⟨by omega, by omega⟩) (by first | assumption | omega | exact ⟨by omega, by omega⟩) (by first | assumption | omega | exact ⟨by omega, by omega⟩)) (hP.sub [1] rfl) sf_X7_isFit tw1023 ⟨Nat.le_of_ble_eq_true rfl, Nat.le_of_ble_eq_true rfl⟩ hl rfl (Nat.le_of_ble_eq_true rfl) dX7_letters_97 ⟨Nat.zero_le _, Nat.zero_le _⟩ ?_
            refine rr_ifP_eq F (tgt := 125) dX7_letters_100 (by decide) (fun c_100 => ?_) (fun c_100 => ?_)
            · refine rr_iconst F dX7_letters_125 ?_
              refine rr_ior F (z := lts (fun w => k - 1 < rbl a w ∧ ft (a 0) (rq a) (rbl a w) (rbc a w) (off (a 0) p0 (1 - d) k) d) (fun w => rbc a w (k - 1) - 1) (j + 1)) dX7_letters_126 (by first | exact ⟨lr.1, by have := p2_rng (k := a (26 + 7 * j + k) - 1) (by omega) (by omega); omega, by rw [← lts_y (C := fun w => k - 1 < rbl a w ∧ ft (a 0) (rq a) (rbl a w) (rbc a w) (off (a 0) p0 (1 - d) k) d) (f := fun w => rbc a w (k - 1) - 1) j0 ⟨by show k - 1 < a (26 + 7 * j); omega, c_100⟩]; show bor _ (p2 (a (26 + 7 * j + k) - 1)) = bor _ (p2 (a (26 + 7 * j + 1 + (k - 1)) - 1)); rw [hie]⟩ | exact ⟨lr.1, by omega, by rw [bor_0 lr.1]; exact lts_n (C := fun w => k - 1 < rbl a w ∧ ft (a 0) (rq a) (rbl a w) (rbc a w) (off (a 0) p0 (1 - d) k) d) (f := fun w => rbc a w (k - 1) - 1) j0 (fun h => c_100 h.2)⟩) ?_
              refine lv_istore (lv' := [(4, vI (lts (fun w => k - 1 < rbl a w ∧ ft (a 0) (rq a) (rbl a w) (rbc a w) (off (a 0) p0 (1 - d) k) d) (fun w => rbc a w (k - 1) - 1) (j + 1))), (6, vI j), (5, vI (off (a 0) p0 (1 - d) k)), (3, vI k), (0, .ref mo), (1, vI p0), (2, vI d)]) F.1 F.2.1 dX7_letters_127 hl (by decide) rfl (fun ls hl => ?_)
              refine lv_iinc (v := iI (j + 1)) (lv' := [(6, vI (j + 1)), (4, vI (lts (fun w => k - 1 < rbl a w ∧ ft (a 0) (rq a) (rbl a w) (rbc a w) (off (a 0) p0 (1 - d) k) d) (fun w => rbc a w (k - 1) - 1) (j + 1))), (5, vI (off (a 0) p0 (1 - d) k)), (3, vI k), (0, .ref mo), (1, vI p0), (2, vI d)]) F.1 F.2.1 dX7_letters_129 hl (k := 1) rfl (iinc_ok (by first | rfl | omega)) (by decide) rfl (fun ls hl => ?_)
              refine lv_goto (tgt := 74) F.1 F.2.1 dX7_letters_132 (by decide) ?_
              exact ih_74 (j + 1) ⟨by omega, by omega⟩ (show ((11 - (j + 1)).toNat) < ((11 - j).toNat) by omega) ls (lv_sub hl [0, 2, 1, 3, 4, 5, 6] rfl)
            · have hbl : a (26 + 7 * j) = seg (a 0) (rq a) (off (a 0) p0 (1 - d) k) d := c_100.1
              have hb := hM.b j0 c_83
              have hbc := hb.2 (k - 1) (by omega) (by omega)
              have hie : a (26 + 7 * j + 1 + (k - 1)) = a (26 + 7 * j + k) := by rw [show 26 + 7 * j + 1 + (k - 1) = 26 + 7 * j + k by omega]
              rw [hie] at hbc
              refine rr_iconst F dX7_letters_103 ?_
              refine lv_aload_n F.1 F.2.1 dX7_letters_104 rfl (lv_at hl 4 rfl) ?_
              refine gf7_1 F hK hP 0 rfl tw875 dX7_letters_105 ?_
              refine rr_bipush F dX7_letters_108 (by decide) ?_
              refine rr_bipush F dX7_letters_110 (by decide) ?_
              refine lv_iload F.1 F.2.1 dX7_letters_112 (lv_at hl 0 rfl) ?_
              refine rr_imul F (z := 7 * j) dX7_letters_114 (by first | rfl | omega) ?_
              refine rr_iadd F (z := 26 + (7 * j)) dX7_letters_115 (by first | rfl | omega) ?_
              refine lv_iload_n F.1 F.2.1 dX7_letters_116 rfl (lv_at hl 3 rfl) ?_
              refine rr_iadd F (z := (26 + (7 * j)) + k) dX7_letters_117 (by first | rfl | omega) ?_
              refine rr_iald F hK hP 1 rfl (by omega) (by omega) (by decide) dX7_letters_118 ?_
              refine rr_iconst F dX7_letters_119 ?_
              refine rr_isub F (z := (a ((26 + (7 * j)) + k)) - 1) dX7_letters_120 (by first | rfl | omega) ?_
              refine rr_ishl F (z := p2 (a (26 + 7 * j + k) - 1)) dX7_letters_121 ⟨rfl, by omega, by omega, rfl⟩ ?_
              refine lv_goto (tgt := 126) F.1 F.2.1 dX7_letters_122 (by decide) ?_
              refine rr_ior F (z := lts (fun w => k - 1 < rbl a w ∧ ft (a 0) (rq a) (rbl a w) (rbc a w) (off (a 0) p0 (1 - d) k) d) (fun w => rbc a w (k - 1) - 1) (j + 1)) dX7_letters_126 (by first | exact ⟨lr.1, by have := p2_rng (k := a (26 + 7 * j + k) - 1) (by omega) (by omega); omega, by rw [← lts_y (C := fun w => k - 1 < rbl a w ∧ ft (a 0) (rq a) (rbl a w) (rbc a w) (off (a 0) p0 (1 - d) k) d) (f := fun w => rbc a w (k - 1) - 1) j0 ⟨by show k - 1 < a (26 + 7 * j); omega, c_100⟩]; show bor _ (p2 (a (26 + 7 * j + k) - 1)) = bor _ (p2 (a (26 + 7 * j + 1 + (k - 1)) - 1)); rw [hie]⟩ | exact ⟨lr.1, by omega, by rw [bor_0 lr.1]; exact lts_n (C := fun w => k - 1 < rbl a w ∧ ft (a 0) (rq a) (rbl a w) (rbc a w) (off (a 0) p0 (1 - d) k) d) (f := fun w => rbc a w (k - 1) - 1) j0 (fun h => c_100 h.2)⟩) ?_
              refine lv_istore (lv' := [(4, vI (lts (fun w => k - 1 < rbl a w ∧ ft (a 0) (rq a) (rbl a w) (rbc a w) (off (a 0) p0 (1 - d) k) d) (fun w => rbc a w (k - 1) - 1) (j + 1))), (6, vI j), (5, vI (off (a 0) p0 (1 - d) k)), (3, vI k), (0, .ref mo), (1, vI p0), (2, vI d)]) F.1 F.2.1 dX7_letters_127 hl (by decide) rfl (fun ls hl => ?_)
              refine lv_iinc (v := iI (j + 1)) (lv' := [(6, vI (j + 1)), (4, vI (lts (fun w => k - 1 < rbl a w ∧ ft (a 0) (rq a) (rbl a w) (rbc a w) (off (a 0) p0 (1 - d) k) d) (fun w => rbc a w (k - 1) - 1) (j + 1))), (5, vI (off (a 0) p0 (1 - d) k)), (3, vI k), (0, .ref mo), (1, vI p0), (2, vI d)]) F.1 F.2.1 dX7_letters_129 hl (k := 1) rfl (iinc_ok (by first | rfl | omega)) (by decide) rfl (fun ls hl => ?_)
              refine lv_goto (tgt := 74) F.1 F.2.1 dX7_letters_132 (by decide) ?_
              exact ih_74 (j + 1) ⟨by omega, by omega⟩ (show ((11 - (j + 1)).toNat) < ((11 - j).toNat) by omega) ls (lv_sub hl [0, 2, 1, 3, 4, 5, 6] rfl)
    · refine lv_iinc (v := iI (k + 1)) (lv' := [(3, vI (k + 1)), (0, .ref mo), (1, vI p0), (2, vI d)]) F.1 F.2.1 dX7_letters_34 hl (k := 0) rfl (iinc_ok (by first | rfl | omega)) (by decide) rfl (fun ls hl => ?_)
      refine lv_goto (tgt := 2) F.1 F.2.1 dX7_letters_37 (by decide) ?_
      exact ih_2 (k + 1) ⟨by omega, by omega, fun j x y => (if hj : j = k then by subst hj; exact c_31 else kq j x (by omega))⟩ (show ((25 - (k + 1)).toNat) < ((25 - k).toNat) by omega) ls (lv_sub hl [0, 1, 2, 3] rfl)
set_option maxRecDepth 100000 in
set_option maxHeartbeats 4000000 in
theorem c_X7_lowestFit (l : Launch) (D : va_G) (cy : Nat → ClassId) (mo no th pa sl sv tx : Nat) (tr ss ty : Int) (a : Int → Int) (dv d : Int) (hM : MR a) (hp : 0 ≤ dv ∧ dv < a 0) (hd : 0 ≤ d ∧ d ≤ 1) (hq : a (1 + dv) = 0) : Rd l yX7_lowestFit cX7_lowestFit 4 (some FieldType.int) 3 [.ref mo, vI dv, vI d] D cy [(mo, .inr (7, [vI tr, .ref no, .ref th, .ref pa, vI ss, .ref sl, .ref sv, .ref tx, vI ty])), (no, .inl (cy 1, 118, .inl (iA a)))] (low (fun w => ft (a 0) (rq a) (rbl a w) (rbc a w) dv d) (a 25)) := by
  refine Rd.of RX7 rfl [(0, .ref mo), (1, vI dv), (2, vI d)] rfl (by decide +kernel) (Nat.le_of_ble_eq_true rfl) ?_
  intro p e s m args below meth c F hr hlocks hK hP ls hl
  have hn0 := hM.n
  have hw0 := hM.nw
  have hc0 := hM.wc
  refine rr_iconst F dX7_lowestFit_0 ?_
  refine lv_istore_n (lv' := [(3, vI 0), (0, .ref mo), (1, vI dv), (2, vI d)]) F.1 F.2.1 dX7_lowestFit_1 rfl hl (by decide) rfl (fun ls hl => ?_)
  refine rr_loop1 (fun k => (0 ≤ k) ∧ (k ≤ a 25) ∧ (∀ j, 0 ≤ j → j < k → ¬ ft (a 0) (rq a) (rbl a j) (rbc a j) dv d)) (fun k => (11 - k).toNat) (fun k => [(3, vI k), (0, .ref mo), (1, vI dv), (2, vI d)]) ?_ 0 ⟨by omega, by omega, fun j x y => by omega⟩ (lv_sub hl [0, 1, 2, 3] rfl)
  intro k hI ih_2 ls hl
  obtain ⟨k0, k1, kq⟩ := hI
  have hl : lv_has ls 4 [(3, vI k), (0, .ref mo), (1, vI dv), (2, vI d)] := hl
  refine lv_iload_n F.1 F.2.1 dX7_lowestFit_2 rfl (lv_at hl 0 rfl) ?_
  refine lv_aload_n F.1 F.2.1 dX7_lowestFit_3 rfl (lv_at hl 1 rfl) ?_
  refine gf7_1 F hK hP 0 rfl tw875 dX7_lowestFit_4 ?_
  refine rr_bipush F dX7_lowestFit_7 (by decide) ?_
  refine rr_iald F hK hP 1 rfl (by omega) (by omega) (by decide) dX7_lowestFit_9 ?_
  refine rr_icmp_ge F (tgt := 34) dX7_lowestFit_10 (by decide) ⟨by omega, by omega⟩ ⟨by omega, by omega⟩ (fun c_10 => ?_) (fun c_10 => ?_)
  · refine rr_iconst F dX7_lowestFit_34 ?_
    exact rr_iret F hr hlocks dX7_lowestFit_35 (low_miss (by omega) (fun j x y => kq j x (by omega)))
  · refine lv_aload_n F.1 F.2.1 dX7_lowestFit_13 rfl (lv_at hl 1 rfl) ?_
    refine gf7_1 F hK hP 0 rfl tw875 dX7_lowestFit_14 ?_
    refine lv_iload_n F.1 F.2.1 dX7_lowestFit_17 rfl (lv_at hl 0 rfl) ?_
    refine lv_iload_n F.1 F.2.1 dX7_lowestFit_18 rfl (lv_at hl 2 rfl) ?_
    refine lv_iload_n F.1 F.2.1 dX7_lowestFit_19 rfl (lv_at hl 3 rfl) ?_
    refine rr_rdS (rest := []) F hK (c_X7_isFit l D cy no a k dv d (by first | assumption | omega | exact ⟨by omega, by omega⟩) (by first | assumption | omega | exact ⟨by omega, by omega⟩) (by first | assumption | omega | exact ⟨by omega, by omega⟩) (by first | assumption | omega | exact ⟨by omega, by omega⟩) (by first | assumption | omega | exact ⟨by omega, by omega⟩)) (hP.sub [1] rfl) sf_X7_isFit tw1023 ⟨Nat.le_of_ble_eq_true rfl, Nat.le_of_ble_eq_true rfl⟩ hl rfl (Nat.le_of_ble_eq_true rfl) dX7_lowestFit_20 ⟨Nat.zero_le _, Nat.zero_le _⟩ ?_
    refine rr_ifP_eq F (tgt := 28) dX7_lowestFit_23 (by decide) (fun c_23 => ?_) (fun c_23 => ?_)
    · refine lv_iinc (v := iI (k + 1)) (lv' := [(3, vI (k + 1)), (0, .ref mo), (1, vI dv), (2, vI d)]) F.1 F.2.1 dX7_lowestFit_28 hl (k := 0) rfl (iinc_ok (by first | rfl | omega)) (by decide) rfl (fun ls hl => ?_)
      refine lv_goto (tgt := 2) F.1 F.2.1 dX7_lowestFit_31 (by decide) ?_
      exact ih_2 (k + 1) ⟨by omega, by omega, fun j x y => (if hj : j = k then by subst hj; exact c_23 else kq j x (by omega))⟩ (show ((11 - (k + 1)).toNat) < ((11 - k).toNat) by omega) ls (lv_sub hl [0, 1, 2, 3] rfl)
    · refine lv_iload_n F.1 F.2.1 dX7_lowestFit_26 rfl (lv_at hl 0 rfl) ?_
      exact rr_iret F hr hlocks dX7_lowestFit_27 (low_hit k0 (by omega) (by assumption) kq)
set_option maxRecDepth 100000 in
set_option maxHeartbeats 4000000 in
theorem c_X7_wornIn (l : Launch) (D : va_G) (cy : Nat → ClassId) (mo no th pa sl sv tx : Nat) (tr ss ty : Int) (a : Int → Int) (dv d : Int) (hM : MR a) (hp : 0 ≤ dv ∧ dv < a 0) (hd : 0 ≤ d ∧ d ≤ 1) (hq : a (1 + dv) = 0) : Rd l yX7_wornIn cX7_wornIn 5 (some FieldType.int) 2 [.ref mo, vI dv, vI d] D cy [(mo, .inr (7, [vI tr, .ref no, .ref th, .ref pa, vI ss, .ref sl, .ref sv, .ref tx, vI ty])), (no, .inl (cy 1, 118, .inl (iA a)))] (cnt (fun j => a (1 + off (a 0) dv d (j + 1)) = 9) (seg (a 0) (rq a) dv d)) := by
  refine Rd.of RX7 rfl [(0, .ref mo), (1, vI dv), (2, vI d)] rfl (by decide +kernel) (Nat.le_of_ble_eq_true rfl) ?_
  intro p e s m args below meth c F hr hlocks hK hP ls hl
  have hn0 := hM.n
  have hw0 := hM.nw
  have hc0 := hM.wc
  have sr := seg_rng (n := a 0) (by omega) (rq a) dv d
  refine rr_iconst F dX7_wornIn_0 ?_
  refine lv_istore_n (lv' := [(3, vI 0), (0, .ref mo), (1, vI dv), (2, vI d)]) F.1 F.2.1 dX7_wornIn_1 rfl hl (by decide) rfl (fun ls hl => ?_)
  refine rr_iconst F dX7_wornIn_2 ?_
  refine lv_istore (lv' := [(4, vI 1), (3, vI 0), (0, .ref mo), (1, vI dv), (2, vI d)]) F.1 F.2.1 dX7_wornIn_3 hl (by decide) rfl (fun ls hl => ?_)
  refine rr_loop1 (fun k => (1 ≤ k) ∧ (k ≤ seg (a 0) (rq a) dv d + 1)) (fun k => (26 - k).toNat) (fun k => [(4, vI k), (3, vI (cnt (fun j => a (1 + off (a 0) dv d (j + 1)) = 9) (k - 1))), (0, .ref mo), (1, vI dv), (2, vI d)]) ?_ 1 ⟨by omega, by omega⟩ (lv_cv (lv_sub hl [0, 1, 2, 3, 4] rfl) (by rw [← show (0 : Int) = cnt (fun u_j => a (1 + off (a 0) dv d (u_j + 1)) = 9) (1 - 1) from by rfl]; rfl))
  intro k hI ih_5 ls hl
  obtain ⟨k0, k1⟩ := hI
  have hl : lv_has ls 5 [(4, vI k), (3, vI (cnt (fun j => a (1 + off (a 0) dv d (j + 1)) = 9) (k - 1))), (0, .ref mo), (1, vI dv), (2, vI d)] := hl
  have cr := cnt_rng (fun j => a (1 + off (a 0) dv d (j + 1)) = 9) (n := k - 1) (by omega)
  refine lv_iload F.1 F.2.1 dX7_wornIn_5 (lv_at hl 0 rfl) ?_
  refine lv_aload_n F.1 F.2.1 dX7_wornIn_7 rfl (lv_at hl 2 rfl) ?_
  refine gf7_1 F hK hP 0 rfl tw875 dX7_wornIn_8 ?_
  refine lv_iload_n F.1 F.2.1 dX7_wornIn_11 rfl (lv_at hl 3 rfl) ?_
  refine lv_iload_n F.1 F.2.1 dX7_wornIn_12 rfl (lv_at hl 4 rfl) ?_
  refine rr_rdS (rest := [vI k]) F hK (c_X7_longOf l D cy no a dv d (by first | assumption | omega | exact ⟨by omega, by omega⟩) (by first | assumption | omega | exact ⟨by omega, by omega⟩) (by first | assumption | omega | exact ⟨by omega, by omega⟩) (by first | assumption | omega | exact ⟨by omega, by omega⟩)) (hP.sub [1] rfl) sf_X7_longOf tw1014 ⟨Nat.le_of_ble_eq_true rfl, Nat.le_of_ble_eq_true rfl⟩ hl rfl (Nat.le_of_ble_eq_true rfl) dX7_wornIn_13 ⟨Nat.zero_le _, Nat.zero_le _⟩ ?_
  have q_13_0 := (seg_rng (n := a 0) (by omega) (rq a) dv d)
  refine rr_icmp_gt F (tgt := 56) dX7_wornIn_16 (by decide) ⟨by omega, by omega⟩ ⟨by omega, by omega⟩ (fun c_16 => ?_) (fun c_16 => ?_)
  · refine lv_iload_n F.1 F.2.1 dX7_wornIn_56 rfl (lv_at hl 1 rfl) ?_
    exact rr_iret F hr hlocks dX7_wornIn_57 (by rw [show k - 1 = seg (a 0) (rq a) dv d by omega])
  · refine lv_iload_n F.1 F.2.1 dX7_wornIn_19 rfl (lv_at hl 1 rfl) ?_
    refine lv_aload_n F.1 F.2.1 dX7_wornIn_20 rfl (lv_at hl 2 rfl) ?_
    refine gf7_1 F hK hP 0 rfl tw875 dX7_wornIn_21 ?_
    refine rr_iconst F dX7_wornIn_24 ?_
    refine lv_aload_n F.1 F.2.1 dX7_wornIn_25 rfl (lv_at hl 2 rfl) ?_
    refine gf7_1 F hK hP 0 rfl tw875 dX7_wornIn_26 ?_
    refine lv_iload_n F.1 F.2.1 dX7_wornIn_29 rfl (lv_at hl 3 rfl) ?_
    refine lv_iload_n F.1 F.2.1 dX7_wornIn_30 rfl (lv_at hl 4 rfl) ?_
    refine lv_iload F.1 F.2.1 dX7_wornIn_31 (lv_at hl 0 rfl) ?_
    refine rr_rdS (rest := [vI 1, .ref no, vI (cnt (fun j => a (1 + off (a 0) dv d (j + 1)) = 9) (k - 1))]) F hK (c_X7_off l D cy no a dv d k (by first | assumption | omega | exact ⟨by omega, by omega⟩) (by first | assumption | omega | exact ⟨by omega, by omega⟩) (by first | assumption | omega | exact ⟨by omega, by omega⟩) (by first | assumption | omega | exact ⟨by omega, by omega⟩)) (hP.sub [1] rfl) sf_X7_off tw962 ⟨Nat.le_of_ble_eq_true rfl, Nat.le_of_ble_eq_true rfl⟩ hl rfl (Nat.le_of_ble_eq_true rfl) dX7_wornIn_33 ⟨Nat.zero_le _, Nat.zero_le _⟩ ?_
    have q_33_0 := (off_rng (n := a 0) (by omega) dv d k)
    refine rr_iadd F (z := 1 + (off (a 0) dv d k)) dX7_wornIn_36 (by first | rfl | omega) ?_
    refine rr_iald F hK hP 1 rfl (by omega) (by omega) (by decide) dX7_wornIn_37 ?_
    have qq := hM.q q_33_0.1 q_33_0.2
    refine rr_bipush F dX7_wornIn_38 (by decide) ?_
    refine rr_icmp_ne F (tgt := 47) dX7_wornIn_40 (by decide) ⟨by omega, by omega⟩ ⟨by omega, by omega⟩ (fun c_40 => ?_) (fun c_40 => ?_)
    · refine rr_iconst F dX7_wornIn_47 ?_
      refine rr_iadd F (z := cnt (fun j => a (1 + off (a 0) dv d (j + 1)) = 9) k) dX7_wornIn_48 (by have hs := cnt_s (fun j => a (1 + off (a 0) dv d (j + 1)) = 9) (show 0 ≤ k - 1 by omega); rw [show k - 1 + 1 = k by omega] at hs; rw [hs]; first | (rw [pB_t (by assumption)]; rfl) | (rw [pB_f (by assumption)]; rfl)) ?_
      refine lv_istore_n (lv' := [(3, vI (cnt (fun j => a (1 + off (a 0) dv d (j + 1)) = 9) k)), (4, vI k), (0, .ref mo), (1, vI dv), (2, vI d)]) F.1 F.2.1 dX7_wornIn_49 rfl hl (by decide) rfl (fun ls hl => ?_)
      refine lv_iinc (v := iI (k + 1)) (lv' := [(4, vI (k + 1)), (3, vI (cnt (fun j => a (1 + off (a 0) dv d (j + 1)) = 9) k)), (0, .ref mo), (1, vI dv), (2, vI d)]) F.1 F.2.1 dX7_wornIn_50 hl (k := 1) rfl (iinc_ok (by first | rfl | omega)) (by decide) rfl (fun ls hl => ?_)
      refine lv_goto (tgt := 5) F.1 F.2.1 dX7_wornIn_53 (by decide) ?_
      exact ih_5 (k + 1) ⟨by omega, by omega⟩ (show ((26 - (k + 1)).toNat) < ((26 - k).toNat) by omega) ls (lv_cv (lv_sub hl [0, 1, 2, 3, 4] rfl) (by rw [← show (cnt (fun j => a (1 + off (a 0) dv d (j + 1)) = 9) k : Int) = cnt (fun u_j => a (1 + off (a 0) dv d (u_j + 1)) = 9) ((k + 1) - 1) from by rw [show k + 1 - 1 = k by omega]]; rfl))
    · refine rr_iconst F dX7_wornIn_43 ?_
      refine lv_goto (tgt := 48) F.1 F.2.1 dX7_wornIn_44 (by decide) ?_
      refine rr_iadd F (z := cnt (fun j => a (1 + off (a 0) dv d (j + 1)) = 9) k) dX7_wornIn_48 (by have hs := cnt_s (fun j => a (1 + off (a 0) dv d (j + 1)) = 9) (show 0 ≤ k - 1 by omega); rw [show k - 1 + 1 = k by omega] at hs; rw [hs]; first | (rw [pB_t (by assumption)]; rfl) | (rw [pB_f (by assumption)]; rfl)) ?_
      refine lv_istore_n (lv' := [(3, vI (cnt (fun j => a (1 + off (a 0) dv d (j + 1)) = 9) k)), (4, vI k), (0, .ref mo), (1, vI dv), (2, vI d)]) F.1 F.2.1 dX7_wornIn_49 rfl hl (by decide) rfl (fun ls hl => ?_)
      refine lv_iinc (v := iI (k + 1)) (lv' := [(4, vI (k + 1)), (3, vI (cnt (fun j => a (1 + off (a 0) dv d (j + 1)) = 9) k)), (0, .ref mo), (1, vI dv), (2, vI d)]) F.1 F.2.1 dX7_wornIn_50 hl (k := 1) rfl (iinc_ok (by first | rfl | omega)) (by decide) rfl (fun ls hl => ?_)
      refine lv_goto (tgt := 5) F.1 F.2.1 dX7_wornIn_53 (by decide) ?_
      exact ih_5 (k + 1) ⟨by omega, by omega⟩ (show ((26 - (k + 1)).toNat) < ((26 - k).toNat) by omega) ls (lv_cv (lv_sub hl [0, 1, 2, 3, 4] rfl) (by rw [← show (cnt (fun j => a (1 + off (a 0) dv d (j + 1)) = 9) k : Int) = cnt (fun u_j => a (1 + off (a 0) dv d (u_j + 1)) = 9) ((k + 1) - 1) from by rw [show k + 1 - 1 = k by omega]]; rfl))
