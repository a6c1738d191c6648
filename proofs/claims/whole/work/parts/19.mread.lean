set_option maxRecDepth 100000 in
set_option maxHeartbeats 4000000 in
theorem c_X7_in (l : Launch) (D : va_G) (cy : Nat → ClassId) (v lo hi : Int) (h0 : inR v) (h1 : inR lo) (h2 : inR hi) : Rd l yX7_in cX7_in 3 (some FieldType.boolean) 0 [vI v, vI lo, vI hi] D cy [] (b2i (pB (lo ≤ v ∧ v ≤ hi))) := by
  refine Rd.of RX7 rfl [(0, vI v), (1, vI lo), (2, vI hi)] rfl (by decide +kernel) (Nat.le_of_ble_eq_true rfl) ?_
  intro p e s m args below meth c F hr hlocks hK hP ls hl
  refine lv_iload_n F.1 F.2.1 dX7_in_0 rfl (lv_at hl 0 rfl) ?_
  refine lv_iload_n F.1 F.2.1 dX7_in_1 rfl (lv_at hl 1 rfl) ?_
  refine rr_icmp_lt F (tgt := 14) dX7_in_2 (by decide) h0 h1 (fun c_2 => ?_) (fun c_2 => ?_)
  · refine rr_iconst F dX7_in_14 ?_
    exact rr_zret F hr hlocks (b := false) dX7_in_15 rfl (b2i_f (by omega))
  · refine lv_iload_n F.1 F.2.1 dX7_in_5 rfl (lv_at hl 0 rfl) ?_
    refine lv_iload_n F.1 F.2.1 dX7_in_6 rfl (lv_at hl 2 rfl) ?_
    refine rr_icmp_gt F (tgt := 14) dX7_in_7 (by decide) h0 h2 (fun c_7 => ?_) (fun c_7 => ?_)
    · refine rr_iconst F dX7_in_14 ?_
      exact rr_zret F hr hlocks (b := false) dX7_in_15 rfl (b2i_f (by omega))
    · refine rr_iconst F dX7_in_10 ?_
      refine lv_goto (tgt := 15) F.1 F.2.1 dX7_in_11 (by decide) ?_
      exact rr_zret F hr hlocks (b := true) dX7_in_15 rfl (b2i_t (by omega))
set_option maxRecDepth 100000 in
set_option maxHeartbeats 4000000 in
theorem c_X7_of (l : Launch) (D : va_G) (cy : Nat → ClassId) (ro : Nat) (a : Int → Int) (w x : Int) (hw : 0 ≤ w ∧ w < 4) (hx : 0 ≤ x ∧ x < 5) : Rd l yX7_of cX7_of 3 (some FieldType.int) 0 [.ref ro, vI w, vI x] D cy [(ro, .inl (cy 1, 118, .inl (iA a)))] (a (97 + 5 * w + x)) := by
  refine Rd.of RX7 rfl [(0, .ref ro), (1, vI w), (2, vI x)] rfl (by decide +kernel) (Nat.le_of_ble_eq_true rfl) ?_
  intro p e s m args below meth c F hr hlocks hK hP ls hl
  refine lv_aload_n F.1 F.2.1 dX7_of_0 rfl (lv_at hl 0 rfl) ?_
  refine rr_bipush F dX7_of_1 (by decide) ?_
  refine rr_iconst F dX7_of_3 ?_
  refine lv_iload_n F.1 F.2.1 dX7_of_4 rfl (lv_at hl 1 rfl) ?_
  refine rr_imul F (z := 5 * w) dX7_of_5 (by first | rfl | omega) ?_
  refine rr_iadd F (z := 97 + (5 * w)) dX7_of_6 (by first | rfl | omega) ?_
  refine lv_iload_n F.1 F.2.1 dX7_of_7 rfl (lv_at hl 2 rfl) ?_
  refine rr_iadd F (z := (97 + (5 * w)) + x) dX7_of_8 (by first | rfl | omega) ?_
  refine rr_iald F hK hP 0 rfl (by omega) (by omega) (by decide) dX7_of_9 ?_
  exact rr_iret F hr hlocks dX7_of_10 (by first | rfl | omega)
set_option maxRecDepth 100000 in
set_option maxHeartbeats 4000000 in
theorem c_X7_off (l : Launch) (D : va_G) (cy : Nat → ClassId) (ro : Nat) (a : Int → Int) (pl d k : Int) (hn : 0 < a 0 ∧ a 0 ≤ 24) (hp : 0 ≤ pl ∧ pl < a 0) (hd : 0 ≤ d ∧ d ≤ 1) (hk : 0 ≤ k ∧ k ≤ 1000) : Rd l yX7_off cX7_off 6 (some FieldType.int) 0 [.ref ro, vI pl, vI d, vI k] D cy [(ro, .inl (cy 1, 118, .inl (iA a)))] (off (a 0) pl d k) := by
  refine Rd.of RX7 rfl [(0, .ref ro), (1, vI pl), (2, vI d), (3, vI k)] rfl (by decide +kernel) (Nat.le_of_ble_eq_true rfl) ?_
  intro p e s m args below meth c F hr hlocks hK hP ls hl
  refine lv_aload_n F.1 F.2.1 dX7_off_0 rfl (lv_at hl 0 rfl) ?_
  refine rr_iconst F dX7_off_1 ?_
  refine rr_iald F hK hP 0 rfl (by omega) (by omega) (by decide) dX7_off_2 ?_
  refine lv_istore (lv' := [(4, vI (a 0)), (0, .ref ro), (1, vI pl), (2, vI d), (3, vI k)]) F.1 F.2.1 dX7_off_3 hl (by decide) rfl (fun ls hl => ?_)
  refine lv_iload_n F.1 F.2.1 dX7_off_5 rfl (lv_at hl 4 rfl) ?_
  refine lv_iload F.1 F.2.1 dX7_off_6 (lv_at hl 0 rfl) ?_
  refine rr_irem F (z := (k).tmod (a 0)) dX7_off_8 ⟨by omega, by omega⟩ ⟨by omega, by omega⟩ (rfl) ?_
  have hR := tmod_rng (n := a 0) hn.1 (a := k)
  refine lv_istore (lv' := [(5, vI ((k).tmod (a 0))), (4, vI (a 0)), (0, .ref ro), (1, vI pl), (2, vI d), (3, vI k)]) F.1 F.2.1 dX7_off_9 hl (by decide) rfl (fun ls hl => ?_)
  refine lv_iload_n F.1 F.2.1 dX7_off_11 rfl (lv_at hl 4 rfl) ?_
  refine rr_if_ne F (tgt := 25) dX7_off_12 (by decide) ⟨by omega, by omega⟩ (fun c_12 => ?_) (fun c_12 => ?_)
  · refine lv_iload_n F.1 F.2.1 dX7_off_25 rfl (lv_at hl 3 rfl) ?_
    refine lv_iload F.1 F.2.1 dX7_off_26 (lv_at hl 1 rfl) ?_
    refine rr_iadd F (z := pl + (a 0)) dX7_off_28 (by first | rfl | omega) ?_
    refine lv_iload F.1 F.2.1 dX7_off_29 (lv_at hl 0 rfl) ?_
    refine rr_isub F (z := (pl + (a 0)) - ((k).tmod (a 0))) dX7_off_31 (by first | rfl | omega) ?_
    refine lv_iload F.1 F.2.1 dX7_off_32 (lv_at hl 1 rfl) ?_
    refine rr_irem F (z := ((pl + (a 0)) - ((k).tmod (a 0))).tmod (a 0)) dX7_off_34 ⟨by omega, by omega⟩ ⟨by omega, by omega⟩ (rfl) ?_
    exact rr_iret F hr hlocks dX7_off_35 (by first | exact offm_a hn.1 (by assumption) hp.1 hk.1 | exact offm_b hn.1 (by assumption) hp.1 hk.1)
  · refine lv_iload_n F.1 F.2.1 dX7_off_15 rfl (lv_at hl 3 rfl) ?_
    refine lv_iload F.1 F.2.1 dX7_off_16 (lv_at hl 0 rfl) ?_
    refine rr_iadd F (z := pl + ((k).tmod (a 0))) dX7_off_18 (by first | rfl | omega) ?_
    refine lv_iload F.1 F.2.1 dX7_off_19 (lv_at hl 1 rfl) ?_
    refine rr_irem F (z := (pl + ((k).tmod (a 0))).tmod (a 0)) dX7_off_21 ⟨by omega, by omega⟩ ⟨by omega, by omega⟩ (rfl) ?_
    refine lv_goto (tgt := 35) F.1 F.2.1 dX7_off_22 (by decide) ?_
    exact rr_iret F hr hlocks dX7_off_35 (by first | exact offm_a hn.1 (by assumption) hp.1 hk.1 | exact offm_b hn.1 (by assumption) hp.1 hk.1)
set_option maxRecDepth 100000 in
set_option maxHeartbeats 4000000 in
theorem c_X7_isDivider (l : Launch) (D : va_G) (cy : Nat → ClassId) (ro : Nat) (a : Int → Int) (pl : Int) (hp : 0 ≤ pl ∧ pl < 24) (hq : 0 ≤ a (1 + pl) ∧ a (1 + pl) ≤ 9) : Rd l yX7_isDivider cX7_isDivider 2 (some FieldType.boolean) 0 [.ref ro, vI pl] D cy [(ro, .inl (cy 1, 118, .inl (iA a)))] (b2i (pB (a (1 + pl) = 0))) := by
  refine Rd.of RX7 rfl [(0, .ref ro), (1, vI pl)] rfl (by decide +kernel) (Nat.le_of_ble_eq_true rfl) ?_
  intro p e s m args below meth c F hr hlocks hK hP ls hl
  refine lv_aload_n F.1 F.2.1 dX7_isDivider_0 rfl (lv_at hl 0 rfl) ?_
  refine rr_iconst F dX7_isDivider_1 ?_
  refine lv_iload_n F.1 F.2.1 dX7_isDivider_2 rfl (lv_at hl 1 rfl) ?_
  refine rr_iadd F (z := 1 + pl) dX7_isDivider_3 (by first | rfl | omega) ?_
  refine rr_iald F hK hP 0 rfl (by omega) (by omega) (by decide) dX7_isDivider_4 ?_
  refine rr_if_ne F (tgt := 12) dX7_isDivider_5 (by decide) ⟨by omega, by omega⟩ (fun c_5 => ?_) (fun c_5 => ?_)
  · refine rr_iconst F dX7_isDivider_12 ?_
    exact rr_zret F hr hlocks (b := false) dX7_isDivider_13 rfl (b2i_f (by omega))
  · refine rr_iconst F dX7_isDivider_8 ?_
    refine lv_goto (tgt := 13) F.1 F.2.1 dX7_isDivider_9 (by decide) ?_
    exact rr_zret F hr hlocks (b := true) dX7_isDivider_13 rfl (b2i_t (by omega))
set_option maxRecDepth 100000 in
set_option maxHeartbeats 4000000 in
theorem c_X7_ones (l : Launch) (D : va_G) (cy : Nat → ClassId) (x : Int) (hx : 0 ≤ x ∧ x < 16777216) : Rd l yX7_ones cX7_ones 3 (some FieldType.int) 0 [vI x] D cy [] (cnt (bit x) 24) := by
  refine Rd.of RX7 rfl [(0, vI x)] rfl (by decide +kernel) (Nat.le_of_ble_eq_true rfl) ?_
  intro p e s m args below meth c F hr hlocks hK hP ls hl
  refine rr_iconst F dX7_ones_0 ?_
  refine lv_istore_n (lv' := [(1, vI 0), (0, vI x)]) F.1 F.2.1 dX7_ones_1 rfl hl (by decide) rfl (fun ls hl => ?_)
  refine rr_iconst F dX7_ones_2 ?_
  refine lv_istore_n (lv' := [(2, vI 0), (1, vI 0), (0, vI x)]) F.1 F.2.1 dX7_ones_3 rfl hl (by decide) rfl (fun ls hl => ?_)
  refine rr_loop1 (fun k => (0 ≤ k) ∧ (k ≤ 24)) (fun k => (24 - k).toNat) (fun k => [(2, vI k), (1, vI (cnt (bit x) k)), (0, vI x)]) ?_ 0 ⟨by omega, by omega⟩ (lv_sub hl [0, 1, 2] rfl)
  intro k hI ih_4 ls hl
  obtain ⟨k0, k1⟩ := hI
  have hl : lv_has ls 3 [(2, vI k), (1, vI (cnt (bit x) k)), (0, vI x)] := hl
  refine lv_iload_n F.1 F.2.1 dX7_ones_4 rfl (lv_at hl 0 rfl) ?_
  refine rr_bipush F dX7_ones_5 (by decide) ?_
  refine rr_icmp_ge F (tgt := 24) dX7_ones_7 (by decide) ⟨by omega, by omega⟩ ⟨by omega, by omega⟩ (fun c_7 => ?_) (fun c_7 => ?_)
  · refine lv_iload_n F.1 F.2.1 dX7_ones_24 rfl (lv_at hl 1 rfl) ?_
    exact rr_iret F hr hlocks dX7_ones_25 (by rw [show k = 24 by omega])
  · refine lv_iload_n F.1 F.2.1 dX7_ones_10 rfl (lv_at hl 1 rfl) ?_
    refine lv_iload_n F.1 F.2.1 dX7_ones_11 rfl (lv_at hl 2 rfl) ?_
    refine lv_iload_n F.1 F.2.1 dX7_ones_12 rfl (lv_at hl 0 rfl) ?_
    refine rr_ishr F (z := shr x k) dX7_ones_13 ⟨⟨by omega, by omega⟩, by omega, by omega, rfl⟩ ?_
    refine rr_iconst F dX7_ones_14 ?_
    refine rr_ibit F (a := x) (b := k) dX7_ones_15 ⟨by omega, by omega⟩ ?_
    refine rr_iadd F (z := cnt (bit x) (k + 1)) dX7_ones_16 ((cnt_s (bit x) k0).symm) ?_
    refine lv_istore_n (lv' := [(1, vI (cnt (bit x) (k + 1))), (2, vI k), (0, vI x)]) F.1 F.2.1 dX7_ones_17 rfl hl (by decide) rfl (fun ls hl => ?_)
    refine lv_iinc (v := iI (k + 1)) (lv' := [(2, vI (k + 1)), (1, vI (cnt (bit x) (k + 1))), (0, vI x)]) F.1 F.2.1 dX7_ones_18 hl (k := 1) rfl (iinc_ok (by first | rfl | omega)) (by decide) rfl (fun ls hl => ?_)
    refine lv_goto (tgt := 4) F.1 F.2.1 dX7_ones_21 (by decide) ?_
    exact ih_4 (k + 1) ⟨by omega, by omega⟩ (show ((24 - (k + 1)).toNat) < ((24 - k).toNat) by omega) ls (lv_sub hl [0, 1, 2] rfl)
set_option maxRecDepth 100000 in
set_option maxHeartbeats 4000000 in
theorem c_X7_longOf (l : Launch) (D : va_G) (cy : Nat → ClassId) (ro : Nat) (a : Int → Int) (dv d : Int) (hM : MR a) (hp : 0 ≤ dv ∧ dv < a 0) (hd : 0 ≤ d ∧ d ≤ 1) (hq : a (1 + dv) = 0) : Rd l yX7_longOf cX7_longOf 4 (some FieldType.int) 1 [.ref ro, vI dv, vI d] D cy [(ro, .inl (cy 1, 118, .inl (iA a)))] (seg (a 0) (rq a) dv d) := by
  refine Rd.of RX7 rfl [(0, .ref ro), (1, vI dv), (2, vI d)] rfl (by decide +kernel) (Nat.le_of_ble_eq_true rfl) ?_
  intro p e s m args below meth c F hr hlocks hK hP ls hl
  have hn0 := hM.n
  have hw0 := hM.nw
  have hc0 := hM.wc
  refine rr_iconst F dX7_longOf_0 ?_
  refine lv_istore_n (lv' := [(3, vI 1), (0, .ref ro), (1, vI dv), (2, vI d)]) F.1 F.2.1 dX7_longOf_1 rfl hl (by decide) rfl (fun ls hl => ?_)
  refine rr_loop1 (fun k => (1 ≤ k) ∧ (k ≤ a 0) ∧ (∀ j, 1 ≤ j → j < k → ¬ a (1 + off (a 0) dv d j) = 0)) (fun k => (25 - k).toNat) (fun k => [(3, vI k), (0, .ref ro), (1, vI dv), (2, vI d)]) ?_ 1 ⟨by omega, by omega, fun j x y => by omega⟩ (lv_sub hl [0, 1, 2, 3] rfl)
  intro k hI ih_2 ls hl
  obtain ⟨k0, k1, kq⟩ := hI
  have hl : lv_has ls 4 [(3, vI k), (0, .ref ro), (1, vI dv), (2, vI d)] := hl
  refine lv_aload_n F.1 F.2.1 dX7_longOf_2 rfl (lv_at hl 1 rfl) ?_
  refine lv_aload_n F.1 F.2.1 dX7_longOf_3 rfl (lv_at hl 1 rfl) ?_
  refine lv_iload_n F.1 F.2.1 dX7_longOf_4 rfl (lv_at hl 2 rfl) ?_
  refine lv_iload_n F.1 F.2.1 dX7_longOf_5 rfl (lv_at hl 3 rfl) ?_
  refine lv_iload_n F.1 F.2.1 dX7_longOf_6 rfl (lv_at hl 0 rfl) ?_
  refine rr_rdS (rest := [.ref ro]) F hK (c_X7_off l D cy ro a dv d k (by first | assumption | omega | exact ⟨by omega, by omega⟩) (by first | assumption | omega | exact ⟨by omega, by omega⟩) (by first | assumption | omega | exact ⟨by omega, by omega⟩) (by first | assumption | omega | exact ⟨by omega, by omega⟩)) hP sf_X7_off tw962 ⟨Nat.le_of_ble_eq_true rfl, Nat.le_of_ble_eq_true rfl⟩ hl rfl (Nat.le_of_ble_eq_true rfl) dX7_longOf_7 ⟨Nat.zero_le _, Nat.zero_le _⟩ ?_
  have q_7_0 := (off_rng (n := a 0) (by omega) dv d k)
  have qq := hM.q q_7_0.1 q_7_0.2
  refine rr_rdS (rest := []) F hK (c_X7_isDivider l D cy ro a (off (a 0) dv d k) (by first | assumption | omega | exact ⟨by omega, by omega⟩) (by first | assumption | omega | exact ⟨by omega, by omega⟩)) hP sf_X7_isDivider tw948 ⟨Nat.le_of_ble_eq_true rfl, Nat.le_of_ble_eq_true rfl⟩ hl rfl (Nat.le_of_ble_eq_true rfl) dX7_longOf_10 ⟨Nat.zero_le _, Nat.zero_le _⟩ ?_
  refine rr_ifP_ne F (tgt := 22) dX7_longOf_13 (by decide) (fun c_13 => ?_) (fun c_13 => ?_)
  · refine lv_iload_n F.1 F.2.1 dX7_longOf_22 rfl (lv_at hl 0 rfl) ?_
    refine rr_iconst F dX7_longOf_23 ?_
    refine rr_isub F (z := k - 1) dX7_longOf_24 (by first | rfl | omega) ?_
    exact rr_iret F hr hlocks dX7_longOf_25 (by rw [rseg_yes hq]; exact (fst_eq (by omega) (by omega) (fun j x y => kq (j + 1) (by omega) (by omega)) (fun _ => by rw [show k - 1 + 1 = k by omega]; exact c_13)).symm)
  · refine lv_iinc (v := iI (k + 1)) (lv' := [(3, vI (k + 1)), (0, .ref ro), (1, vI dv), (2, vI d)]) F.1 F.2.1 dX7_longOf_16 hl (k := 0) rfl (iinc_ok (by first | rfl | omega)) (by decide) rfl (fun ls hl => ?_)
    refine lv_goto (tgt := 2) F.1 F.2.1 dX7_longOf_19 (by decide) ?_
    exact ih_2 (k + 1) ⟨by omega, by have : k ≠ a 0 := fun hk => c_13 (by rw [hk, off_back hp]; exact hq); omega, fun j x y => (if hj : j = k then by subst hj; exact c_13 else kq j x (by omega))⟩ (show ((25 - (k + 1)).toNat) < ((25 - k).toNat) by omega) ls (lv_sub hl [0, 1, 2, 3] rfl)
set_option maxRecDepth 100000 in
set_option maxHeartbeats 4000000 in
theorem c_X7_dividerOf (l : Launch) (D : va_G) (cy : Nat → ClassId) (ro : Nat) (a : Int → Int) (d sn : Int) (hM : MR a) (hd : 0 ≤ d ∧ d ≤ 1) (hs : 0 ≤ sn ∧ sn ≤ 1000) : Rd l yX7_dividerOf cX7_dividerOf 6 (some FieldType.int) 2 [.ref ro, vI d, vI sn] D cy [(ro, .inl (cy 1, 118, .inl (iA a)))] (dva (a 0) (rq a) d sn) := by
  refine Rd.of RX7 rfl [(0, .ref ro), (1, vI d), (2, vI sn)] rfl (by decide +kernel) (Nat.le_of_ble_eq_true rfl) ?_
  intro p e s m args below meth c F hr hlocks hK hP ls hl
  have hn0 := hM.n
  have hw0 := hM.nw
  have hc0 := hM.wc
  refine lv_iload_n F.1 F.2.1 dX7_dividerOf_0 rfl (lv_at hl 2 rfl) ?_
  refine lv_istore_n (lv' := [(3, vI sn), (0, .ref ro), (1, vI d), (2, vI sn)]) F.1 F.2.1 dX7_dividerOf_1 rfl hl (by decide) rfl (fun ls hl => ?_)
  refine rr_iconst F dX7_dividerOf_2 ?_
  refine lv_istore (lv' := [(4, vI 0), (3, vI sn), (0, .ref ro), (1, vI d), (2, vI sn)]) F.1 F.2.1 dX7_dividerOf_3 hl (by decide) rfl (fun ls hl => ?_)
  refine rr_loop1 (fun k => (0 ≤ k) ∧ (k ≤ a 0) ∧ (∀ j, 0 ≤ j → j < k → ¬ (0 < seg (a 0) (rq a) (plc (a 0) d j) d ∧ cnt (fun j => 0 < seg (a 0) (rq a) (plc (a 0) d j) d) j = sn))) (fun k => (25 - k).toNat) (fun k => [(4, vI k), (3, vI (sn - cnt (fun j => 0 < seg (a 0) (rq a) (plc (a 0) d j) d) k)), (0, .ref ro), (1, vI d), (2, vI sn)]) ?_ 0 ⟨by omega, by omega, fun j x y => by omega⟩ (lv_cv (lv_sub hl [0, 1, 2, 3, 4] rfl) (by rw [← show (sn : Int) = sn - cnt (fun u_j => 0 < seg (a 0) (rq a) (plc (a 0) d u_j) d) 0 from by (rw [cnt_0]; omega)]; rfl))
  intro k hI ih_5 ls hl
  obtain ⟨k0, k1, kq⟩ := hI
  have hl : lv_has ls 6 [(4, vI k), (3, vI (sn - cnt (fun j => 0 < seg (a 0) (rq a) (plc (a 0) d j) d) k)), (0, .ref ro), (1, vI d), (2, vI sn)] := hl
  have cr := cnt_rng (fun j => 0 < seg (a 0) (rq a) (plc (a 0) d j) d) k0
  refine lv_iload F.1 F.2.1 dX7_dividerOf_5 (lv_at hl 0 rfl) ?_
  refine lv_aload_n F.1 F.2.1 dX7_dividerOf_7 rfl (lv_at hl 2 rfl) ?_
  refine rr_iconst F dX7_dividerOf_8 ?_
  refine rr_iald F hK hP 0 rfl (by omega) (by omega) (by decide) dX7_dividerOf_9 ?_
  refine rr_icmp_ge F (tgt := 67) dX7_dividerOf_10 (by decide) ⟨by omega, by omega⟩ ⟨by omega, by omega⟩ (fun c_10 => ?_) (fun c_10 => ?_)
  · refine rr_iconst F dX7_dividerOf_67 ?_
    exact rr_iret F hr hlocks dX7_dividerOf_68 (dva_miss (by omega) (fun j x y => kq j x (by omega)))
  · refine lv_iload_n F.1 F.2.1 dX7_dividerOf_13 rfl (lv_at hl 3 rfl) ?_
    refine rr_if_ne F (tgt := 22) dX7_dividerOf_14 (by decide) ⟨by omega, by omega⟩ (fun c_14 => ?_) (fun c_14 => ?_)
    · refine lv_aload_n F.1 F.2.1 dX7_dividerOf_22 rfl (lv_at hl 2 rfl) ?_
      refine rr_iconst F dX7_dividerOf_23 ?_
      refine rr_iald F hK hP 0 rfl (by omega) (by omega) (by decide) dX7_dividerOf_24 ?_
      refine rr_iconst F dX7_dividerOf_25 ?_
      refine rr_isub F (z := (a 0) - 1) dX7_dividerOf_26 (by first | rfl | omega) ?_
      refine lv_iload F.1 F.2.1 dX7_dividerOf_27 (lv_at hl 0 rfl) ?_
      refine rr_isub F (z := ((a 0) - 1) - k) dX7_dividerOf_29 (by first | rfl | omega) ?_
      refine ek_v (P := fun z => W p l e _ s m args below meth c _ _ _ _ _ (F0 m 30 ls (z :: []))) (show (vI (((a 0) - 1) - k) : Value) = vI (plc (a 0) d k) from by unfold plc; rw [if_neg (by assumption)]) ?_
      have pr := plc_rng (d := d) k0 c_10
      have qq := hM.q pr.1 pr.2
      refine lv_istore (lv' := [(5, vI (plc (a 0) d k)), (4, vI k), (3, vI (sn - cnt (fun j => 0 < seg (a 0) (rq a) (plc (a 0) d j) d) k)), (0, .ref ro), (1, vI d), (2, vI sn)]) F.1 F.2.1 dX7_dividerOf_30 hl (by decide) rfl (fun ls hl => ?_)
      refine lv_aload_n F.1 F.2.1 dX7_dividerOf_32 rfl (lv_at hl 3 rfl) ?_
      refine lv_iload F.1 F.2.1 dX7_dividerOf_33 (lv_at hl 0 rfl) ?_
      refine rr_rdS (rest := []) F hK (c_X7_isDivider l D cy ro a (plc (a 0) d k) (by first | assumption | omega | exact ⟨by omega, by omega⟩) (by first | assumption | omega | exact ⟨by omega, by omega⟩)) hP sf_X7_isDivider tw948 ⟨Nat.le_of_ble_eq_true rfl, Nat.le_of_ble_eq_true rfl⟩ hl rfl (Nat.le_of_ble_eq_true rfl) dX7_dividerOf_35 ⟨Nat.zero_le _, Nat.zero_le _⟩ ?_
      refine rr_ifP_eq F (tgt := 61) dX7_dividerOf_38 (by decide) (fun c_38 => ?_) (fun c_38 => ?_)
      · refine lv_iinc (v := iI (k + 1)) (lv' := [(4, vI (k + 1)), (5, vI (plc (a 0) d k)), (3, vI (sn - cnt (fun j => 0 < seg (a 0) (rq a) (plc (a 0) d j) d) k)), (0, .ref ro), (1, vI d), (2, vI sn)]) F.1 F.2.1 dX7_dividerOf_61 hl (k := 1) rfl (iinc_ok (by first | rfl | omega)) (by decide) rfl (fun ls hl => ?_)
        refine lv_goto (tgt := 5) F.1 F.2.1 dX7_dividerOf_64 (by decide) ?_
        exact ih_5 (k + 1) ⟨by omega, by omega, fun j x y => (if hj : j = k then by subst hj; intro h; first | exact c_38 (rseg_div h.1) | (have := h.1; have := h.2; omega) else kq j x (by omega))⟩ (show ((25 - (k + 1)).toNat) < ((25 - k).toNat) by omega) ls (lv_cv (lv_sub hl [0, 2, 3, 4, 5] rfl) (by rw [← show (sn - cnt (fun j => 0 < seg (a 0) (rq a) (plc (a 0) d j) d) k : Int) = sn - cnt (fun u_j => 0 < seg (a 0) (rq a) (plc (a 0) d u_j) d) (k + 1) from by first | (rw [← cnt_n (P := fun j => 0 < seg (a 0) (rq a) (plc (a 0) d j) d) k0 (fun h => c_38 (rseg_div h))]) | (rw [← cnt_n (P := fun j => 0 < seg (a 0) (rq a) (plc (a 0) d j) d) k0 (show ¬ 0 < seg (a 0) (rq a) (plc (a 0) d k) d by omega)]) | (rw [← cnt_y (P := fun j => 0 < seg (a 0) (rq a) (plc (a 0) d j) d) k0 (by assumption)]; omega)]; rfl))
      · refine lv_aload_n F.1 F.2.1 dX7_dividerOf_41 rfl (lv_at hl 3 rfl) ?_
        refine lv_iload F.1 F.2.1 dX7_dividerOf_42 (lv_at hl 0 rfl) ?_
        refine lv_iload_n F.1 F.2.1 dX7_dividerOf_44 rfl (lv_at hl 4 rfl) ?_
        refine rr_rdS (rest := []) F hK (c_X7_longOf l D cy ro a (plc (a 0) d k) d (by first | assumption | omega | exact ⟨by omega, by omega⟩) (by first | assumption | omega | exact ⟨by omega, by omega⟩) (by first | assumption | omega | exact ⟨by omega, by omega⟩) (by first | assumption | omega | exact ⟨by omega, by omega⟩)) hP sf_X7_longOf tw1014 ⟨Nat.le_of_ble_eq_true rfl, Nat.le_of_ble_eq_true rfl⟩ hl rfl (Nat.le_of_ble_eq_true rfl) dX7_dividerOf_45 ⟨Nat.zero_le _, Nat.zero_le _⟩ ?_
        have q_45_0 := (seg_rng (n := a 0) (by omega) (rq a) (plc (a 0) d k) d)
        refine rr_if_le F (tgt := 61) dX7_dividerOf_48 (by decide) ⟨by omega, by omega⟩ (fun c_48 => ?_) (fun c_48 => ?_)
        · refine lv_iinc (v := iI (k + 1)) (lv' := [(4, vI (k + 1)), (5, vI (plc (a 0) d k)), (3, vI (sn - cnt (fun j => 0 < seg (a 0) (rq a) (plc (a 0) d j) d) k)), (0, .ref ro), (1, vI d), (2, vI sn)]) F.1 F.2.1 dX7_dividerOf_61 hl (k := 1) rfl (iinc_ok (by first | rfl | omega)) (by decide) rfl (fun ls hl => ?_)
          refine lv_goto (tgt := 5) F.1 F.2.1 dX7_dividerOf_64 (by decide) ?_
          exact ih_5 (k + 1) ⟨by omega, by omega, fun j x y => (if hj : j = k then by subst hj; intro h; first | exact c_38 (rseg_div h.1) | (have := h.1; have := h.2; omega) else kq j x (by omega))⟩ (show ((25 - (k + 1)).toNat) < ((25 - k).toNat) by omega) ls (lv_cv (lv_sub hl [0, 2, 3, 4, 5] rfl) (by rw [← show (sn - cnt (fun j => 0 < seg (a 0) (rq a) (plc (a 0) d j) d) k : Int) = sn - cnt (fun u_j => 0 < seg (a 0) (rq a) (plc (a 0) d u_j) d) (k + 1) from by first | (rw [← cnt_n (P := fun j => 0 < seg (a 0) (rq a) (plc (a 0) d j) d) k0 (fun h => c_38 (rseg_div h))]) | (rw [← cnt_n (P := fun j => 0 < seg (a 0) (rq a) (plc (a 0) d j) d) k0 (show ¬ 0 < seg (a 0) (rq a) (plc (a 0) d k) d by omega)]) | (rw [← cnt_y (P := fun j => 0 < seg (a 0) (rq a) (plc (a 0) d j) d) k0 (by assumption)]; omega)]; rfl))
        · refine lv_iload_n F.1 F.2.1 dX7_dividerOf_51 rfl (lv_at hl 2 rfl) ?_
          refine rr_if_ne F (tgt := 58) dX7_dividerOf_52 (by decide) ⟨by omega, by omega⟩ (fun c_52 => ?_) (fun c_52 => ?_)
          · refine lv_iinc (v := iI ((sn - cnt (fun j => 0 < seg (a 0) (rq a) (plc (a 0) d j) d) k) - 1)) (lv' := [(3, vI ((sn - cnt (fun j => 0 < seg (a 0) (rq a) (plc (a 0) d j) d) k) - 1)), (5, vI (plc (a 0) d k)), (4, vI k), (0, .ref ro), (1, vI d), (2, vI sn)]) F.1 F.2.1 dX7_dividerOf_58 hl (k := 2) rfl (iinc_ok (by first | rfl | omega)) (by decide) rfl (fun ls hl => ?_)
            refine lv_iinc (v := iI (k + 1)) (lv' := [(4, vI (k + 1)), (3, vI ((sn - cnt (fun j => 0 < seg (a 0) (rq a) (plc (a 0) d j) d) k) - 1)), (5, vI (plc (a 0) d k)), (0, .ref ro), (1, vI d), (2, vI sn)]) F.1 F.2.1 dX7_dividerOf_61 hl (k := 2) rfl (iinc_ok (by first | rfl | omega)) (by decide) rfl (fun ls hl => ?_)
            refine lv_goto (tgt := 5) F.1 F.2.1 dX7_dividerOf_64 (by decide) ?_
            exact ih_5 (k + 1) ⟨by omega, by omega, fun j x y => (if hj : j = k then by subst hj; intro h; first | exact c_38 (rseg_div h.1) | (have := h.1; have := h.2; omega) else kq j x (by omega))⟩ (show ((25 - (k + 1)).toNat) < ((25 - k).toNat) by omega) ls (lv_cv (lv_sub hl [0, 1, 3, 4, 5] rfl) (by rw [← show ((sn - cnt (fun j => 0 < seg (a 0) (rq a) (plc (a 0) d j) d) k) - 1 : Int) = sn - cnt (fun u_j => 0 < seg (a 0) (rq a) (plc (a 0) d u_j) d) (k + 1) from by first | (rw [← cnt_n (P := fun j => 0 < seg (a 0) (rq a) (plc (a 0) d j) d) k0 (fun h => c_38 (rseg_div h))]) | (rw [← cnt_n (P := fun j => 0 < seg (a 0) (rq a) (plc (a 0) d j) d) k0 (show ¬ 0 < seg (a 0) (rq a) (plc (a 0) d k) d by omega)]) | (rw [← cnt_y (P := fun j => 0 < seg (a 0) (rq a) (plc (a 0) d j) d) k0 (by assumption)]; omega)]; rfl))
          · refine lv_iload F.1 F.2.1 dX7_dividerOf_55 (lv_at hl 0 rfl) ?_
            exact rr_iret F hr hlocks dX7_dividerOf_57 (dva_hit k0 (by omega) (by assumption) (by omega) kq)
    · refine lv_iload F.1 F.2.1 dX7_dividerOf_17 (lv_at hl 0 rfl) ?_
      refine ek_v (P := fun z => W p l e _ s m args below meth c _ _ _ _ _ (F0 m 19 ls (z :: []))) (show (vI k : Value) = vI (plc (a 0) d k) from by unfold plc; rw [if_pos (by assumption)]) ?_
      refine lv_goto (tgt := 30) F.1 F.2.1 dX7_dividerOf_19 (by decide) ?_
      have pr := plc_rng (d := d) k0 c_10
      have qq := hM.q pr.1 pr.2
      refine lv_istore (lv' := [(5, vI (plc (a 0) d k)), (4, vI k), (3, vI (sn - cnt (fun j => 0 < seg (a 0) (rq a) (plc (a 0) d j) d) k)), (0, .ref ro), (1, vI d), (2, vI sn)]) F.1 F.2.1 dX7_dividerOf_30 hl (by decide) rfl (fun ls hl => ?_)
      refine lv_aload_n F.1 F.2.1 dX7_dividerOf_32 rfl (lv_at hl 3 rfl) ?_
      refine lv_iload F.1 F.2.1 dX7_dividerOf_33 (lv_at hl 0 rfl) ?_
      refine rr_rdS (rest := []) F hK (c_X7_isDivider l D cy ro a (plc (a 0) d k) (by first | assumption | omega | exact ⟨by omega, by omega⟩) (by first | assumption | omega | exact ⟨by omega, by omega⟩)) hP sf_X7_isDivider tw948 ⟨Nat.le_of_ble_eq_true rfl, Nat.le_of_ble_eq_true rfl⟩ hl rfl (Nat.le_of_ble_eq_true rfl) dX7_dividerOf_35 ⟨Nat.zero_le _, Nat.zero_le _⟩ ?_
      refine rr_ifP_eq F (tgt := 61) dX7_dividerOf_38 (by decide) (fun c_38 => ?_) (fun c_38 => ?_)
      · refine lv_iinc (v := iI (k + 1)) (lv' := [(4, vI (k + 1)), (5, vI (plc (a 0) d k)), (3, vI (sn - cnt (fun j => 0 < seg (a 0) (rq a) (plc (a 0) d j) d) k)), (0, .ref ro), (1, vI d), (2, vI sn)]) F.1 F.2.1 dX7_dividerOf_61 hl (k := 1) rfl (iinc_ok (by first | rfl | omega)) (by decide) rfl (fun ls hl => ?_)
        refine lv_goto (tgt := 5) F.1 F.2.1 dX7_dividerOf_64 (by decide) ?_
        exact ih_5 (k + 1) ⟨by omega, by omega, fun j x y => (if hj : j = k then by subst hj; intro h; first | exact c_38 (rseg_div h.1) | (have := h.1; have := h.2; omega) else kq j x (by omega))⟩ (show ((25 - (k + 1)).toNat) < ((25 - k).toNat) by omega) ls (lv_cv (lv_sub hl [0, 2, 3, 4, 5] rfl) (by rw [← show (sn - cnt (fun j => 0 < seg (a 0) (rq a) (plc (a 0) d j) d) k : Int) = sn - cnt (fun u_j => 0 < seg (a 0) (rq a) (plc (a 0) d u_j) d) (k + 1) from by first | (rw [← cnt_n (P := fun j => 0 < seg (a 0) (rq a) (plc (a 0) d j) d) k0 (fun h => c_38 (rseg_div h))]) | (rw [← cnt_n (P := fun j => 0 < seg (a 0) (rq a) (plc (a 0) d j) d) k0 (show ¬ 0 < seg (a 0) (rq a) (plc (a 0) d k) d by omega)]) | (rw [← cnt_y (P := fun j => 0 < seg (a 0) (rq a) (plc (a 0) d j) d) k0 (by assumption)]; omega)]; rfl))
      · refine lv_aload_n F.1 F.2.1 dX7_dividerOf_41 rfl (lv_at hl 3 rfl) ?_
        refine lv_iload F.1 F.2.1 dX7_dividerOf_42 (lv_at hl 0 rfl) ?_
        refine lv_iload_n F.1 F.2.1 dX7_dividerOf_44 rfl (lv_at hl 4 rfl) ?_
        refine rr_rdS (rest := []) F hK (c_X7_longOf l D cy ro a (plc (a 0) d k) d (by first | assumption | omega | exact ⟨by omega, by omega⟩) (by first | assumption | omega | exact ⟨by omega, by omega⟩) (by first | assumption | omega | exact ⟨by omega, by omega⟩) (by first | assumption | omega | exact ⟨by omega, by omega⟩)) hP sf_X7_longOf tw1014 ⟨Nat.le_of_ble_eq_true rfl, Nat.le_of_ble_eq_true rfl⟩ hl rfl (Nat.le_of_ble_eq_true rfl) dX7_dividerOf_45 ⟨Nat.zero_le _, Nat.zero_le _⟩ ?_
        have q_45_0 := (seg_rng (n := a 0) (by omega) (rq a) (plc (a 0) d k) d)
        refine rr_if_le F (tgt := 61) dX7_dividerOf_48 (by decide) ⟨by omega, by omega⟩ (fun c_48 => ?_) (fun c_48 => ?_)
        · refine lv_iinc (v := iI (k + 1)) (lv' := [(4, vI (k + 1)), (5, vI (plc (a 0) d k)), (3, vI (sn - cnt (fun j => 0 < seg (a 0) (rq a) (plc (a 0) d j) d) k)), (0, .ref ro), (1, vI d), (2, vI sn)]) F.1 F.2.1 dX7_dividerOf_61 hl (k := 1) rfl (iinc_ok (by first | rfl | omega)) (by decide) rfl (fun ls hl => ?_)
          refine lv_goto (tgt := 5) F.1 F.2.1 dX7_dividerOf_64 (by decide) ?_
          exact ih_5 (k + 1) ⟨by omega, by omega, fun j x y => (if hj : j = k then by subst hj; intro h; first | exact c_38 (rseg_div h.1) | (have := h.1; have := h.2; omega) else kq j x (by omega))⟩ (show ((25 - (k + 1)).toNat) < ((25 - k).toNat) by omega) ls (lv_cv (lv_sub hl [0, 2, 3, 4, 5] rfl) (by rw [← show (sn - cnt (fun j => 0 < seg (a 0) (rq a) (plc (a 0) d j) d) k : Int) = sn - cnt (fun u_j => 0 < seg (a 0) (rq a) (plc (a 0) d u_j) d) (k + 1) from by first | (rw [← cnt_n (P := fun j => 0 < seg (a 0) (rq a) (plc (a 0) d j) d) k0 (fun h => c_38 (rseg_div h))]) | (rw [← cnt_n (P := fun j => 0 < seg (a 0) (rq a) (plc (a 0) d j) d) k0 (show ¬ 0 < seg (a 0) (rq a) (plc (a 0) d k) d by omega)]) | (rw [← cnt_y (P := fun j => 0 < seg (a 0) (rq a) (plc (a 0) d j) d) k0 (by assumption)]; omega)]; rfl))
        · refine lv_iload_n F.1 F.2.1 dX7_dividerOf_51 rfl (lv_at hl 2 rfl) ?_
          refine rr_if_ne F (tgt := 58) dX7_dividerOf_52 (by decide) ⟨by omega, by omega⟩ (fun c_52 => ?_) (fun c_52 => ?_)
          · refine lv_iinc (v := iI ((sn - cnt (fun j => 0 < seg (a 0) (rq a) (plc (a 0) d j) d) k) - 1)) (lv' := [(3, vI ((sn - cnt (fun j => 0 < seg (a 0) (rq a) (plc (a 0) d j) d) k) - 1)), (5, vI (plc (a 0) d k)), (4, vI k), (0, .ref ro), (1, vI d), (2, vI sn)]) F.1 F.2.1 dX7_dividerOf_58 hl (k := 2) rfl (iinc_ok (by first | rfl | omega)) (by decide) rfl (fun ls hl => ?_)
            refine lv_iinc (v := iI (k + 1)) (lv' := [(4, vI (k + 1)), (3, vI ((sn - cnt (fun j => 0 < seg (a 0) (rq a) (plc (a 0) d j) d) k) - 1)), (5, vI (plc (a 0) d k)), (0, .ref ro), (1, vI d), (2, vI sn)]) F.1 F.2.1 dX7_dividerOf_61 hl (k := 2) rfl (iinc_ok (by first | rfl | omega)) (by decide) rfl (fun ls hl => ?_)
            refine lv_goto (tgt := 5) F.1 F.2.1 dX7_dividerOf_64 (by decide) ?_
            exact ih_5 (k + 1) ⟨by omega, by omega, fun j x y => (if hj : j = k then by subst hj; intro h; first | exact c_38 (rseg_div h.1) | (have := h.1; have := h.2; omega) else kq j x (by omega))⟩ (show ((25 - (k + 1)).toNat) < ((25 - k).toNat) by omega) ls (lv_cv (lv_sub hl [0, 1, 3, 4, 5] rfl) (by rw [← show ((sn - cnt (fun j => 0 < seg (a 0) (rq a) (plc (a 0) d j) d) k) - 1 : Int) = sn - cnt (fun u_j => 0 < seg (a 0) (rq a) (plc (a 0) d u_j) d) (k + 1) from by first | (rw [← cnt_n (P := fun j => 0 < seg (a 0) (rq a) (plc (a 0) d j) d) k0 (fun h => c_38 (rseg_div h))]) | (rw [← cnt_n (P := fun j => 0 < seg (a 0) (rq a) (plc (a 0) d j) d) k0 (show ¬ 0 < seg (a 0) (rq a) (plc (a 0) d k) d by omega)]) | (rw [← cnt_y (P := fun j => 0 < seg (a 0) (rq a) (plc (a 0) d j) d) k0 (by assumption)]; omega)]; rfl))
          · refine lv_iload F.1 F.2.1 dX7_dividerOf_55 (lv_at hl 0 rfl) ?_
            exact rr_iret F hr hlocks dX7_dividerOf_57 (dva_hit k0 (by omega) (by assumption) (by omega) kq)
set_option maxRecDepth 100000 in
set_option maxHeartbeats 4000000 in
theorem c_X7_segments (l : Launch) (D : va_G) (cy : Nat → ClassId) (ro : Nat) (a : Int → Int) (d : Int) (hM : MR a) (hd : 0 ≤ d ∧ d ≤ 1) : Rd l yX7_segments cX7_segments 4 (some FieldType.int) 2 [.ref ro, vI d] D cy [(ro, .inl (cy 1, 118, .inl (iA a)))] (cnt (fun p => 0 < seg (a 0) (rq a) p d) (a 0)) := by
  refine Rd.of RX7 rfl [(0, .ref ro), (1, vI d)] rfl (by decide +kernel) (Nat.le_of_ble_eq_true rfl) ?_
  intro p e s m args below meth c F hr hlocks hK hP ls hl
  have hn0 := hM.n
  have hw0 := hM.nw
  have hc0 := hM.wc
  refine rr_iconst F dX7_segments_0 ?_
  refine lv_istore_n (lv' := [(2, vI 0), (0, .ref ro), (1, vI d)]) F.1 F.2.1 dX7_segments_1 rfl hl (by decide) rfl (fun ls hl => ?_)
  refine rr_iconst F dX7_segments_2 ?_
  refine lv_istore_n (lv' := [(3, vI 0), (2, vI 0), (0, .ref ro), (1, vI d)]) F.1 F.2.1 dX7_segments_3 rfl hl (by decide) rfl (fun ls hl => ?_)
  refine rr_loop1 (fun k => (0 ≤ k) ∧ (k ≤ a 0)) (fun k => (25 - k).toNat) (fun k => [(3, vI k), (2, vI (cnt (fun p => 0 < seg (a 0) (rq a) p d) k)), (0, .ref ro), (1, vI d)]) ?_ 0 ⟨by omega, by omega⟩ (lv_sub hl [0, 1, 2, 3] rfl)
  intro k hI ih_4 ls hl
  obtain ⟨k0, k1⟩ := hI
  have hl : lv_has ls 4 [(3, vI k), (2, vI (cnt (fun p => 0 < seg (a 0) (rq a) p d) k)), (0, .ref ro), (1, vI d)] := hl
  have cr := cnt_rng (fun p => 0 < seg (a 0) (rq a) p d) k0
  refine lv_iload_n F.1 F.2.1 dX7_segments_4 rfl (lv_at hl 0 rfl) ?_
  refine lv_aload_n F.1 F.2.1 dX7_segments_5 rfl (lv_at hl 2 rfl) ?_
  refine rr_iconst F dX7_segments_6 ?_
  refine rr_iald F hK hP 0 rfl (by omega) (by omega) (by decide) dX7_segments_7 ?_
  refine rr_icmp_ge F (tgt := 42) dX7_segments_8 (by decide) ⟨by omega, by omega⟩ ⟨by omega, by omega⟩ (fun c_8 => ?_) (fun c_8 => ?_)
  · refine lv_iload_n F.1 F.2.1 dX7_segments_42 rfl (lv_at hl 1 rfl) ?_
    exact rr_iret F hr hlocks dX7_segments_43 (by rw [show k = a 0 by omega])
  · refine lv_iload_n F.1 F.2.1 dX7_segments_11 rfl (lv_at hl 1 rfl) ?_
    refine lv_aload_n F.1 F.2.1 dX7_segments_12 rfl (lv_at hl 2 rfl) ?_
    refine lv_iload_n F.1 F.2.1 dX7_segments_13 rfl (lv_at hl 0 rfl) ?_
    have qq := hM.q k0 c_8
    refine rr_rdS (rest := [vI (cnt (fun p => 0 < seg (a 0) (rq a) p d) k)]) F hK (c_X7_isDivider l D cy ro a k (by first | assumption | omega | exact ⟨by omega, by omega⟩) (by first | assumption | omega | exact ⟨by omega, by omega⟩)) hP sf_X7_isDivider tw948 ⟨Nat.le_of_ble_eq_true rfl, Nat.le_of_ble_eq_true rfl⟩ hl rfl (Nat.le_of_ble_eq_true rfl) dX7_segments_14 ⟨Nat.zero_le _, Nat.zero_le _⟩ ?_
    refine rr_ifP_eq F (tgt := 33) dX7_segments_17 (by decide) (fun c_17 => ?_) (fun c_17 => ?_)
    · refine rr_iconst F dX7_segments_33 ?_
      refine rr_iadd F (z := cnt (fun p => 0 < seg (a 0) (rq a) p d) (k + 1)) dX7_segments_34 (by first | exact (cnt_y (P := fun p => 0 < seg (a 0) (rq a) p d) k0 (by assumption)) | (rw [Int.add_zero]; exact cnt_n (P := fun p => 0 < seg (a 0) (rq a) p d) k0 (fun h => c_17 (rseg_div h))) | (rw [Int.add_zero]; exact cnt_n (P := fun p => 0 < seg (a 0) (rq a) p d) k0 (show ¬ 0 < seg (a 0) (rq a) k d by omega))) ?_
      refine lv_istore_n (lv' := [(2, vI (cnt (fun p => 0 < seg (a 0) (rq a) p d) (k + 1))), (3, vI k), (0, .ref ro), (1, vI d)]) F.1 F.2.1 dX7_segments_35 rfl hl (by decide) rfl (fun ls hl => ?_)
      refine lv_iinc (v := iI (k + 1)) (lv' := [(3, vI (k + 1)), (2, vI (cnt (fun p => 0 < seg (a 0) (rq a) p d) (k + 1))), (0, .ref ro), (1, vI d)]) F.1 F.2.1 dX7_segments_36 hl (k := 1) rfl (iinc_ok (by first | rfl | omega)) (by decide) rfl (fun ls hl => ?_)
      refine lv_goto (tgt := 4) F.1 F.2.1 dX7_segments_39 (by decide) ?_
      exact ih_4 (k + 1) ⟨by omega, by omega⟩ (show ((25 - (k + 1)).toNat) < ((25 - k).toNat) by omega) ls (lv_sub hl [0, 1, 2, 3] rfl)
    · refine lv_aload_n F.1 F.2.1 dX7_segments_20 rfl (lv_at hl 2 rfl) ?_
      refine lv_iload_n F.1 F.2.1 dX7_segments_21 rfl (lv_at hl 0 rfl) ?_
      refine lv_iload_n F.1 F.2.1 dX7_segments_22 rfl (lv_at hl 3 rfl) ?_
      refine rr_rdS (rest := [vI (cnt (fun p => 0 < seg (a 0) (rq a) p d) k)]) F hK (c_X7_longOf l D cy ro a k d (by first | assumption | omega | exact ⟨by omega, by omega⟩) (by first | assumption | omega | exact ⟨by omega, by omega⟩) (by first | assumption | omega | exact ⟨by omega, by omega⟩) (by first | assumption | omega | exact ⟨by omega, by omega⟩)) hP sf_X7_longOf tw1014 ⟨Nat.le_of_ble_eq_true rfl, Nat.le_of_ble_eq_true rfl⟩ hl rfl (Nat.le_of_ble_eq_true rfl) dX7_segments_23 ⟨Nat.zero_le _, Nat.zero_le _⟩ ?_
      have q_23_0 := (seg_rng (n := a 0) (by omega) (rq a) k d)
      refine rr_if_le F (tgt := 33) dX7_segments_26 (by decide) ⟨by omega, by omega⟩ (fun c_26 => ?_) (fun c_26 => ?_)
      · refine rr_iconst F dX7_segments_33 ?_
        refine rr_iadd F (z := cnt (fun p => 0 < seg (a 0) (rq a) p d) (k + 1)) dX7_segments_34 (by first | exact (cnt_y (P := fun p => 0 < seg (a 0) (rq a) p d) k0 (by assumption)) | (rw [Int.add_zero]; exact cnt_n (P := fun p => 0 < seg (a 0) (rq a) p d) k0 (fun h => c_17 (rseg_div h))) | (rw [Int.add_zero]; exact cnt_n (P := fun p => 0 < seg (a 0) (rq a) p d) k0 (show ¬ 0 < seg (a 0) (rq a) k d by omega))) ?_
        refine lv_istore_n (lv' := [(2, vI (cnt (fun p => 0 < seg (a 0) (rq a) p d) (k + 1))), (3, vI k), (0, .ref ro), (1, vI d)]) F.1 F.2.1 dX7_segments_35 rfl hl (by decide) rfl (fun ls hl => ?_)
        refine lv_iinc (v := iI (k + 1)) (lv' := [(3, vI (k + 1)), (2, vI (cnt (fun p => 0 < seg (a 0) (rq a) p d) (k + 1))), (0, .ref ro), (1, vI d)]) F.1 F.2.1 dX7_segments_36 hl (k := 1) rfl (iinc_ok (by first | rfl | omega)) (by decide) rfl (fun ls hl => ?_)
        refine lv_goto (tgt := 4) F.1 F.2.1 dX7_segments_39 (by decide) ?_
        exact ih_4 (k + 1) ⟨by omega, by omega⟩ (show ((25 - (k + 1)).toNat) < ((25 - k).toNat) by omega) ls (lv_sub hl [0, 1, 2, 3] rfl)
      · refine rr_iconst F dX7_segments_29 ?_
        refine lv_goto (tgt := 34) F.1 F.2.1 dX7_segments_30 (by decide) ?_
        refine rr_iadd F (z := cnt (fun p => 0 < seg (a 0) (rq a) p d) (k + 1)) dX7_segments_34 (by first | exact (cnt_y (P := fun p => 0 < seg (a 0) (rq a) p d) k0 (by assumption)) | (rw [Int.add_zero]; exact cnt_n (P := fun p => 0 < seg (a 0) (rq a) p d) k0 (fun h => c_17 (rseg_div h))) | (rw [Int.add_zero]; exact cnt_n (P := fun p => 0 < seg (a 0) (rq a) p d) k0 (show ¬ 0 < seg (a 0) (rq a) k d by omega))) ?_
        refine lv_istore_n (lv' := [(2, vI (cnt (fun p => 0 < seg (a 0) (rq a) p d) (k + 1))), (3, vI k), (0, .ref ro), (1, vI d)]) F.1 F.2.1 dX7_segments_35 rfl hl (by decide) rfl (fun ls hl => ?_)
        refine lv_iinc (v := iI (k + 1)) (lv' := [(3, vI (k + 1)), (2, vI (cnt (fun p => 0 < seg (a 0) (rq a) p d) (k + 1))), (0, .ref ro), (1, vI d)]) F.1 F.2.1 dX7_segments_36 hl (k := 1) rfl (iinc_ok (by first | rfl | omega)) (by decide) rfl (fun ls hl => ?_)
        refine lv_goto (tgt := 4) F.1 F.2.1 dX7_segments_39 (by decide) ?_
        exact ih_4 (k + 1) ⟨by omega, by omega⟩ (show ((25 - (k + 1)).toNat) < ((25 - k).toNat) by omega) ls (lv_sub hl [0, 1, 2, 3] rfl)
set_option maxRecDepth 100000 in
set_option maxHeartbeats 4000000 in
theorem c_X7_stands (l : Launch) (D : va_G) (cy : Nat → ClassId) (ro : Nat) (a : Int → Int) (w pl d : Int) (hM : MR a) (hw : 0 ≤ w ∧ w < a 25) (hp : 0 ≤ pl ∧ pl < a 0) (hd : 0 ≤ d ∧ d ≤ 1) : Rd l yX7_stands cX7_stands 7 (some FieldType.boolean) 1 [.ref ro, vI w, vI pl, vI d] D cy [(ro, .inl (cy 1, 118, .inl (iA a)))] (b2i (pB (stn (a 0) (rq a) (rbl a w) (rbc a w) pl d))) := by
  refine Rd.of RX7 rfl [(0, .ref ro), (1, vI w), (2, vI pl), (3, vI d)] rfl (by decide +kernel) (Nat.le_of_ble_eq_true rfl) ?_
  intro p e s m args below meth c F hr hlocks hK hP ls hl
  have hn0 := hM.n
  have hw0 := hM.nw
  have hc0 := hM.wc
  have hb := hM.b hw.1 hw.2
  refine rr_iconst F dX7_stands_0 ?_
  refine lv_istore (lv' := [(4, vI 1), (0, .ref ro), (1, vI w), (2, vI pl), (3, vI d)]) F.1 F.2.1 dX7_stands_1 hl (by decide) rfl (fun ls hl => ?_)
  refine rr_iconst F dX7_stands_3 ?_
  refine lv_istore (lv' := [(5, vI 0), (4, vI 1), (0, .ref ro), (1, vI w), (2, vI pl), (3, vI d)]) F.1 F.2.1 dX7_stands_4 hl (by decide) rfl (fun ls hl => ?_)
  refine rr_loop1 (fun k => (0 ≤ k) ∧ (k ≤ a (26 + 7 * w))) (fun k => (7 - k).toNat) (fun k => [(5, vI k), (4, vI (b2i (pB (∀ j, 0 ≤ j → j < k → a (1 + off (a 0) pl d j) = 9 ∨ a (1 + off (a 0) pl d j) = a (26 + 7 * w + 1 + j))))), (0, .ref ro), (1, vI w), (2, vI pl), (3, vI d)]) ?_ 0 ⟨by omega, by omega⟩ (lv_cv (lv_sub hl [0, 1, 2, 3, 4, 5] rfl) (by rw [← show (1 : Int) = b2i (pB (∀ j, 0 ≤ j → j < 0 → a (1 + off (a 0) pl d j) = 9 ∨ a (1 + off (a 0) pl d j) = a (26 + 7 * w + 1 + j))) from by exact b2i_t (fun j x y => by omega)]; rfl))
  intro k hI ih_6 ls hl
  obtain ⟨k0, k1⟩ := hI
  have hl : lv_has ls 7 [(5, vI k), (4, vI (b2i (pB (∀ j, 0 ≤ j → j < k → a (1 + off (a 0) pl d j) = 9 ∨ a (1 + off (a 0) pl d j) = a (26 + 7 * w + 1 + j))))), (0, .ref ro), (1, vI w), (2, vI pl), (3, vI d)] := hl
  refine lv_iload F.1 F.2.1 dX7_stands_6 (lv_at hl 0 rfl) ?_
  refine lv_aload_n F.1 F.2.1 dX7_stands_8 rfl (lv_at hl 2 rfl) ?_
  refine rr_bipush F dX7_stands_9 (by decide) ?_
  refine rr_bipush F dX7_stands_11 (by decide) ?_
  refine lv_iload_n F.1 F.2.1 dX7_stands_13 rfl (lv_at hl 3 rfl) ?_
  refine rr_imul F (z := 7 * w) dX7_stands_14 (by first | rfl | omega) ?_
  refine rr_iadd F (z := 26 + (7 * w)) dX7_stands_15 (by first | rfl | omega) ?_
  refine rr_iald F hK hP 0 rfl (by omega) (by omega) (by decide) dX7_stands_16 ?_
  refine rr_icmp_ge F (tgt := 78) dX7_stands_17 (by decide) ⟨by omega, by omega⟩ ⟨by omega, by omega⟩ (fun c_17 => ?_) (fun c_17 => ?_)
  · refine lv_iload F.1 F.2.1 dX7_stands_78 (lv_at hl 1 rfl) ?_
    exact rr_zret F hr hlocks (b := (pB (∀ j, 0 ≤ j → j < k → a (1 + off (a 0) pl d j) = 9 ∨ a (1 + off (a 0) pl d j) = a (26 + 7 * w + 1 + j)))) dX7_stands_80 rfl (congrArg b2i (pB_eq ⟨fun h j x y => h j x (Int.lt_of_lt_of_le y c_17), fun h j x y => h j x (Int.lt_of_lt_of_le y k1)⟩))
  · refine lv_aload_n F.1 F.2.1 dX7_stands_20 rfl (lv_at hl 2 rfl) ?_
    refine rr_iconst F dX7_stands_21 ?_
    refine lv_aload_n F.1 F.2.1 dX7_stands_22 rfl (lv_at hl 2 rfl) ?_
    refine lv_iload_n F.1 F.2.1 dX7_stands_23 rfl (lv_at hl 4 rfl) ?_
    refine lv_iload_n F.1 F.2.1 dX7_stands_24 rfl (lv_at hl 5 rfl) ?_
    refine lv_iload F.1 F.2.1 dX7_stands_25 (lv_at hl 0 rfl) ?_
    refine rr_rdS (rest := [vI 1, .ref ro]) F hK (c_X7_off l D cy ro a pl d k (by first | assumption | omega | exact ⟨by omega, by omega⟩) (by first | assumption | omega | exact ⟨by omega, by omega⟩) (by first | assumption | omega | exact ⟨by omega, by omega⟩) (by first | assumption | omega | exact ⟨by omega, by omega⟩)) hP sf_X7_off tw962 ⟨Nat.le_of_ble_eq_true rfl, Nat.le_of_ble_eq_true rfl⟩ hl rfl (Nat.le_of_ble_eq_true rfl) dX7_stands_27 ⟨Nat.zero_le _, Nat.zero_le _⟩ ?_
    have q_27_0 := (off_rng (n := a 0) (by omega) pl d k)
    refine rr_iadd F (z := 1 + (off (a 0) pl d k)) dX7_stands_30 (by first | rfl | omega) ?_
    have qq := hM.q q_27_0.1 q_27_0.2
    refine rr_iald F hK hP 0 rfl (by omega) (by omega) (by decide) dX7_stands_31 ?_
    refine lv_istore (lv' := [(6, vI (a (1 + (off (a 0) pl d k)))), (5, vI k), (4, vI (b2i (pB (∀ j, 0 ≤ j → j < k → a (1 + off (a 0) pl d j) = 9 ∨ a (1 + off (a 0) pl d j) = a (26 + 7 * w + 1 + j))))), (0, .ref ro), (1, vI w), (2, vI pl), (3, vI d)]) F.1 F.2.1 dX7_stands_32 hl (by decide) rfl (fun ls hl => ?_)
    refine lv_iload F.1 F.2.1 dX7_stands_34 (lv_at hl 2 rfl) ?_
    refine rr_ifP_eq F (tgt := 69) dX7_stands_36 (by decide) (fun c_36 => ?_) (fun c_36 => ?_)
    · refine rr_iconst F dX7_stands_69 ?_
      refine lv_istore (lv' := [(4, vI 0), (6, vI (a (1 + (off (a 0) pl d k)))), (5, vI k), (0, .ref ro), (1, vI w), (2, vI pl), (3, vI d)]) F.1 F.2.1 dX7_stands_70 hl (by decide) rfl (fun ls hl => ?_)
      refine lv_iinc (v := iI (k + 1)) (lv' := [(5, vI (k + 1)), (4, vI 0), (6, vI (a (1 + (off (a 0) pl d k)))), (0, .ref ro), (1, vI w), (2, vI pl), (3, vI d)]) F.1 F.2.1 dX7_stands_72 hl (k := 2) rfl (iinc_ok (by first | rfl | omega)) (by decide) rfl (fun ls hl => ?_)
      refine lv_goto (tgt := 6) F.1 F.2.1 dX7_stands_75 (by decide) ?_
      exact ih_6 (k + 1) ⟨by omega, by omega⟩ (show ((7 - (k + 1)).toNat) < ((7 - k).toNat) by omega) ls (lv_cv (lv_sub hl [0, 1, 3, 4, 5, 6] rfl) (by rw [← show (0 : Int) = b2i (pB (∀ j, 0 ≤ j → j < (k + 1) → a (1 + off (a 0) pl d j) = 9 ∨ a (1 + off (a 0) pl d j) = a (26 + 7 * w + 1 + j))) from by first | exact b2i_t (fun j x y => (if hj : j = k then by subst hj; first | exact Or.inl (by assumption) | exact Or.inr (by assumption) else c_36 j x (by omega))) | exact b2i_f (fun h => c_36 (fun j x y => h j x (by omega))) | exact b2i_f (fun h => (h k k0 (by omega)).elim (fun h => c_43 h) (fun h => c_62 h))]; rfl))
    · refine lv_iload F.1 F.2.1 dX7_stands_39 (lv_at hl 0 rfl) ?_
      refine rr_bipush F dX7_stands_41 (by decide) ?_
      refine rr_icmp_eq F (tgt := 65) dX7_stands_43 (by decide) ⟨by omega, by omega⟩ ⟨by omega, by omega⟩ (fun c_43 => ?_) (fun c_43 => ?_)
      · refine rr_iconst F dX7_stands_65 ?_
        refine lv_goto (tgt := 70) F.1 F.2.1 dX7_stands_66 (by decide) ?_
        refine lv_istore (lv' := [(4, vI 1), (6, vI (a (1 + (off (a 0) pl d k)))), (5, vI k), (0, .ref ro), (1, vI w), (2, vI pl), (3, vI d)]) F.1 F.2.1 dX7_stands_70 hl (by decide) rfl (fun ls hl => ?_)
        refine lv_iinc (v := iI (k + 1)) (lv' := [(5, vI (k + 1)), (4, vI 1), (6, vI (a (1 + (off (a 0) pl d k)))), (0, .ref ro), (1, vI w), (2, vI pl), (3, vI d)]) F.1 F.2.1 dX7_stands_72 hl (k := 2) rfl (iinc_ok (by first | rfl | omega)) (by decide) rfl (fun ls hl => ?_)
        refine lv_goto (tgt := 6) F.1 F.2.1 dX7_stands_75 (by decide) ?_
        exact ih_6 (k + 1) ⟨by omega, by omega⟩ (show ((7 - (k + 1)).toNat) < ((7 - k).toNat) by omega) ls (lv_cv (lv_sub hl [0, 1, 3, 4, 5, 6] rfl) (by rw [← show (1 : Int) = b2i (pB (∀ j, 0 ≤ j → j < (k + 1) → a (1 + off (a 0) pl d j) = 9 ∨ a (1 + off (a 0) pl d j) = a (26 + 7 * w + 1 + j))) from by first | exact b2i_t (fun j x y => (if hj : j = k then by subst hj; first | exact Or.inl (by assumption) | exact Or.inr (by assumption) else c_36 j x (by omega))) | exact b2i_f (fun h => c_36 (fun j x y => h j x (by omega))) | exact b2i_f (fun h => (h k k0 (by omega)).elim (fun h => c_43 h) (fun h => c_62 h))]; rfl))
      · refine lv_iload F.1 F.2.1 dX7_stands_46 (lv_at hl 0 rfl) ?_
        refine lv_aload_n F.1 F.2.1 dX7_stands_48 rfl (lv_at hl 3 rfl) ?_
        refine rr_bipush F dX7_stands_49 (by decide) ?_
        refine rr_bipush F dX7_stands_51 (by decide) ?_
        refine lv_iload_n F.1 F.2.1 dX7_stands_53 rfl (lv_at hl 4 rfl) ?_
        refine rr_imul F (z := 7 * w) dX7_stands_54 (by first | rfl | omega) ?_
        refine rr_iadd F (z := 26 + (7 * w)) dX7_stands_55 (by first | rfl | omega) ?_
        refine rr_iconst F dX7_stands_56 ?_
        refine rr_iadd F (z := (26 + (7 * w)) + 1) dX7_stands_57 (by first | rfl | omega) ?_
        refine lv_iload F.1 F.2.1 dX7_stands_58 (lv_at hl 1 rfl) ?_
        refine rr_iadd F (z := ((26 + (7 * w)) + 1) + k) dX7_stands_60 (by first | rfl | omega) ?_
        refine rr_iald F hK hP 0 rfl (by omega) (by omega) (by decide) dX7_stands_61 ?_
        have bb := hb.2 k k0 c_17
        refine rr_icmp_ne F (tgt := 69) dX7_stands_62 (by decide) ⟨by omega, by omega⟩ ⟨by omega, by omega⟩ (fun c_62 => ?_) (fun c_62 => ?_)
        · refine rr_iconst F dX7_stands_69 ?_
          refine lv_istore (lv' := [(4, vI 0), (6, vI (a (1 + (off (a 0) pl d k)))), (5, vI k), (0, .ref ro), (1, vI w), (2, vI pl), (3, vI d)]) F.1 F.2.1 dX7_stands_70 hl (by decide) rfl (fun ls hl => ?_)
          refine lv_iinc (v := iI (k + 1)) (lv' := [(5, vI (k + 1)), (4, vI 0), (6, vI (a (1 + (off (a 0) pl d k)))), (0, .ref ro), (1, vI w), (2, vI pl), (3, vI d)]) F.1 F.2.1 dX7_stands_72 hl (k := 2) rfl (iinc_ok (by first | rfl | omega)) (by decide) rfl (fun ls hl => ?_)
          refine lv_goto (tgt := 6) F.1 F.2.1 dX7_stands_75 (by decide) ?_
          exact ih_6 (k + 1) ⟨by omega, by omega⟩ (show ((7 - (k + 1)).toNat) < ((7 - k).toNat) by omega) ls (lv_cv (lv_sub hl [0, 1, 3, 4, 5, 6] rfl) (by rw [← show (0 : Int) = b2i (pB (∀ j, 0 ≤ j → j < (k + 1) → a (1 + off (a 0) pl d j) = 9 ∨ a (1 + off (a 0) pl d j) = a (26 + 7 * w + 1 + j))) from by first | exact b2i_t (fun j x y => (if hj : j = k then by subst hj; first | exact Or.inl (by assumption) | exact Or.inr (by assumption) else c_36 j x (by omega))) | exact b2i_f (fun h => c_36 (fun j x y => h j x (by omega))) | exact b2i_f (fun h => (h k k0 (by omega)).elim (fun h => c_43 h) (fun h => c_62 h))]; rfl))
        · refine rr_iconst F dX7_stands_65 ?_
          refine lv_goto (tgt := 70) F.1 F.2.1 dX7_stands_66 (by decide) ?_
          refine lv_istore (lv' := [(4, vI 1), (6, vI (a (1 + (off (a 0) pl d k)))), (5, vI k), (0, .ref ro), (1, vI w), (2, vI pl), (3, vI d)]) F.1 F.2.1 dX7_stands_70 hl (by decide) rfl (fun ls hl => ?_)
          refine lv_iinc (v := iI (k + 1)) (lv' := [(5, vI (k + 1)), (4, vI 1), (6, vI (a (1 + (off (a 0) pl d k)))), (0, .ref ro), (1, vI w), (2, vI pl), (3, vI d)]) F.1 F.2.1 dX7_stands_72 hl (k := 2) rfl (iinc_ok (by first | rfl | omega)) (by decide) rfl (fun ls hl => ?_)
          refine lv_goto (tgt := 6) F.1 F.2.1 dX7_stands_75 (by decide) ?_
          exact ih_6 (k + 1) ⟨by omega, by omega⟩ (show ((7 - (k + 1)).toNat) < ((7 - k).toNat) by omega) ls (lv_cv (lv_sub hl [0, 1, 3, 4, 5, 6] rfl) (by rw [← show (1 : Int) = b2i (pB (∀ j, 0 ≤ j → j < (k + 1) → a (1 + off (a 0) pl d j) = 9 ∨ a (1 + off (a 0) pl d j) = a (26 + 7 * w + 1 + j))) from by first | exact b2i_t (fun j x y => (if hj : j = k then by subst hj; first | exact Or.inl (by assumption) | exact Or.inr (by assumption) else c_36 j x (by omega))) | exact b2i_f (fun h => c_36 (fun j x y => h j x (by omega))) | exact b2i_f (fun h => (h k k0 (by omega)).elim (fun h => c_43 h) (fun h => c_62 h))]; rfl))
set_option maxRecDepth 100000 in
set_option maxHeartbeats 4000000 in
theorem c_X7_isFit (l : Launch) (D : va_G) (cy : Nat → ClassId) (ro : Nat) (a : Int → Int) (w dv d : Int) (hM : MR a) (hw : 0 ≤ w ∧ w < a 25) (hp : 0 ≤ dv ∧ dv < a 0) (hd : 0 ≤ d ∧ d ≤ 1) (hq : a (1 + dv) = 0) : Rd l yX7_isFit cX7_isFit 4 (some FieldType.boolean) 2 [.ref ro, vI w, vI dv, vI d] D cy [(ro, .inl (cy 1, 118, .inl (iA a)))] (b2i (pB (ft (a 0) (rq a) (rbl a w) (rbc a w) dv d))) := by
  refine Rd.of RX7 rfl [(0, .ref ro), (1, vI w), (2, vI dv), (3, vI d)] rfl (by decide +kernel) (Nat.le_of_ble_eq_true rfl) ?_
  intro p e s m args below meth c F hr hlocks hK hP ls hl
  have hn0 := hM.n
  have hw0 := hM.nw
  have hc0 := hM.wc
  have hb := hM.b hw.1 hw.2
  refine lv_aload_n F.1 F.2.1 dX7_isFit_0 rfl (lv_at hl 0 rfl) ?_
  refine rr_bipush F dX7_isFit_1 (by decide) ?_
  refine rr_bipush F dX7_isFit_3 (by decide) ?_
  refine lv_iload_n F.1 F.2.1 dX7_isFit_5 rfl (lv_at hl 1 rfl) ?_
  refine rr_imul F (z := 7 * w) dX7_isFit_6 (by first | rfl | omega) ?_
  refine rr_iadd F (z := 26 + (7 * w)) dX7_isFit_7 (by first | rfl | omega) ?_
  refine rr_iald F hK hP 0 rfl (by omega) (by omega) (by decide) dX7_isFit_8 ?_
  refine lv_aload_n F.1 F.2.1 dX7_isFit_9 rfl (lv_at hl 0 rfl) ?_
  refine lv_iload_n F.1 F.2.1 dX7_isFit_10 rfl (lv_at hl 2 rfl) ?_
  refine lv_iload_n F.1 F.2.1 dX7_isFit_11 rfl (lv_at hl 3 rfl) ?_
  refine rr_rdS (rest := [vI (a (26 + (7 * w)))]) F hK (c_X7_longOf l D cy ro a dv d (by first | assumption | omega | exact ⟨by omega, by omega⟩) (by first | assumption | omega | exact ⟨by omega, by omega⟩) (by first | assumption | omega | exact ⟨by omega, by omega⟩) (by first | assumption | omega | exact ⟨by omega, by omega⟩)) hP sf_X7_longOf tw1014 ⟨Nat.le_of_ble_eq_true rfl, Nat.le_of_ble_eq_true rfl⟩ hl rfl (Nat.le_of_ble_eq_true rfl) dX7_isFit_12 ⟨Nat.zero_le _, Nat.zero_le _⟩ ?_
  have q_12_0 := (seg_rng (n := a 0) (by omega) (rq a) dv d)
  refine rr_icmp_ne F (tgt := 38) dX7_isFit_15 (by decide) ⟨by omega, by omega⟩ ⟨by omega, by omega⟩ (fun c_15 => ?_) (fun c_15 => ?_)
  · refine rr_iconst F dX7_isFit_38 ?_
    exact rr_zret F hr hlocks (b := false) dX7_isFit_39 rfl (b2i_f (fun h => by first | exact c_15 h.1 | exact c_31 h.2))
  · refine lv_aload_n F.1 F.2.1 dX7_isFit_18 rfl (lv_at hl 0 rfl) ?_
    refine lv_iload_n F.1 F.2.1 dX7_isFit_19 rfl (lv_at hl 1 rfl) ?_
    refine lv_aload_n F.1 F.2.1 dX7_isFit_20 rfl (lv_at hl 0 rfl) ?_
    refine lv_iload_n F.1 F.2.1 dX7_isFit_21 rfl (lv_at hl 2 rfl) ?_
    refine lv_iload_n F.1 F.2.1 dX7_isFit_22 rfl (lv_at hl 3 rfl) ?_
    refine rr_iconst F dX7_isFit_23 ?_
    refine rr_rdS (rest := [vI w, .ref ro]) F hK (c_X7_off l D cy ro a dv d 1 (by first | assumption | omega | exact ⟨by omega, by omega⟩) (by first | assumption | omega | exact ⟨by omega, by omega⟩) (by first | assumption | omega | exact ⟨by omega, by omega⟩) (by first | assumption | omega | exact ⟨by omega, by omega⟩)) hP sf_X7_off tw962 ⟨Nat.le_of_ble_eq_true rfl, Nat.le_of_ble_eq_true rfl⟩ hl rfl (Nat.le_of_ble_eq_true rfl) dX7_isFit_24 ⟨Nat.zero_le _, Nat.zero_le _⟩ ?_
    have q_24_0 := (off_rng (n := a 0) (by omega) dv d 1)
    refine lv_iload_n F.1 F.2.1 dX7_isFit_27 rfl (lv_at hl 3 rfl) ?_
    refine rr_rdS (rest := []) F hK (c_X7_stands l D cy ro a w (off (a 0) dv d 1) d (by first | assumption | omega | exact ⟨by omega, by omega⟩) (by first | assumption | omega | exact ⟨by omega, by omega⟩) (by first | assumption | omega | exact ⟨by omega, by omega⟩) (by first | assumption | omega | exact ⟨by omega, by omega⟩)) hP sf_X7_stands tw1026 ⟨Nat.le_of_ble_eq_true rfl, Nat.le_of_ble_eq_true rfl⟩ hl rfl (Nat.le_of_ble_eq_true rfl) dX7_isFit_28 ⟨Nat.zero_le _, Nat.zero_le _⟩ ?_
    refine rr_ifP_eq F (tgt := 38) dX7_isFit_31 (by decide) (fun c_31 => ?_) (fun c_31 => ?_)
    · refine rr_iconst F dX7_isFit_38 ?_
      exact rr_zret F hr hlocks (b := false) dX7_isFit_39 rfl (b2i_f (fun h => by first | exact c_15 h.1 | exact c_31 h.2))
    · refine rr_iconst F dX7_isFit_34 ?_
      refine lv_goto (tgt := 39) F.1 F.2.1 dX7_isFit_35 (by decide) ?_
      exact rr_zret F hr hlocks (b := true) dX7_isFit_39 rfl (b2i_t ⟨c_15, c_31⟩)
set_option maxRecDepth 100000 in
set_option maxHeartbeats 4000000 in
theorem c_X7_fits (l : Launch) (D : va_G) (cy : Nat → ClassId) (ro : Nat) (a : Int → Int) (dv d : Int) (hM : MR a) (hp : 0 ≤ dv ∧ dv < a 0) (hd : 0 ≤ d ∧ d ≤ 1) (hq : a (1 + dv) = 0) : Rd l yX7_fits cX7_fits 5 (some FieldType.int) 3 [.ref ro, vI dv, vI d] D cy [(ro, .inl (cy 1, 118, .inl (iA a)))] (fc (a 0) (rq a) (a 25) (rbl a) (rbc a) dv d) := by
  refine Rd.of RX7 rfl [(0, .ref ro), (1, vI dv), (2, vI d)] rfl (by decide +kernel) (Nat.le_of_ble_eq_true rfl) ?_
  intro p e s m args below meth c F hr hlocks hK hP ls hl
  have hn0 := hM.n
  have hw0 := hM.nw
  have hc0 := hM.wc
  refine rr_iconst F dX7_fits_0 ?_
  refine lv_istore_n (lv' := [(3, vI 0), (0, .ref ro), (1, vI dv), (2, vI d)]) F.1 F.2.1 dX7_fits_1 rfl hl (by decide) rfl (fun ls hl => ?_)
  refine rr_iconst F dX7_fits_2 ?_
  refine lv_istore (lv' := [(4, vI 0), (3, vI 0), (0, .ref ro), (1, vI dv), (2, vI d)]) F.1 F.2.1 dX7_fits_3 hl (by decide) rfl (fun ls hl => ?_)
  refine rr_loop1 (fun k => (0 ≤ k) ∧ (k ≤ a 25)) (fun k => (11 - k).toNat) (fun k => [(4, vI k), (3, vI (cnt (fun w => ft (a 0) (rq a) (rbl a w) (rbc a w) dv d) k)), (0, .ref ro), (1, vI dv), (2, vI d)]) ?_ 0 ⟨by omega, by omega⟩ (lv_sub hl [0, 1, 2, 3, 4] rfl)
  intro k hI ih_5 ls hl
  obtain ⟨k0, k1⟩ := hI
  have hl : lv_has ls 5 [(4, vI k), (3, vI (cnt (fun w => ft (a 0) (rq a) (rbl a w) (rbc a w) dv d) k)), (0, .ref ro), (1, vI dv), (2, vI d)] := hl
  have cr := cnt_rng (fun w => ft (a 0) (rq a) (rbl a w) (rbc a w) dv d) k0
  refine lv_iload F.1 F.2.1 dX7_fits_5 (lv_at hl 0 rfl) ?_
  refine lv_aload_n F.1 F.2.1 dX7_fits_7 rfl (lv_at hl 2 rfl) ?_
  refine rr_bipush F dX7_fits_8 (by decide) ?_
  refine rr_iald F hK hP 0 rfl (by omega) (by omega) (by decide) dX7_fits_10 ?_
  refine rr_icmp_ge F (tgt := 39) dX7_fits_11 (by decide) ⟨by omega, by omega⟩ ⟨by omega, by omega⟩ (fun c_11 => ?_) (fun c_11 => ?_)
  · refine lv_iload_n F.1 F.2.1 dX7_fits_39 rfl (lv_at hl 1 rfl) ?_
    exact rr_iret F hr hlocks dX7_fits_40 (by rw [show k = a 25 by omega]; rfl)
  · refine lv_iload_n F.1 F.2.1 dX7_fits_14 rfl (lv_at hl 1 rfl) ?_
    refine lv_aload_n F.1 F.2.1 dX7_fits_15 rfl (lv_at hl 2 rfl) ?_
    refine lv_iload F.1 F.2.1 dX7_fits_16 (lv_at hl 0 rfl) ?_
    refine lv_iload_n F.1 F.2.1 dX7_fits_18 rfl (lv_at hl 3 rfl) ?_
    refine lv_iload_n F.1 F.2.1 dX7_fits_19 rfl (lv_at hl 4 rfl) ?_
    refine rr_rdS (rest := [vI (cnt (fun w => ft (a 0) (rq a) (rbl a w) (rbc a w) dv d) k)]) F hK (c_X7_isFit l D cy ro a k dv d (by first | assumption | omega | exact ⟨by omega, by omega⟩) (by first | assumption | omega | exact ⟨by omega, by omega⟩) (by first | assumption | omega | exact ⟨by omega, by omega⟩) (by first | assumption | omega | exact ⟨by omega, by omega⟩) (by first | assumption | omega | exact ⟨by omega, by omega⟩)) hP sf_X7_isFit tw1023 ⟨Nat.le_of_ble_eq_true rfl, Nat.le_of_ble_eq_true rfl⟩ hl rfl (Nat.le_of_ble_eq_true rfl) dX7_fits_20 ⟨Nat.zero_le _, Nat.zero_le _⟩ ?_
    refine rr_ifP_eq F (tgt := 30) dX7_fits_23 (by decide) (fun c_23 => ?_) (fun c_23 => ?_)
    · refine rr_iconst F dX7_fits_30 ?_
      refine rr_iadd F (z := cnt (fun w => ft (a 0) (rq a) (rbl a w) (rbc a w) dv d) (k + 1)) dX7_fits_31 (by first | exact cnt_y (P := fun w => ft (a 0) (rq a) (rbl a w) (rbc a w) dv d) k0 (by assumption) | (rw [Int.add_zero]; exact cnt_n (P := fun w => ft (a 0) (rq a) (rbl a w) (rbc a w) dv d) k0 (by assumption))) ?_
      refine lv_istore_n (lv' := [(3, vI (cnt (fun w => ft (a 0) (rq a) (rbl a w) (rbc a w) dv d) (k + 1))), (4, vI k), (0, .ref ro), (1, vI dv), (2, vI d)]) F.1 F.2.1 dX7_fits_32 rfl hl (by decide) rfl (fun ls hl => ?_)
      refine lv_iinc (v := iI (k + 1)) (lv' := [(4, vI (k + 1)), (3, vI (cnt (fun w => ft (a 0) (rq a) (rbl a w) (rbc a w) dv d) (k + 1))), (0, .ref ro), (1, vI dv), (2, vI d)]) F.1 F.2.1 dX7_fits_33 hl (k := 1) rfl (iinc_ok (by first | rfl | omega)) (by decide) rfl (fun ls hl => ?_)
      refine lv_goto (tgt := 5) F.1 F.2.1 dX7_fits_36 (by decide) ?_
      exact ih_5 (k + 1) ⟨by omega, by omega⟩ (show ((11 - (k + 1)).toNat) < ((11 - k).toNat) by omega) ls (lv_sub hl [0, 1, 2, 3, 4] rfl)
    · refine rr_iconst F dX7_fits_26 ?_
      refine lv_goto (tgt := 31) F.1 F.2.1 dX7_fits_27 (by decide) ?_
      refine rr_iadd F (z := cnt (fun w => ft (a 0) (rq a) (rbl a w) (rbc a w) dv d) (k + 1)) dX7_fits_31 (by first | exact cnt_y (P := fun w => ft (a 0) (rq a) (rbl a w) (rbc a w) dv d) k0 (by assumption) | (rw [Int.add_zero]; exact cnt_n (P := fun w => ft (a 0) (rq a) (rbl a w) (rbc a w) dv d) k0 (by assumption))) ?_
      refine lv_istore_n (lv' := [(3, vI (cnt (fun w => ft (a 0) (rq a) (rbl a w) (rbc a w) dv d) (k + 1))), (4, vI k), (0, .ref ro), (1, vI dv), (2, vI d)]) F.1 F.2.1 dX7_fits_32 rfl hl (by decide) rfl (fun ls hl => ?_)
      refine lv_iinc (v := iI (k + 1)) (lv' := [(4, vI (k + 1)), (3, vI (cnt (fun w => ft (a 0) (rq a) (rbl a w) (rbc a w) dv d) (k + 1))), (0, .ref ro), (1, vI dv), (2, vI d)]) F.1 F.2.1 dX7_fits_33 hl (k := 1) rfl (iinc_ok (by first | rfl | omega)) (by decide) rfl (fun ls hl => ?_)
      refine lv_goto (tgt := 5) F.1 F.2.1 dX7_fits_36 (by decide) ?_
      exact ih_5 (k + 1) ⟨by omega, by omega⟩ (show ((11 - (k + 1)).toNat) < ((11 - k).toNat) by omega) ls (lv_sub hl [0, 1, 2, 3, 4] rfl)
set_option maxRecDepth 100000 in
set_option maxHeartbeats 4000000 in
theorem c_X7_sense (l : Launch) (D : va_G) (cy : Nat → ClassId) (ro : Nat) (a : Int → Int) (d : Int) (hM : MR a) (hd : 0 ≤ d ∧ d ≤ 1) : Rd l yX7_sense cX7_sense 4 (some FieldType.int) 4 [.ref ro, vI d] D cy [(ro, .inl (cy 1, 118, .inl (iA a)))] (sns (a 0) (rq a) (a 25) (rbl a) (rbc a) d) := by
  refine Rd.of RX7 rfl [(0, .ref ro), (1, vI d)] rfl (by decide +kernel) (Nat.le_of_ble_eq_true rfl) ?_
  intro p e s m args below meth c F hr hlocks hK hP ls hl
  have hn0 := hM.n
  have hw0 := hM.nw
  have hc0 := hM.wc
  refine rr_iconst F dX7_sense_0 ?_
  refine lv_istore_n (lv' := [(2, vI 0), (0, .ref ro), (1, vI d)]) F.1 F.2.1 dX7_sense_1 rfl hl (by decide) rfl (fun ls hl => ?_)
  refine rr_iconst F dX7_sense_2 ?_
  refine lv_istore_n (lv' := [(3, vI 0), (2, vI 0), (0, .ref ro), (1, vI d)]) F.1 F.2.1 dX7_sense_3 rfl hl (by decide) rfl (fun ls hl => ?_)
  refine rr_loop1 (fun k => (0 ≤ k) ∧ (k ≤ a 0)) (fun k => (25 - k).toNat) (fun k => [(3, vI k), (2, vI (cnt (fun p => hf (a 0) (rq a) (a 25) (rbl a) (rbc a) p d) k)), (0, .ref ro), (1, vI d)]) ?_ 0 ⟨by omega, by omega⟩ (lv_sub hl [0, 1, 2, 3] rfl)
  intro k hI ih_4 ls hl
  obtain ⟨k0, k1⟩ := hI
  have hl : lv_has ls 4 [(3, vI k), (2, vI (cnt (fun p => hf (a 0) (rq a) (a 25) (rbl a) (rbc a) p d) k)), (0, .ref ro), (1, vI d)] := hl
  have cr := cnt_rng (fun p => hf (a 0) (rq a) (a 25) (rbl a) (rbc a) p d) k0
  refine lv_iload_n F.1 F.2.1 dX7_sense_4 rfl (lv_at hl 0 rfl) ?_
  refine lv_aload_n F.1 F.2.1 dX7_sense_5 rfl (lv_at hl 2 rfl) ?_
  refine rr_iconst F dX7_sense_6 ?_
  refine rr_iald F hK hP 0 rfl (by omega) (by omega) (by decide) dX7_sense_7 ?_
  refine rr_icmp_ge F (tgt := 51) dX7_sense_8 (by decide) ⟨by omega, by omega⟩ ⟨by omega, by omega⟩ (fun c_8 => ?_) (fun c_8 => ?_)
  · refine lv_iload_n F.1 F.2.1 dX7_sense_51 rfl (lv_at hl 1 rfl) ?_
    exact rr_iret F hr hlocks dX7_sense_52 (by rw [show k = a 0 by omega]; rfl)
  · refine lv_iload_n F.1 F.2.1 dX7_sense_11 rfl (lv_at hl 1 rfl) ?_
    refine lv_aload_n F.1 F.2.1 dX7_sense_12 rfl (lv_at hl 2 rfl) ?_
    refine lv_iload_n F.1 F.2.1 dX7_sense_13 rfl (lv_at hl 0 rfl) ?_
    have qq := hM.q k0 c_8
    refine rr_rdS (rest := [vI (cnt (fun p => hf (a 0) (rq a) (a 25) (rbl a) (rbc a) p d) k)]) F hK (c_X7_isDivider l D cy ro a k (by first | assumption | omega | exact ⟨by omega, by omega⟩) (by first | assumption | omega | exact ⟨by omega, by omega⟩)) hP sf_X7_isDivider tw948 ⟨Nat.le_of_ble_eq_true rfl, Nat.le_of_ble_eq_true rfl⟩ hl rfl (Nat.le_of_ble_eq_true rfl) dX7_sense_14 ⟨Nat.zero_le _, Nat.zero_le _⟩ ?_
    refine rr_ifP_eq F (tgt := 42) dX7_sense_17 (by decide) (fun c_17 => ?_) (fun c_17 => ?_)
    · refine rr_iconst F dX7_sense_42 ?_
      refine rr_iadd F (z := cnt (fun p => hf (a 0) (rq a) (a 25) (rbl a) (rbc a) p d) (k + 1)) dX7_sense_43 (by first | exact cnt_y (P := fun p => hf (a 0) (rq a) (a 25) (rbl a) (rbc a) p d) k0 (hf_y (by omega) (by assumption)) | (rw [Int.add_zero]; exact cnt_n (P := fun p => hf (a 0) (rq a) (a 25) (rbl a) (rbc a) p d) k0 (hf_n1 hM c_17)) | (rw [Int.add_zero]; exact cnt_n (P := fun p => hf (a 0) (rq a) (a 25) (rbl a) (rbc a) p d) k0 (hf_n2 hM (by assumption))) | (rw [Int.add_zero]; exact cnt_n (P := fun p => hf (a 0) (rq a) (a 25) (rbl a) (rbc a) p d) k0 (hf_n3 (by omega) (by assumption)))) ?_
      refine lv_istore_n (lv' := [(2, vI (cnt (fun p => hf (a 0) (rq a) (a 25) (rbl a) (rbc a) p d) (k + 1))), (3, vI k), (0, .ref ro), (1, vI d)]) F.1 F.2.1 dX7_sense_44 rfl hl (by decide) rfl (fun ls hl => ?_)
      refine lv_iinc (v := iI (k + 1)) (lv' := [(3, vI (k + 1)), (2, vI (cnt (fun p => hf (a 0) (rq a) (a 25) (rbl a) (rbc a) p d) (k + 1))), (0, .ref ro), (1, vI d)]) F.1 F.2.1 dX7_sense_45 hl (k := 1) rfl (iinc_ok (by first | rfl | omega)) (by decide) rfl (fun ls hl => ?_)
      refine lv_goto (tgt := 4) F.1 F.2.1 dX7_sense_48 (by decide) ?_
      exact ih_4 (k + 1) ⟨by omega, by omega⟩ (show ((25 - (k + 1)).toNat) < ((25 - k).toNat) by omega) ls (lv_sub hl [0, 1, 2, 3] rfl)
    · refine lv_aload_n F.1 F.2.1 dX7_sense_20 rfl (lv_at hl 2 rfl) ?_
      refine lv_iload_n F.1 F.2.1 dX7_sense_21 rfl (lv_at hl 0 rfl) ?_
      refine lv_iload_n F.1 F.2.1 dX7_sense_22 rfl (lv_at hl 3 rfl) ?_
      refine rr_rdS (rest := [vI (cnt (fun p => hf (a 0) (rq a) (a 25) (rbl a) (rbc a) p d) k)]) F hK (c_X7_longOf l D cy ro a k d (by first | assumption | omega | exact ⟨by omega, by omega⟩) (by first | assumption | omega | exact ⟨by omega, by omega⟩) (by first | assumption | omega | exact ⟨by omega, by omega⟩) (by first | assumption | omega | exact ⟨by omega, by omega⟩)) hP sf_X7_longOf tw1014 ⟨Nat.le_of_ble_eq_true rfl, Nat.le_of_ble_eq_true rfl⟩ hl rfl (Nat.le_of_ble_eq_true rfl) dX7_sense_23 ⟨Nat.zero_le _, Nat.zero_le _⟩ ?_
      have q_23_0 := (seg_rng (n := a 0) (by omega) (rq a) k d)
      refine rr_if_le F (tgt := 42) dX7_sense_26 (by decide) ⟨by omega, by omega⟩ (fun c_26 => ?_) (fun c_26 => ?_)
      · refine rr_iconst F dX7_sense_42 ?_
        refine rr_iadd F (z := cnt (fun p => hf (a 0) (rq a) (a 25) (rbl a) (rbc a) p d) (k + 1)) dX7_sense_43 (by first | exact cnt_y (P := fun p => hf (a 0) (rq a) (a 25) (rbl a) (rbc a) p d) k0 (hf_y (by omega) (by assumption)) | (rw [Int.add_zero]; exact cnt_n (P := fun p => hf (a 0) (rq a) (a 25) (rbl a) (rbc a) p d) k0 (hf_n1 hM c_17)) | (rw [Int.add_zero]; exact cnt_n (P := fun p => hf (a 0) (rq a) (a 25) (rbl a) (rbc a) p d) k0 (hf_n2 hM (by assumption))) | (rw [Int.add_zero]; exact cnt_n (P := fun p => hf (a 0) (rq a) (a 25) (rbl a) (rbc a) p d) k0 (hf_n3 (by omega) (by assumption)))) ?_
        refine lv_istore_n (lv' := [(2, vI (cnt (fun p => hf (a 0) (rq a) (a 25) (rbl a) (rbc a) p d) (k + 1))), (3, vI k), (0, .ref ro), (1, vI d)]) F.1 F.2.1 dX7_sense_44 rfl hl (by decide) rfl (fun ls hl => ?_)
        refine lv_iinc (v := iI (k + 1)) (lv' := [(3, vI (k + 1)), (2, vI (cnt (fun p => hf (a 0) (rq a) (a 25) (rbl a) (rbc a) p d) (k + 1))), (0, .ref ro), (1, vI d)]) F.1 F.2.1 dX7_sense_45 hl (k := 1) rfl (iinc_ok (by first | rfl | omega)) (by decide) rfl (fun ls hl => ?_)
        refine lv_goto (tgt := 4) F.1 F.2.1 dX7_sense_48 (by decide) ?_
        exact ih_4 (k + 1) ⟨by omega, by omega⟩ (show ((25 - (k + 1)).toNat) < ((25 - k).toNat) by omega) ls (lv_sub hl [0, 1, 2, 3] rfl)
      · refine lv_aload_n F.1 F.2.1 dX7_sense_29 rfl (lv_at hl 2 rfl) ?_
        refine lv_iload_n F.1 F.2.1 dX7_sense_30 rfl (lv_at hl 0 rfl) ?_
        refine lv_iload_n F.1 F.2.1 dX7_sense_31 rfl (lv_at hl 3 rfl) ?_
        refine rr_rdS (rest := [vI (cnt (fun p => hf (a 0) (rq a) (a 25) (rbl a) (rbc a) p d) k)]) F hK (c_X7_fits l D cy ro a k d (by first | assumption | omega | exact ⟨by omega, by omega⟩) (by first | assumption | omega | exact ⟨by omega, by omega⟩) (by first | assumption | omega | exact ⟨by omega, by omega⟩) (by first | assumption | omega | exact ⟨by omega, by omega⟩)) hP sf_X7_fits tw1020 ⟨Nat.le_of_ble_eq_true rfl, Nat.le_of_ble_eq_true rfl⟩ hl rfl (Nat.le_of_ble_eq_true rfl) dX7_sense_32 ⟨Nat.zero_le _, Nat.zero_le _⟩ ?_
        have q_32_0 := (show 0 ≤ fc (a 0) (rq a) (a 25) (rbl a) (rbc a) k d ∧ fc (a 0) (rq a) (a 25) (rbl a) (rbc a) k d ≤ a 25 from cnt_rng _ (by omega))
        refine rr_if_le F (tgt := 42) dX7_sense_35 (by decide) ⟨by omega, by omega⟩ (fun c_35 => ?_) (fun c_35 => ?_)
        · refine rr_iconst F dX7_sense_42 ?_
          refine rr_iadd F (z := cnt (fun p => hf (a 0) (rq a) (a 25) (rbl a) (rbc a) p d) (k + 1)) dX7_sense_43 (by first | exact cnt_y (P := fun p => hf (a 0) (rq a) (a 25) (rbl a) (rbc a) p d) k0 (hf_y (by omega) (by assumption)) | (rw [Int.add_zero]; exact cnt_n (P := fun p => hf (a 0) (rq a) (a 25) (rbl a) (rbc a) p d) k0 (hf_n1 hM c_17)) | (rw [Int.add_zero]; exact cnt_n (P := fun p => hf (a 0) (rq a) (a 25) (rbl a) (rbc a) p d) k0 (hf_n2 hM (by assumption))) | (rw [Int.add_zero]; exact cnt_n (P := fun p => hf (a 0) (rq a) (a 25) (rbl a) (rbc a) p d) k0 (hf_n3 (by omega) (by assumption)))) ?_
          refine lv_istore_n (lv' := [(2, vI (cnt (fun p => hf (a 0) (rq a) (a 25) (rbl a) (rbc a) p d) (k + 1))), (3, vI k), (0, .ref ro), (1, vI d)]) F.1 F.2.1 dX7_sense_44 rfl hl (by decide) rfl (fun ls hl => ?_)
          refine lv_iinc (v := iI (k + 1)) (lv' := [(3, vI (k + 1)), (2, vI (cnt (fun p => hf (a 0) (rq a) (a 25) (rbl a) (rbc a) p d) (k + 1))), (0, .ref ro), (1, vI d)]) F.1 F.2.1 dX7_sense_45 hl (k := 1) rfl (iinc_ok (by first | rfl | omega)) (by decide) rfl (fun ls hl => ?_)
          refine lv_goto (tgt := 4) F.1 F.2.1 dX7_sense_48 (by decide) ?_
          exact ih_4 (k + 1) ⟨by omega, by omega⟩ (show ((25 - (k + 1)).toNat) < ((25 - k).toNat) by omega) ls (lv_sub hl [0, 1, 2, 3] rfl)
        · refine rr_iconst F dX7_sense_38 ?_
          refine lv_goto (tgt := 43) F.1 F.2.1 dX7_sense_39 (by decide) ?_
          refine rr_iadd F (z := cnt (fun p => hf (a 0) (rq a) (a 25) (rbl a) (rbc a) p d) (k + 1)) dX7_sense_43 (by first | exact cnt_y (P := fun p => hf (a 0) (rq a) (a 25) (rbl a) (rbc a) p d) k0 (hf_y (by omega) (by assumption)) | (rw [Int.add_zero]; exact cnt_n (P := fun p => hf (a 0) (rq a) (a 25) (rbl a) (rbc a) p d) k0 (hf_n1 hM c_17)) | (rw [Int.add_zero]; exact cnt_n (P := fun p => hf (a 0) (rq a) (a 25) (rbl a) (rbc a) p d) k0 (hf_n2 hM (by assumption))) | (rw [Int.add_zero]; exact cnt_n (P := fun p => hf (a 0) (rq a) (a 25) (rbl a) (rbc a) p d) k0 (hf_n3 (by omega) (by assumption)))) ?_
          refine lv_istore_n (lv' := [(2, vI (cnt (fun p => hf (a 0) (rq a) (a 25) (rbl a) (rbc a) p d) (k + 1))), (3, vI k), (0, .ref ro), (1, vI d)]) F.1 F.2.1 dX7_sense_44 rfl hl (by decide) rfl (fun ls hl => ?_)
          refine lv_iinc (v := iI (k + 1)) (lv' := [(3, vI (k + 1)), (2, vI (cnt (fun p => hf (a 0) (rq a) (a 25) (rbl a) (rbc a) p d) (k + 1))), (0, .ref ro), (1, vI d)]) F.1 F.2.1 dX7_sense_45 hl (k := 1) rfl (iinc_ok (by first | rfl | omega)) (by decide) rfl (fun ls hl => ?_)
          refine lv_goto (tgt := 4) F.1 F.2.1 dX7_sense_48 (by decide) ?_
          exact ih_4 (k + 1) ⟨by omega, by omega⟩ (show ((25 - (k + 1)).toNat) < ((25 - k).toNat) by omega) ls (lv_sub hl [0, 1, 2, 3] rfl)
set_option maxRecDepth 100000 in
set_option maxHeartbeats 4000000 in
theorem c_X7_readings (l : Launch) (D : va_G) (cy : Nat → ClassId) (ro : Nat) (a : Int → Int) (d : Int) (hM : MR a) (hd : 0 ≤ d ∧ d ≤ 1) : Rd l yX7_readings cX7_readings 5 (some FieldType.int) 4 [.ref ro, vI d] D cy [(ro, .inl (cy 1, 118, .inl (iA a)))] (rdg (a 0) (rq a) (a 25) (rbl a) (rbc a) d) := by
  refine Rd.of RX7 rfl [(0, .ref ro), (1, vI d)] rfl (by decide +kernel) (Nat.le_of_ble_eq_true rfl) ?_
  intro p e s m args below meth c F hr hlocks hK hP ls hl
  have hn0 := hM.n
  have hw0 := hM.nw
  have hc0 := hM.wc
  refine rr_iconst F dX7_readings_0 ?_
  refine lv_istore_n (lv' := [(2, vI 1), (0, .ref ro), (1, vI d)]) F.1 F.2.1 dX7_readings_1 rfl hl (by decide) rfl (fun ls hl => ?_)
  refine rr_iconst F dX7_readings_2 ?_
  refine lv_istore_n (lv' := [(3, vI 0), (2, vI 1), (0, .ref ro), (1, vI d)]) F.1 F.2.1 dX7_readings_3 rfl hl (by decide) rfl (fun ls hl => ?_)
  refine rr_iconst F dX7_readings_4 ?_
  refine lv_istore (lv' := [(4, vI 0), (3, vI 0), (2, vI 1), (0, .ref ro), (1, vI d)]) F.1 F.2.1 dX7_readings_5 hl (by decide) rfl (fun ls hl => ?_)
  refine rr_loop1 (fun k => (0 ≤ k) ∧ (k ≤ a 0)) (fun k => (25 - k).toNat) (fun k => [(4, vI k), (3, vI (cnt (fun p => 0 < seg (a 0) (rq a) p d) k)), (2, vI (cap (prd (fun p => 0 < seg (a 0) (rq a) p d) (fun p => fc (a 0) (rq a) (a 25) (rbl a) (rbc a) p d) k))), (0, .ref ro), (1, vI d)]) ?_ 0 ⟨by omega, by omega⟩ (lv_cv (lv_sub hl [0, 1, 2, 3, 4] rfl) (by rw [← show (1 : Int) = cap (prd (fun u_p => 0 < seg (a 0) (rq a) u_p d) (fun u_p => fc (a 0) (rq a) (a 25) (rbl a) (rbc a) u_p d) 0) from by rfl]; rfl))
  intro k hI ih_7 ls hl
  obtain ⟨k0, k1⟩ := hI
  have hl : lv_has ls 5 [(4, vI k), (3, vI (cnt (fun p => 0 < seg (a 0) (rq a) p d) k)), (2, vI (cap (prd (fun p => 0 < seg (a 0) (rq a) p d) (fun p => fc (a 0) (rq a) (a 25) (rbl a) (rbc a) p d) k))), (0, .ref ro), (1, vI d)] := hl
  have pf := prd_fit (q := rq a) (bl := rbl a) (bc := rbc a) (d := d) hn0 hw0 k0 k1
  have cr := cnt_rng (fun p => 0 < seg (a 0) (rq a) p d) k0
  have cp := cap_rng pf.1
  refine lv_iload F.1 F.2.1 dX7_readings_7 (lv_at hl 0 rfl) ?_
  refine lv_aload_n F.1 F.2.1 dX7_readings_9 rfl (lv_at hl 3 rfl) ?_
  refine rr_iconst F dX7_readings_10 ?_
  refine rr_iald F hK hP 0 rfl (by omega) (by omega) (by decide) dX7_readings_11 ?_
  refine rr_icmp_ge F (tgt := 66) dX7_readings_12 (by decide) ⟨by omega, by omega⟩ ⟨by omega, by omega⟩ (fun c_12 => ?_) (fun c_12 => ?_)
  · refine lv_iload_n F.1 F.2.1 dX7_readings_66 rfl (lv_at hl 1 rfl) ?_
    refine rr_if_ne F (tgt := 74) dX7_readings_67 (by decide) ⟨by omega, by omega⟩ (fun c_67 => ?_) (fun c_67 => ?_)
    · refine lv_iload_n F.1 F.2.1 dX7_readings_74 rfl (lv_at hl 2 rfl) ?_
      exact rr_iret F hr hlocks dX7_readings_75 (by first | exact rdg_a (k := k) (by omega) (by assumption) | exact rdg_c (k := k) (by omega) (by assumption))
    · refine rr_iconst F dX7_readings_70 ?_
      refine lv_goto (tgt := 75) F.1 F.2.1 dX7_readings_71 (by decide) ?_
      exact rr_iret F hr hlocks dX7_readings_75 (by first | exact rdg_a (k := k) (by omega) (by assumption) | exact rdg_c (k := k) (by omega) (by assumption))
  · refine lv_aload_n F.1 F.2.1 dX7_readings_15 rfl (lv_at hl 3 rfl) ?_
    refine lv_iload F.1 F.2.1 dX7_readings_16 (lv_at hl 0 rfl) ?_
    have qq := hM.q k0 c_12
    refine rr_rdS (rest := []) F hK (c_X7_isDivider l D cy ro a k (by first | assumption | omega | exact ⟨by omega, by omega⟩) (by first | assumption | omega | exact ⟨by omega, by omega⟩)) hP sf_X7_isDivider tw948 ⟨Nat.le_of_ble_eq_true rfl, Nat.le_of_ble_eq_true rfl⟩ hl rfl (Nat.le_of_ble_eq_true rfl) dX7_readings_18 ⟨Nat.zero_le _, Nat.zero_le _⟩ ?_
    refine rr_ifP_eq F (tgt := 60) dX7_readings_21 (by decide) (fun c_21 => ?_) (fun c_21 => ?_)
    · refine lv_iinc (v := iI (k + 1)) (lv' := [(4, vI (k + 1)), (3, vI (cnt (fun p => 0 < seg (a 0) (rq a) p d) k)), (2, vI (cap (prd (fun p => 0 < seg (a 0) (rq a) p d) (fun p => fc (a 0) (rq a) (a 25) (rbl a) (rbc a) p d) k))), (0, .ref ro), (1, vI d)]) F.1 F.2.1 dX7_readings_60 hl (k := 0) rfl (iinc_ok (by first | rfl | omega)) (by decide) rfl (fun ls hl => ?_)
      refine lv_goto (tgt := 7) F.1 F.2.1 dX7_readings_63 (by decide) ?_
      exact ih_7 (k + 1) ⟨by omega, by omega⟩ (show ((25 - (k + 1)).toNat) < ((25 - k).toNat) by omega) ls (lv_cv (lv_sub hl [0, 1, 2, 3, 4] rfl) (by rw [← show (cnt (fun p => 0 < seg (a 0) (rq a) p d) k : Int) = cnt (fun u_p => 0 < seg (a 0) (rq a) u_p d) (k + 1) from by first | exact cnt_n (P := fun p => 0 < seg (a 0) (rq a) p d) k0 (fun h => c_21 (rseg_div h)) | exact cnt_n (P := fun p => 0 < seg (a 0) (rq a) p d) k0 (show ¬ 0 < seg (a 0) (rq a) k d by omega) | exact cnt_y (P := fun p => 0 < seg (a 0) (rq a) p d) k0 (by assumption), ← show (cap (prd (fun p => 0 < seg (a 0) (rq a) p d) (fun p => fc (a 0) (rq a) (a 25) (rbl a) (rbc a) p d) k) : Int) = cap (prd (fun u_p => 0 < seg (a 0) (rq a) u_p d) (fun u_p => fc (a 0) (rq a) (a 25) (rbl a) (rbc a) u_p d) (k + 1)) from by first | exact congrArg cap (prd_n (G := fun p => 0 < seg (a 0) (rq a) p d) (f := fun p => fc (a 0) (rq a) (a 25) (rbl a) (rbc a) p d) k0 (fun h => c_21 (rseg_div h))) | exact congrArg cap (prd_n (G := fun p => 0 < seg (a 0) (rq a) p d) (f := fun p => fc (a 0) (rq a) (a 25) (rbl a) (rbc a) p d) k0 (show ¬ 0 < seg (a 0) (rq a) k d by omega)) | exact (cap_hi pf.1 q_39_0.1 c_47).trans (congrArg cap (prd_y (G := fun p => 0 < seg (a 0) (rq a) p d) (f := fun p => fc (a 0) (rq a) (a 25) (rbl a) (rbc a) p d) k0 (by assumption))) | exact (cap_lo pf.1 q_39_0.1 c_47).trans (congrArg cap (prd_y (G := fun p => 0 < seg (a 0) (rq a) p d) (f := fun p => fc (a 0) (rq a) (a 25) (rbl a) (rbc a) p d) k0 (by assumption)))]; rfl))
    · refine lv_aload_n F.1 F.2.1 dX7_readings_24 rfl (lv_at hl 3 rfl) ?_
      refine lv_iload F.1 F.2.1 dX7_readings_25 (lv_at hl 0 rfl) ?_
      refine lv_iload_n F.1 F.2.1 dX7_readings_27 rfl (lv_at hl 4 rfl) ?_
      refine rr_rdS (rest := []) F hK (c_X7_longOf l D cy ro a k d (by first | assumption | omega | exact ⟨by omega, by omega⟩) (by first | assumption | omega | exact ⟨by omega, by omega⟩) (by first | assumption | omega | exact ⟨by omega, by omega⟩) (by first | assumption | omega | exact ⟨by omega, by omega⟩)) hP sf_X7_longOf tw1014 ⟨Nat.le_of_ble_eq_true rfl, Nat.le_of_ble_eq_true rfl⟩ hl rfl (Nat.le_of_ble_eq_true rfl) dX7_readings_28 ⟨Nat.zero_le _, Nat.zero_le _⟩ ?_
      have q_28_0 := (seg_rng (n := a 0) (by omega) (rq a) k d)
      refine rr_if_le F (tgt := 60) dX7_readings_31 (by decide) ⟨by omega, by omega⟩ (fun c_31 => ?_) (fun c_31 => ?_)
      · refine lv_iinc (v := iI (k + 1)) (lv' := [(4, vI (k + 1)), (3, vI (cnt (fun p => 0 < seg (a 0) (rq a) p d) k)), (2, vI (cap (prd (fun p => 0 < seg (a 0) (rq a) p d) (fun p => fc (a 0) (rq a) (a 25) (rbl a) (rbc a) p d) k))), (0, .ref ro), (1, vI d)]) F.1 F.2.1 dX7_readings_60 hl (k := 0) rfl (iinc_ok (by first | rfl | omega)) (by decide) rfl (fun ls hl => ?_)
        refine lv_goto (tgt := 7) F.1 F.2.1 dX7_readings_63 (by decide) ?_
        exact ih_7 (k + 1) ⟨by omega, by omega⟩ (show ((25 - (k + 1)).toNat) < ((25 - k).toNat) by omega) ls (lv_cv (lv_sub hl [0, 1, 2, 3, 4] rfl) (by rw [← show (cnt (fun p => 0 < seg (a 0) (rq a) p d) k : Int) = cnt (fun u_p => 0 < seg (a 0) (rq a) u_p d) (k + 1) from by first | exact cnt_n (P := fun p => 0 < seg (a 0) (rq a) p d) k0 (fun h => c_21 (rseg_div h)) | exact cnt_n (P := fun p => 0 < seg (a 0) (rq a) p d) k0 (show ¬ 0 < seg (a 0) (rq a) k d by omega) | exact cnt_y (P := fun p => 0 < seg (a 0) (rq a) p d) k0 (by assumption), ← show (cap (prd (fun p => 0 < seg (a 0) (rq a) p d) (fun p => fc (a 0) (rq a) (a 25) (rbl a) (rbc a) p d) k) : Int) = cap (prd (fun u_p => 0 < seg (a 0) (rq a) u_p d) (fun u_p => fc (a 0) (rq a) (a 25) (rbl a) (rbc a) u_p d) (k + 1)) from by first | exact congrArg cap (prd_n (G := fun p => 0 < seg (a 0) (rq a) p d) (f := fun p => fc (a 0) (rq a) (a 25) (rbl a) (rbc a) p d) k0 (fun h => c_21 (rseg_div h))) | exact congrArg cap (prd_n (G := fun p => 0 < seg (a 0) (rq a) p d) (f := fun p => fc (a 0) (rq a) (a 25) (rbl a) (rbc a) p d) k0 (show ¬ 0 < seg (a 0) (rq a) k d by omega)) | exact (cap_hi pf.1 q_39_0.1 c_47).trans (congrArg cap (prd_y (G := fun p => 0 < seg (a 0) (rq a) p d) (f := fun p => fc (a 0) (rq a) (a 25) (rbl a) (rbc a) p d) k0 (by assumption))) | exact (cap_lo pf.1 q_39_0.1 c_47).trans (congrArg cap (prd_y (G := fun p => 0 < seg (a 0) (rq a) p d) (f := fun p => fc (a 0) (rq a) (a 25) (rbl a) (rbc a) p d) k0 (by assumption)))]; rfl))
      · refine lv_iload_n F.1 F.2.1 dX7_readings_34 rfl (lv_at hl 2 rfl) ?_
        refine lv_aload_n F.1 F.2.1 dX7_readings_35 rfl (lv_at hl 3 rfl) ?_
        refine lv_iload F.1 F.2.1 dX7_readings_36 (lv_at hl 0 rfl) ?_
        refine lv_iload_n F.1 F.2.1 dX7_readings_38 rfl (lv_at hl 4 rfl) ?_
        refine rr_rdS (rest := [vI (cap (prd (fun p => 0 < seg (a 0) (rq a) p d) (fun p => fc (a 0) (rq a) (a 25) (rbl a) (rbc a) p d) k))]) F hK (c_X7_fits l D cy ro a k d (by first | assumption | omega | exact ⟨by omega, by omega⟩) (by first | assumption | omega | exact ⟨by omega, by omega⟩) (by first | assumption | omega | exact ⟨by omega, by omega⟩) (by first | assumption | omega | exact ⟨by omega, by omega⟩)) hP sf_X7_fits tw1020 ⟨Nat.le_of_ble_eq_true rfl, Nat.le_of_ble_eq_true rfl⟩ hl rfl (Nat.le_of_ble_eq_true rfl) dX7_readings_39 ⟨Nat.zero_le _, Nat.zero_le _⟩ ?_
        have q_39_0 := (show 0 ≤ fc (a 0) (rq a) (a 25) (rbl a) (rbc a) k d ∧ fc (a 0) (rq a) (a 25) (rbl a) (rbc a) k d ≤ a 25 from cnt_rng _ (by omega))
        refine rr_imul F (z := (cap (prd (fun p => 0 < seg (a 0) (rq a) p d) (fun p => fc (a 0) (rq a) (a 25) (rbl a) (rbc a) p d) k)) * (fc (a 0) (rq a) (a 25) (rbl a) (rbc a) k d)) dX7_readings_42 (by first | rfl | omega) ?_
        refine lv_istore_n (lv' := [(2, vI ((cap (prd (fun p => 0 < seg (a 0) (rq a) p d) (fun p => fc (a 0) (rq a) (a 25) (rbl a) (rbc a) p d) k)) * (fc (a 0) (rq a) (a 25) (rbl a) (rbc a) k d))), (4, vI k), (3, vI (cnt (fun p => 0 < seg (a 0) (rq a) p d) k)), (0, .ref ro), (1, vI d)]) F.1 F.2.1 dX7_readings_43 rfl hl (by decide) rfl (fun ls hl => ?_)
        refine lv_iload_n F.1 F.2.1 dX7_readings_44 rfl (lv_at hl 0 rfl) ?_
        refine rr_ldc F 1000000 rfl tw1032 dX7_readings_45 ?_
        have cf := capf_rng pf.1 (f := fc (a 0) (rq a) (a 25) (rbl a) (rbc a) k d) ⟨q_39_0.1, by omega⟩
        refine rr_icmp_le F (tgt := 55) dX7_readings_47 (by decide) ⟨by omega, by omega⟩ ⟨by omega, by omega⟩ (fun c_47 => ?_) (fun c_47 => ?_)
        · refine lv_iload_n F.1 F.2.1 dX7_readings_55 rfl (lv_at hl 0 rfl) ?_
          refine lv_istore_n (lv' := [(2, vI ((cap (prd (fun p => 0 < seg (a 0) (rq a) p d) (fun p => fc (a 0) (rq a) (a 25) (rbl a) (rbc a) p d) k)) * (fc (a 0) (rq a) (a 25) (rbl a) (rbc a) k d))), (4, vI k), (3, vI (cnt (fun p => 0 < seg (a 0) (rq a) p d) k)), (0, .ref ro), (1, vI d)]) F.1 F.2.1 dX7_readings_56 rfl hl (by decide) rfl (fun ls hl => ?_)
          refine lv_iinc (v := iI ((cnt (fun p => 0 < seg (a 0) (rq a) p d) k) + 1)) (lv' := [(3, vI ((cnt (fun p => 0 < seg (a 0) (rq a) p d) k) + 1)), (2, vI ((cap (prd (fun p => 0 < seg (a 0) (rq a) p d) (fun p => fc (a 0) (rq a) (a 25) (rbl a) (rbc a) p d) k)) * (fc (a 0) (rq a) (a 25) (rbl a) (rbc a) k d))), (4, vI k), (0, .ref ro), (1, vI d)]) F.1 F.2.1 dX7_readings_57 hl (k := 2) rfl (iinc_ok (by first | rfl | omega)) (by decide) rfl (fun ls hl => ?_)
          refine lv_iinc (v := iI (k + 1)) (lv' := [(4, vI (k + 1)), (3, vI ((cnt (fun p => 0 < seg (a 0) (rq a) p d) k) + 1)), (2, vI ((cap (prd (fun p => 0 < seg (a 0) (rq a) p d) (fun p => fc (a 0) (rq a) (a 25) (rbl a) (rbc a) p d) k)) * (fc (a 0) (rq a) (a 25) (rbl a) (rbc a) k d))), (0, .ref ro), (1, vI d)]) F.1 F.2.1 dX7_readings_60 hl (k := 2) rfl (iinc_ok (by first | rfl | omega)) (by decide) rfl (fun ls hl => ?_)
          refine lv_goto (tgt := 7) F.1 F.2.1 dX7_readings_63 (by decide) ?_
          exact ih_7 (k + 1) ⟨by omega, by omega⟩ (show ((25 - (k + 1)).toNat) < ((25 - k).toNat) by omega) ls (lv_cv (lv_sub hl [0, 1, 2, 3, 4] rfl) (by rw [← show ((cnt (fun p => 0 < seg (a 0) (rq a) p d) k) + 1 : Int) = cnt (fun u_p => 0 < seg (a 0) (rq a) u_p d) (k + 1) from by first | exact cnt_n (P := fun p => 0 < seg (a 0) (rq a) p d) k0 (fun h => c_21 (rseg_div h)) | exact cnt_n (P := fun p => 0 < seg (a 0) (rq a) p d) k0 (show ¬ 0 < seg (a 0) (rq a) k d by omega) | exact cnt_y (P := fun p => 0 < seg (a 0) (rq a) p d) k0 (by assumption), ← show ((cap (prd (fun p => 0 < seg (a 0) (rq a) p d) (fun p => fc (a 0) (rq a) (a 25) (rbl a) (rbc a) p d) k)) * (fc (a 0) (rq a) (a 25) (rbl a) (rbc a) k d) : Int) = cap (prd (fun u_p => 0 < seg (a 0) (rq a) u_p d) (fun u_p => fc (a 0) (rq a) (a 25) (rbl a) (rbc a) u_p d) (k + 1)) from by first | exact congrArg cap (prd_n (G := fun p => 0 < seg (a 0) (rq a) p d) (f := fun p => fc (a 0) (rq a) (a 25) (rbl a) (rbc a) p d) k0 (fun h => c_21 (rseg_div h))) | exact congrArg cap (prd_n (G := fun p => 0 < seg (a 0) (rq a) p d) (f := fun p => fc (a 0) (rq a) (a 25) (rbl a) (rbc a) p d) k0 (show ¬ 0 < seg (a 0) (rq a) k d by omega)) | exact (cap_hi pf.1 q_39_0.1 c_47).trans (congrArg cap (prd_y (G := fun p => 0 < seg (a 0) (rq a) p d) (f := fun p => fc (a 0) (rq a) (a 25) (rbl a) (rbc a) p d) k0 (by assumption))) | exact (cap_lo pf.1 q_39_0.1 c_47).trans (congrArg cap (prd_y (G := fun p => 0 < seg (a 0) (rq a) p d) (f := fun p => fc (a 0) (rq a) (a 25) (rbl a) (rbc a) p d) k0 (by assumption)))]; rfl))
        · refine rr_ldc F 1000000 rfl tw1032 dX7_readings_50 ?_
          refine lv_goto (tgt := 56) F.1 F.2.1 dX7_readings_52 (by decide) ?_
          refine lv_istore_n (lv' := [(2, vI 1000000), (4, vI k), (3, vI (cnt (fun p => 0 < seg (a 0) (rq a) p d) k)), (0, .ref ro), (1, vI d)]) F.1 F.2.1 dX7_readings_56 rfl hl (by decide) rfl (fun ls hl => ?_)
          refine lv_iinc (v := iI ((cnt (fun p => 0 < seg (a 0) (rq a) p d) k) + 1)) (lv' := [(3, vI ((cnt (fun p => 0 < seg (a 0) (rq a) p d) k) + 1)), (2, vI 1000000), (4, vI k), (0, .ref ro), (1, vI d)]) F.1 F.2.1 dX7_readings_57 hl (k := 2) rfl (iinc_ok (by first | rfl | omega)) (by decide) rfl (fun ls hl => ?_)
          refine lv_iinc (v := iI (k + 1)) (lv' := [(4, vI (k + 1)), (3, vI ((cnt (fun p => 0 < seg (a 0) (rq a) p d) k) + 1)), (2, vI 1000000), (0, .ref ro), (1, vI d)]) F.1 F.2.1 dX7_readings_60 hl (k := 2) rfl (iinc_ok (by first | rfl | omega)) (by decide) rfl (fun ls hl => ?_)
          refine lv_goto (tgt := 7) F.1 F.2.1 dX7_readings_63 (by decide) ?_
          exact ih_7 (k + 1) ⟨by omega, by omega⟩ (show ((25 - (k + 1)).toNat) < ((25 - k).toNat) by omega) ls (lv_cv (lv_sub hl [0, 1, 2, 3, 4] rfl) (by rw [← show ((cnt (fun p => 0 < seg (a 0) (rq a) p d) k) + 1 : Int) = cnt (fun u_p => 0 < seg (a 0) (rq a) u_p d) (k + 1) from by first | exact cnt_n (P := fun p => 0 < seg (a 0) (rq a) p d) k0 (fun h => c_21 (rseg_div h)) | exact cnt_n (P := fun p => 0 < seg (a 0) (rq a) p d) k0 (show ¬ 0 < seg (a 0) (rq a) k d by omega) | exact cnt_y (P := fun p => 0 < seg (a 0) (rq a) p d) k0 (by assumption), ← show (1000000 : Int) = cap (prd (fun u_p => 0 < seg (a 0) (rq a) u_p d) (fun u_p => fc (a 0) (rq a) (a 25) (rbl a) (rbc a) u_p d) (k + 1)) from by first | exact congrArg cap (prd_n (G := fun p => 0 < seg (a 0) (rq a) p d) (f := fun p => fc (a 0) (rq a) (a 25) (rbl a) (rbc a) p d) k0 (fun h => c_21 (rseg_div h))) | exact congrArg cap (prd_n (G := fun p => 0 < seg (a 0) (rq a) p d) (f := fun p => fc (a 0) (rq a) (a 25) (rbl a) (rbc a) p d) k0 (show ¬ 0 < seg (a 0) (rq a) k d by omega)) | exact (cap_hi pf.1 q_39_0.1 c_47).trans (congrArg cap (prd_y (G := fun p => 0 < seg (a 0) (rq a) p d) (f := fun p => fc (a 0) (rq a) (a 25) (rbl a) (rbc a) p d) k0 (by assumption))) | exact (cap_lo pf.1 q_39_0.1 c_47).trans (congrArg cap (prd_y (G := fun p => 0 < seg (a 0) (rq a) p d) (f := fun p => fc (a 0) (rq a) (a 25) (rbl a) (rbc a) p d) k0 (by assumption)))]; rfl))
set_option maxRecDepth 100000 in
set_option maxHeartbeats 4000000 in
theorem c_X7_isKnown (l : Launch) (D : va_G) (cy : Nat → ClassId) (ro : Nat) (a : Int → Int) (w dv : Int) (hM : MR a) (hw : 0 ≤ w ∧ w < a 96) (hp : 0 ≤ dv ∧ dv < a 0) (hq : a (1 + dv) = 0) : Rd l yX7_isKnown cX7_isKnown 6 (some FieldType.boolean) 2 [.ref ro, vI w, vI dv] D cy [(ro, .inl (cy 1, 118, .inl (iA a)))] (b2i (pB (kn (a 0) (rq a) dv (a (97 + 5 * w + 1)) (a (97 + 5 * w + 4))))) := by
  refine Rd.of RX7 rfl [(0, .ref ro), (1, vI w), (2, vI dv)] rfl (by decide +kernel) (Nat.le_of_ble_eq_true rfl) ?_
  intro p e s m args below meth c F hr hlocks hK hP ls hl
  have hn0 := hM.n
  have hw0 := hM.nw
  have hc0 := hM.wc
  have hW := hM.w hw.1 hw.2
  obtain ⟨v1, v2, v3, v4, v5⟩ := id hW
  have v6 := p2_24 hn0.1 hn0.2
  refine rr_iconst F dX7_isKnown_0 ?_
  refine lv_istore_n (lv' := [(3, vI 1), (0, .ref ro), (1, vI w), (2, vI dv)]) F.1 F.2.1 dX7_isKnown_1 rfl hl (by decide) rfl (fun ls hl => ?_)
  refine lv_aload_n F.1 F.2.1 dX7_isKnown_2 rfl (lv_at hl 1 rfl) ?_
  refine lv_iload_n F.1 F.2.1 dX7_isKnown_3 rfl (lv_at hl 3 rfl) ?_
  refine lv_aload_n F.1 F.2.1 dX7_isKnown_4 rfl (lv_at hl 1 rfl) ?_
  refine lv_iload_n F.1 F.2.1 dX7_isKnown_5 rfl (lv_at hl 2 rfl) ?_
  refine rr_iconst F dX7_isKnown_6 ?_
  refine rr_rdS (rest := [vI dv, .ref ro]) F hK (c_X7_of l D cy ro a w 1 (by first | assumption | omega | exact ⟨by omega, by omega⟩) (by first | assumption | omega | exact ⟨by omega, by omega⟩)) hP sf_X7_of tw1076 ⟨Nat.le_of_ble_eq_true rfl, Nat.le_of_ble_eq_true rfl⟩ hl rfl (Nat.le_of_ble_eq_true rfl) dX7_isKnown_7 ⟨Nat.zero_le _, Nat.zero_le _⟩ ?_
  refine rr_rdS (rest := []) F hK (c_X7_longOf l D cy ro a dv (a (97 + 5 * w + 1)) (by first | assumption | omega | exact ⟨by omega, by omega⟩) (by first | assumption | omega | exact ⟨by omega, by omega⟩) (by first | assumption | omega | exact ⟨by omega, by omega⟩) (by first | assumption | omega | exact ⟨by omega, by omega⟩)) hP sf_X7_longOf tw1014 ⟨Nat.le_of_ble_eq_true rfl, Nat.le_of_ble_eq_true rfl⟩ hl rfl (Nat.le_of_ble_eq_true rfl) dX7_isKnown_10 ⟨Nat.zero_le _, Nat.zero_le _⟩ ?_
  have q_10_0 := (seg_rng (n := a 0) (by omega) (rq a) dv (a (97 + 5 * w + 1)))
  refine rr_iconst F dX7_isKnown_13 ?_
  refine rr_iadd F (z := (seg (a 0) (rq a) dv (a (97 + 5 * w + 1))) + 1) dX7_isKnown_14 (by first | rfl | omega) ?_
  refine lv_istore (lv' := [(4, vI ((seg (a 0) (rq a) dv (a (97 + 5 * w + 1))) + 1)), (3, vI 1), (0, .ref ro), (1, vI w), (2, vI dv)]) F.1 F.2.1 dX7_isKnown_15 hl (by decide) rfl (fun ls hl => ?_)
  refine rr_iconst F dX7_isKnown_17 ?_
  refine lv_istore (lv' := [(5, vI 0), (4, vI ((seg (a 0) (rq a) dv (a (97 + 5 * w + 1))) + 1)), (3, vI 1), (0, .ref ro), (1, vI w), (2, vI dv)]) F.1 F.2.1 dX7_isKnown_18 hl (by decide) rfl (fun ls hl => ?_)
  refine rr_loop1 (fun k => (0 ≤ k) ∧ (k ≤ seg (a 0) (rq a) dv (a (97 + 5 * w + 1)) + 2)) (fun k => (30 - k).toNat) (fun k => [(5, vI k), (4, vI (seg (a 0) (rq a) dv (a (97 + 5 * w + 1)) + 1)), (3, vI (b2i (pB (∀ j, 0 ≤ j → j < k → bit (a (97 + 5 * w + 4)) (off (a 0) dv (a (97 + 5 * w + 1)) j))))), (0, .ref ro), (1, vI w), (2, vI dv)]) ?_ 0 ⟨by omega, by omega⟩ (lv_cv (lv_sub hl [0, 1, 2, 3, 4, 5] rfl) (by rw [← show (1 : Int) = b2i (pB (∀ j, 0 ≤ j → j < 0 → bit (a (97 + 5 * w + 4)) (off (a 0) dv (a (97 + 5 * w + 1)) j))) from by exact b2i_t (fun j x y => by omega)]; rfl))
  intro k hI ih_20 ls hl
  obtain ⟨k0, k1⟩ := hI
  have hl : lv_has ls 6 [(5, vI k), (4, vI (seg (a 0) (rq a) dv (a (97 + 5 * w + 1)) + 1)), (3, vI (b2i (pB (∀ j, 0 ≤ j → j < k → bit (a (97 + 5 * w + 4)) (off (a 0) dv (a (97 + 5 * w + 1)) j))))), (0, .ref ro), (1, vI w), (2, vI dv)] := hl
  have sr := seg_rng (n := a 0) (by omega) (rq a) dv (a (97 + 5 * w + 1))
  refine lv_iload F.1 F.2.1 dX7_isKnown_20 (lv_at hl 0 rfl) ?_
  refine lv_iload F.1 F.2.1 dX7_isKnown_22 (lv_at hl 1 rfl) ?_
  refine rr_icmp_gt F (tgt := 69) dX7_isKnown_24 (by decide) ⟨by omega, by omega⟩ ⟨by omega, by omega⟩ (fun c_24 => ?_) (fun c_24 => ?_)
  · refine lv_iload_n F.1 F.2.1 dX7_isKnown_69 rfl (lv_at hl 2 rfl) ?_
    refine rr_ifP_eq F (tgt := 83) dX7_isKnown_70 (by decide) (fun c_70 => ?_) (fun c_70 => ?_)
    · refine rr_iconst F dX7_isKnown_83 ?_
      exact rr_zret F hr hlocks (b := false) dX7_isKnown_84 rfl (b2i_f (fun h => by first | exact c_70 (fun j x y => h.2 j x (by omega)) | (have h1 : 0 < seg (a 0) (rq a) dv (a (97 + 5 * w + 1)) := h.1; omega)))
    · refine lv_iload F.1 F.2.1 dX7_isKnown_73 (lv_at hl 1 rfl) ?_
      refine rr_iconst F dX7_isKnown_75 ?_
      refine rr_icmp_le F (tgt := 83) dX7_isKnown_76 (by decide) ⟨by omega, by omega⟩ ⟨by omega, by omega⟩ (fun c_76 => ?_) (fun c_76 => ?_)
      · refine rr_iconst F dX7_isKnown_83 ?_
        exact rr_zret F hr hlocks (b := false) dX7_isKnown_84 rfl (b2i_f (fun h => by first | exact c_70 (fun j x y => h.2 j x (by omega)) | (have h1 : 0 < seg (a 0) (rq a) dv (a (97 + 5 * w + 1)) := h.1; omega)))
      · refine rr_iconst F dX7_isKnown_79 ?_
        refine lv_goto (tgt := 84) F.1 F.2.1 dX7_isKnown_80 (by decide) ?_
        exact rr_zret F hr hlocks (b := true) dX7_isKnown_84 rfl (b2i_t ⟨by omega, fun j x y => c_70 j x (by omega)⟩)
  · refine lv_iload_n F.1 F.2.1 dX7_isKnown_27 rfl (lv_at hl 2 rfl) ?_
    refine rr_ifP_eq F (tgt := 61) dX7_isKnown_28 (by decide) (fun c_28 => ?_) (fun c_28 => ?_)
    · refine rr_iconst F dX7_isKnown_61 ?_
      refine lv_istore_n (lv' := [(3, vI 0), (5, vI k), (4, vI (seg (a 0) (rq a) dv (a (97 + 5 * w + 1)) + 1)), (0, .ref ro), (1, vI w), (2, vI dv)]) F.1 F.2.1 dX7_isKnown_62 rfl hl (by decide) rfl (fun ls hl => ?_)
      refine lv_iinc (v := iI (k + 1)) (lv' := [(5, vI (k + 1)), (3, vI 0), (4, vI (seg (a 0) (rq a) dv (a (97 + 5 * w + 1)) + 1)), (0, .ref ro), (1, vI w), (2, vI dv)]) F.1 F.2.1 dX7_isKnown_63 hl (k := 1) rfl (iinc_ok (by first | rfl | omega)) (by decide) rfl (fun ls hl => ?_)
      refine lv_goto (tgt := 20) F.1 F.2.1 dX7_isKnown_66 (by decide) ?_
      exact ih_20 (k + 1) ⟨by omega, by omega⟩ (show ((30 - (k + 1)).toNat) < ((30 - k).toNat) by omega) ls (lv_cv (lv_sub hl [0, 2, 1, 3, 4, 5] rfl) (by rw [← show (0 : Int) = b2i (pB (∀ j, 0 ≤ j → j < (k + 1) → bit (a (97 + 5 * w + 4)) (off (a 0) dv (a (97 + 5 * w + 1)) j))) from by first | exact b2i_t (fun j x y => (if hj : j = k then by subst hj; exact b2i_one (by assumption) else c_28 j x (by omega))) | exact b2i_f (fun h => c_28 (fun j x y => h j x (by omega))) | exact b2i_f (fun h => c_54 (one_b2i (h k k0 (by omega))))]; rfl))
    · refine lv_aload_n F.1 F.2.1 dX7_isKnown_31 rfl (lv_at hl 3 rfl) ?_
      refine lv_iload_n F.1 F.2.1 dX7_isKnown_32 rfl (lv_at hl 4 rfl) ?_
      refine rr_iconst F dX7_isKnown_33 ?_
      refine rr_rdS (rest := []) F hK (c_X7_of l D cy ro a w 4 (by first | assumption | omega | exact ⟨by omega, by omega⟩) (by first | assumption | omega | exact ⟨by omega, by omega⟩)) hP sf_X7_of tw1076 ⟨Nat.le_of_ble_eq_true rfl, Nat.le_of_ble_eq_true rfl⟩ hl rfl (Nat.le_of_ble_eq_true rfl) dX7_isKnown_34 ⟨Nat.zero_le _, Nat.zero_le _⟩ ?_
      refine lv_aload_n F.1 F.2.1 dX7_isKnown_37 rfl (lv_at hl 3 rfl) ?_
      refine lv_iload_n F.1 F.2.1 dX7_isKnown_38 rfl (lv_at hl 5 rfl) ?_
      refine lv_aload_n F.1 F.2.1 dX7_isKnown_39 rfl (lv_at hl 3 rfl) ?_
      refine lv_iload_n F.1 F.2.1 dX7_isKnown_40 rfl (lv_at hl 4 rfl) ?_
      refine rr_iconst F dX7_isKnown_41 ?_
      refine rr_rdS (rest := [vI dv, .ref ro, vI (a (97 + 5 * w + 4))]) F hK (c_X7_of l D cy ro a w 1 (by first | assumption | omega | exact ⟨by omega, by omega⟩) (by first | assumption | omega | exact ⟨by omega, by omega⟩)) hP sf_X7_of tw1076 ⟨Nat.le_of_ble_eq_true rfl, Nat.le_of_ble_eq_true rfl⟩ hl rfl (Nat.le_of_ble_eq_true rfl) dX7_isKnown_42 ⟨Nat.zero_le _, Nat.zero_le _⟩ ?_
      refine lv_iload F.1 F.2.1 dX7_isKnown_45 (lv_at hl 0 rfl) ?_
      refine rr_rdS (rest := [vI (a (97 + 5 * w + 4))]) F hK (c_X7_off l D cy ro a dv (a (97 + 5 * w + 1)) k (by first | assumption | omega | exact ⟨by omega, by omega⟩) (by first | assumption | omega | exact ⟨by omega, by omega⟩) (by first | assumption | omega | exact ⟨by omega, by omega⟩) (by first | assumption | omega | exact ⟨by omega, by omega⟩)) hP sf_X7_off tw962 ⟨Nat.le_of_ble_eq_true rfl, Nat.le_of_ble_eq_true rfl⟩ hl rfl (Nat.le_of_ble_eq_true rfl) dX7_isKnown_47 ⟨Nat.zero_le _, Nat.zero_le _⟩ ?_
      have q_47_0 := (off_rng (n := a 0) (by omega) dv (a (97 + 5 * w + 1)) k)
      refine rr_ishr F (z := shr (a (97 + 5 * w + 4)) (off (a 0) dv (a (97 + 5 * w + 1)) k)) dX7_isKnown_50 ⟨⟨by omega, by omega⟩, by omega, by omega, rfl⟩ ?_
      refine rr_iconst F dX7_isKnown_51 ?_
      refine rr_ibit F (a := (a (97 + 5 * w + 4))) (b := (off (a 0) dv (a (97 + 5 * w + 1)) k)) dX7_isKnown_52 ⟨by omega, by omega⟩ ?_
      refine rr_iconst F dX7_isKnown_53 ?_
      refine rr_icmp_ne F (tgt := 61) dX7_isKnown_54 (by decide) (inR_b2i _) ⟨by omega, by omega⟩ (fun c_54 => ?_) (fun c_54 => ?_)
      · refine rr_iconst F dX7_isKnown_61 ?_
        refine lv_istore_n (lv' := [(3, vI 0), (5, vI k), (4, vI (seg (a 0) (rq a) dv (a (97 + 5 * w + 1)) + 1)), (0, .ref ro), (1, vI w), (2, vI dv)]) F.1 F.2.1 dX7_isKnown_62 rfl hl (by decide) rfl (fun ls hl => ?_)
        refine lv_iinc (v := iI (k + 1)) (lv' := [(5, vI (k + 1)), (3, vI 0), (4, vI (seg (a 0) (rq a) dv (a (97 + 5 * w + 1)) + 1)), (0, .ref ro), (1, vI w), (2, vI dv)]) F.1 F.2.1 dX7_isKnown_63 hl (k := 1) rfl (iinc_ok (by first | rfl | omega)) (by decide) rfl (fun ls hl => ?_)
        refine lv_goto (tgt := 20) F.1 F.2.1 dX7_isKnown_66 (by decide) ?_
        exact ih_20 (k + 1) ⟨by omega, by omega⟩ (show ((30 - (k + 1)).toNat) < ((30 - k).toNat) by omega) ls (lv_cv (lv_sub hl [0, 2, 1, 3, 4, 5] rfl) (by rw [← show (0 : Int) = b2i (pB (∀ j, 0 ≤ j → j < (k + 1) → bit (a (97 + 5 * w + 4)) (off (a 0) dv (a (97 + 5 * w + 1)) j))) from by first | exact b2i_t (fun j x y => (if hj : j = k then by subst hj; exact b2i_one (by assumption) else c_28 j x (by omega))) | exact b2i_f (fun h => c_28 (fun j x y => h j x (by omega))) | exact b2i_f (fun h => c_54 (one_b2i (h k k0 (by omega))))]; rfl))
      · refine rr_iconst F dX7_isKnown_57 ?_
        refine lv_goto (tgt := 62) F.1 F.2.1 dX7_isKnown_58 (by decide) ?_
        refine lv_istore_n (lv' := [(3, vI 1), (5, vI k), (4, vI (seg (a 0) (rq a) dv (a (97 + 5 * w + 1)) + 1)), (0, .ref ro), (1, vI w), (2, vI dv)]) F.1 F.2.1 dX7_isKnown_62 rfl hl (by decide) rfl (fun ls hl => ?_)
        refine lv_iinc (v := iI (k + 1)) (lv' := [(5, vI (k + 1)), (3, vI 1), (4, vI (seg (a 0) (rq a) dv (a (97 + 5 * w + 1)) + 1)), (0, .ref ro), (1, vI w), (2, vI dv)]) F.1 F.2.1 dX7_isKnown_63 hl (k := 1) rfl (iinc_ok (by first | rfl | omega)) (by decide) rfl (fun ls hl => ?_)
        refine lv_goto (tgt := 20) F.1 F.2.1 dX7_isKnown_66 (by decide) ?_
        exact ih_20 (k + 1) ⟨by omega, by omega⟩ (show ((30 - (k + 1)).toNat) < ((30 - k).toNat) by omega) ls (lv_cv (lv_sub hl [0, 2, 1, 3, 4, 5] rfl) (by rw [← show (1 : Int) = b2i (pB (∀ j, 0 ≤ j → j < (k + 1) → bit (a (97 + 5 * w + 4)) (off (a 0) dv (a (97 + 5 * w + 1)) j))) from by first | exact b2i_t (fun j x y => (if hj : j = k then by subst hj; exact b2i_one (by assumption) else c_28 j x (by omega))) | exact b2i_f (fun h => c_28 (fun j x y => h j x (by omega))) | exact b2i_f (fun h => c_54 (one_b2i (h k k0 (by omega))))]; rfl))
set_option maxRecDepth 100000 in
set_option maxHeartbeats 4000000 in
theorem c_X7_known (l : Launch) (D : va_G) (cy : Nat → ClassId) (ro : Nat) (a : Int → Int) (w fb : Int) (hM : MR a) (hw : 0 ≤ w ∧ w < a 96) (hfb : fb = 0 ∨ fb = 1) : Rd l yX7_known cX7_known 5 (some FieldType.int) 4 [.ref ro, vI w, vI fb] D cy [(ro, .inl (cy 1, 118, .inl (iA a)))] (knb (a 0) (rq a) (a 25) (rbl a) (rbc a) (a (97 + 5 * w + 1)) (a (97 + 5 * w + 4)) fb) := by
  refine Rd.of RX7 rfl [(0, .ref ro), (1, vI w), (2, vI fb)] rfl (by decide +kernel) (Nat.le_of_ble_eq_true rfl) ?_
  intro p e s m args below meth c F hr hlocks hK hP ls hl
  have hn0 := hM.n
  have hw0 := hM.nw
  have hc0 := hM.wc
  have hW := hM.w hw.1 hw.2
  obtain ⟨v1, v2, v3, v4, v5⟩ := id hW
  refine rr_iconst F dX7_known_0 ?_
  refine lv_istore_n (lv' := [(3, vI 0), (0, .ref ro), (1, vI w), (2, vI fb)]) F.1 F.2.1 dX7_known_1 rfl hl (by decide) rfl (fun ls hl => ?_)
  refine rr_iconst F dX7_known_2 ?_
  refine lv_istore (lv' := [(4, vI 0), (3, vI 0), (0, .ref ro), (1, vI w), (2, vI fb)]) F.1 F.2.1 dX7_known_3 hl (by decide) rfl (fun ls hl => ?_)
  refine rr_loop1 (fun k => (0 ≤ k) ∧ (k ≤ a 0)) (fun k => (25 - k).toNat) (fun k => [(4, vI k), (3, vI (cnt (fun p => kn (a 0) (rq a) p (a (97 + 5 * w + 1)) (a (97 + 5 * w + 4)) ∧ (fb = 0 ∨ hf (a 0) (rq a) (a 25) (rbl a) (rbc a) p (a (97 + 5 * w + 1)))) k)), (0, .ref ro), (1, vI w), (2, vI fb)]) ?_ 0 ⟨by omega, by omega⟩ (lv_sub hl [0, 1, 2, 3, 4] rfl)
  intro k hI ih_5 ls hl
  obtain ⟨k0, k1⟩ := hI
  have hl : lv_has ls 5 [(4, vI k), (3, vI (cnt (fun p => kn (a 0) (rq a) p (a (97 + 5 * w + 1)) (a (97 + 5 * w + 4)) ∧ (fb = 0 ∨ hf (a 0) (rq a) (a 25) (rbl a) (rbc a) p (a (97 + 5 * w + 1)))) k)), (0, .ref ro), (1, vI w), (2, vI fb)] := hl
  have cr := cnt_rng (fun p => kn (a 0) (rq a) p (a (97 + 5 * w + 1)) (a (97 + 5 * w + 4)) ∧ (fb = 0 ∨ hf (a 0) (rq a) (a 25) (rbl a) (rbc a) p (a (97 + 5 * w + 1)))) k0
  refine lv_iload F.1 F.2.1 dX7_known_5 (lv_at hl 0 rfl) ?_
  refine lv_aload_n F.1 F.2.1 dX7_known_7 rfl (lv_at hl 2 rfl) ?_
  refine rr_iconst F dX7_known_8 ?_
  refine rr_iald F hK hP 0 rfl (by omega) (by omega) (by decide) dX7_known_9 ?_
  refine rr_icmp_ge F (tgt := 65) dX7_known_10 (by decide) ⟨by omega, by omega⟩ ⟨by omega, by omega⟩ (fun c_10 => ?_) (fun c_10 => ?_)
  · refine lv_iload_n F.1 F.2.1 dX7_known_65 rfl (lv_at hl 1 rfl) ?_
    exact rr_iret F hr hlocks dX7_known_66 (by rw [show k = a 0 by omega]; rfl)
  · refine lv_iload_n F.1 F.2.1 dX7_known_13 rfl (lv_at hl 1 rfl) ?_
    refine lv_aload_n F.1 F.2.1 dX7_known_14 rfl (lv_at hl 2 rfl) ?_
    refine lv_iload F.1 F.2.1 dX7_known_15 (lv_at hl 0 rfl) ?_
    have qq := hM.q k0 c_10
    refine rr_rdS (rest := [vI (cnt (fun p => kn (a 0) (rq a) p (a (97 + 5 * w + 1)) (a (97 + 5 * w + 4)) ∧ (fb = 0 ∨ hf (a 0) (rq a) (a 25) (rbl a) (rbc a) p (a (97 + 5 * w + 1)))) k)]) F hK (c_X7_isDivider l D cy ro a k (by first | assumption | omega | exact ⟨by omega, by omega⟩) (by first | assumption | omega | exact ⟨by omega, by omega⟩)) hP sf_X7_isDivider tw948 ⟨Nat.le_of_ble_eq_true rfl, Nat.le_of_ble_eq_true rfl⟩ hl rfl (Nat.le_of_ble_eq_true rfl) dX7_known_17 ⟨Nat.zero_le _, Nat.zero_le _⟩ ?_
    refine rr_ifP_eq F (tgt := 56) dX7_known_20 (by decide) (fun c_20 => ?_) (fun c_20 => ?_)
    · refine rr_iconst F dX7_known_56 ?_
      refine rr_iadd F (z := cnt (fun p => kn (a 0) (rq a) p (a (97 + 5 * w + 1)) (a (97 + 5 * w + 4)) ∧ (fb = 0 ∨ hf (a 0) (rq a) (a 25) (rbl a) (rbc a) p (a (97 + 5 * w + 1)))) (k + 1)) dX7_known_57 (by first | exact cnt_y (P := fun p => kn (a 0) (rq a) p (a (97 + 5 * w + 1)) (a (97 + 5 * w + 4)) ∧ (fb = 0 ∨ hf (a 0) (rq a) (a 25) (rbl a) (rbc a) p (a (97 + 5 * w + 1)))) k0 ⟨c_30, Or.inl (by omega)⟩ | exact cnt_y (P := fun p => kn (a 0) (rq a) p (a (97 + 5 * w + 1)) (a (97 + 5 * w + 4)) ∧ (fb = 0 ∨ hf (a 0) (rq a) (a 25) (rbl a) (rbc a) p (a (97 + 5 * w + 1)))) k0 ⟨c_30, Or.inr (hf_y (by omega) (by assumption))⟩ | (rw [Int.add_zero]; exact cnt_n (P := fun p => kn (a 0) (rq a) p (a (97 + 5 * w + 1)) (a (97 + 5 * w + 4)) ∧ (fb = 0 ∨ hf (a 0) (rq a) (a 25) (rbl a) (rbc a) p (a (97 + 5 * w + 1)))) k0 (fun h => c_20 (rseg_div h.1.1))) | (rw [Int.add_zero]; exact cnt_n (P := fun p => kn (a 0) (rq a) p (a (97 + 5 * w + 1)) (a (97 + 5 * w + 4)) ∧ (fb = 0 ∨ hf (a 0) (rq a) (a 25) (rbl a) (rbc a) p (a (97 + 5 * w + 1)))) k0 (fun h => c_30 h.1)) | (rw [Int.add_zero]; exact cnt_n (P := fun p => kn (a 0) (rq a) p (a (97 + 5 * w + 1)) (a (97 + 5 * w + 4)) ∧ (fb = 0 ∨ hf (a 0) (rq a) (a 25) (rbl a) (rbc a) p (a (97 + 5 * w + 1)))) k0 (fun h => h.2.elim (fun h => by omega) (fun h => hf_n3 (by omega) c_49 h)))) ?_
      refine lv_istore_n (lv' := [(3, vI (cnt (fun p => kn (a 0) (rq a) p (a (97 + 5 * w + 1)) (a (97 + 5 * w + 4)) ∧ (fb = 0 ∨ hf (a 0) (rq a) (a 25) (rbl a) (rbc a) p (a (97 + 5 * w + 1)))) (k + 1))), (4, vI k), (0, .ref ro), (1, vI w), (2, vI fb)]) F.1 F.2.1 dX7_known_58 rfl hl (by decide) rfl (fun ls hl => ?_)
      refine lv_iinc (v := iI (k + 1)) (lv' := [(4, vI (k + 1)), (3, vI (cnt (fun p => kn (a 0) (rq a) p (a (97 + 5 * w + 1)) (a (97 + 5 * w + 4)) ∧ (fb = 0 ∨ hf (a 0) (rq a) (a 25) (rbl a) (rbc a) p (a (97 + 5 * w + 1)))) (k + 1))), (0, .ref ro), (1, vI w), (2, vI fb)]) F.1 F.2.1 dX7_known_59 hl (k := 1) rfl (iinc_ok (by first | rfl | omega)) (by decide) rfl (fun ls hl => ?_)
      refine lv_goto (tgt := 5) F.1 F.2.1 dX7_known_62 (by decide) ?_
      exact ih_5 (k + 1) ⟨by omega, by omega⟩ (show ((25 - (k + 1)).toNat) < ((25 - k).toNat) by omega) ls (lv_sub hl [0, 1, 2, 3, 4] rfl)
    · refine lv_aload_n F.1 F.2.1 dX7_known_23 rfl (lv_at hl 2 rfl) ?_
      refine lv_iload_n F.1 F.2.1 dX7_known_24 rfl (lv_at hl 3 rfl) ?_
      refine lv_iload F.1 F.2.1 dX7_known_25 (lv_at hl 0 rfl) ?_
      refine rr_rdS (rest := [vI (cnt (fun p => kn (a 0) (rq a) p (a (97 + 5 * w + 1)) (a (97 + 5 * w + 4)) ∧ (fb = 0 ∨ hf (a 0) (rq a) (a 25) (rbl a) (rbc a) p (a (97 + 5 * w + 1)))) k)]) F hK (c_X7_isKnown l D cy ro a w k (by first | assumption | omega | exact ⟨by omega, by omega⟩) (by first | assumption | omega | exact ⟨by omega, by omega⟩) (by first | assumption | omega | exact ⟨by omega, by omega⟩) (by first | assumption | omega | exact ⟨by omega, by omega⟩)) hP sf_X7_isKnown tw1085 ⟨Nat.le_of_ble_eq_true rfl, Nat.le_of_ble_eq_true rfl⟩ hl rfl (Nat.le_of_ble_eq_true rfl) dX7_known_27 ⟨Nat.zero_le _, Nat.zero_le _⟩ ?_
      refine rr_ifP_eq F (tgt := 56) dX7_known_30 (by decide) (fun c_30 => ?_) (fun c_30 => ?_)
      · refine rr_iconst F dX7_known_56 ?_
        refine rr_iadd F (z := cnt (fun p => kn (a 0) (rq a) p (a (97 + 5 * w + 1)) (a (97 + 5 * w + 4)) ∧ (fb = 0 ∨ hf (a 0) (rq a) (a 25) (rbl a) (rbc a) p (a (97 + 5 * w + 1)))) (k + 1)) dX7_known_57 (by first | exact cnt_y (P := fun p => kn (a 0) (rq a) p (a (97 + 5 * w + 1)) (a (97 + 5 * w + 4)) ∧ (fb = 0 ∨ hf (a 0) (rq a) (a 25) (rbl a) (rbc a) p (a (97 + 5 * w + 1)))) k0 ⟨c_30, Or.inl (by omega)⟩ | exact cnt_y (P := fun p => kn (a 0) (rq a) p (a (97 + 5 * w + 1)) (a (97 + 5 * w + 4)) ∧ (fb = 0 ∨ hf (a 0) (rq a) (a 25) (rbl a) (rbc a) p (a (97 + 5 * w + 1)))) k0 ⟨c_30, Or.inr (hf_y (by omega) (by assumption))⟩ | (rw [Int.add_zero]; exact cnt_n (P := fun p => kn (a 0) (rq a) p (a (97 + 5 * w + 1)) (a (97 + 5 * w + 4)) ∧ (fb = 0 ∨ hf (a 0) (rq a) (a 25) (rbl a) (rbc a) p (a (97 + 5 * w + 1)))) k0 (fun h => c_20 (rseg_div h.1.1))) | (rw [Int.add_zero]; exact cnt_n (P := fun p => kn (a 0) (rq a) p (a (97 + 5 * w + 1)) (a (97 + 5 * w + 4)) ∧ (fb = 0 ∨ hf (a 0) (rq a) (a 25) (rbl a) (rbc a) p (a (97 + 5 * w + 1)))) k0 (fun h => c_30 h.1)) | (rw [Int.add_zero]; exact cnt_n (P := fun p => kn (a 0) (rq a) p (a (97 + 5 * w + 1)) (a (97 + 5 * w + 4)) ∧ (fb = 0 ∨ hf (a 0) (rq a) (a 25) (rbl a) (rbc a) p (a (97 + 5 * w + 1)))) k0 (fun h => h.2.elim (fun h => by omega) (fun h => hf_n3 (by omega) c_49 h)))) ?_
        refine lv_istore_n (lv' := [(3, vI (cnt (fun p => kn (a 0) (rq a) p (a (97 + 5 * w + 1)) (a (97 + 5 * w + 4)) ∧ (fb = 0 ∨ hf (a 0) (rq a) (a 25) (rbl a) (rbc a) p (a (97 + 5 * w + 1)))) (k + 1))), (4, vI k), (0, .ref ro), (1, vI w), (2, vI fb)]) F.1 F.2.1 dX7_known_58 rfl hl (by decide) rfl (fun ls hl => ?_)
        refine lv_iinc (v := iI (k + 1)) (lv' := [(4, vI (k + 1)), (3, vI (cnt (fun p => kn (a 0) (rq a) p (a (97 + 5 * w + 1)) (a (97 + 5 * w + 4)) ∧ (fb = 0 ∨ hf (a 0) (rq a) (a 25) (rbl a) (rbc a) p (a (97 + 5 * w + 1)))) (k + 1))), (0, .ref ro), (1, vI w), (2, vI fb)]) F.1 F.2.1 dX7_known_59 hl (k := 1) rfl (iinc_ok (by first | rfl | omega)) (by decide) rfl (fun ls hl => ?_)
        refine lv_goto (tgt := 5) F.1 F.2.1 dX7_known_62 (by decide) ?_
        exact ih_5 (k + 1) ⟨by omega, by omega⟩ (show ((25 - (k + 1)).toNat) < ((25 - k).toNat) by omega) ls (lv_sub hl [0, 1, 2, 3, 4] rfl)
      · refine lv_iload_n F.1 F.2.1 dX7_known_33 rfl (lv_at hl 4 rfl) ?_
        refine rr_if_eq F (tgt := 52) dX7_known_34 (by decide) ⟨by omega, by omega⟩ (fun c_34 => ?_) (fun c_34 => ?_)
        · refine rr_iconst F dX7_known_52 ?_
          refine lv_goto (tgt := 57) F.1 F.2.1 dX7_known_53 (by decide) ?_
          refine rr_iadd F (z := cnt (fun p => kn (a 0) (rq a) p (a (97 + 5 * w + 1)) (a (97 + 5 * w + 4)) ∧ (fb = 0 ∨ hf (a 0) (rq a) (a 25) (rbl a) (rbc a) p (a (97 + 5 * w + 1)))) (k + 1)) dX7_known_57 (by first | exact cnt_y (P := fun p => kn (a 0) (rq a) p (a (97 + 5 * w + 1)) (a (97 + 5 * w + 4)) ∧ (fb = 0 ∨ hf (a 0) (rq a) (a 25) (rbl a) (rbc a) p (a (97 + 5 * w + 1)))) k0 ⟨c_30, Or.inl (by omega)⟩ | exact cnt_y (P := fun p => kn (a 0) (rq a) p (a (97 + 5 * w + 1)) (a (97 + 5 * w + 4)) ∧ (fb = 0 ∨ hf (a 0) (rq a) (a 25) (rbl a) (rbc a) p (a (97 + 5 * w + 1)))) k0 ⟨c_30, Or.inr (hf_y (by omega) (by assumption))⟩ | (rw [Int.add_zero]; exact cnt_n (P := fun p => kn (a 0) (rq a) p (a (97 + 5 * w + 1)) (a (97 + 5 * w + 4)) ∧ (fb = 0 ∨ hf (a 0) (rq a) (a 25) (rbl a) (rbc a) p (a (97 + 5 * w + 1)))) k0 (fun h => c_20 (rseg_div h.1.1))) | (rw [Int.add_zero]; exact cnt_n (P := fun p => kn (a 0) (rq a) p (a (97 + 5 * w + 1)) (a (97 + 5 * w + 4)) ∧ (fb = 0 ∨ hf (a 0) (rq a) (a 25) (rbl a) (rbc a) p (a (97 + 5 * w + 1)))) k0 (fun h => c_30 h.1)) | (rw [Int.add_zero]; exact cnt_n (P := fun p => kn (a 0) (rq a) p (a (97 + 5 * w + 1)) (a (97 + 5 * w + 4)) ∧ (fb = 0 ∨ hf (a 0) (rq a) (a 25) (rbl a) (rbc a) p (a (97 + 5 * w + 1)))) k0 (fun h => h.2.elim (fun h => by omega) (fun h => hf_n3 (by omega) c_49 h)))) ?_
          refine lv_istore_n (lv' := [(3, vI (cnt (fun p => kn (a 0) (rq a) p (a (97 + 5 * w + 1)) (a (97 + 5 * w + 4)) ∧ (fb = 0 ∨ hf (a 0) (rq a) (a 25) (rbl a) (rbc a) p (a (97 + 5 * w + 1)))) (k + 1))), (4, vI k), (0, .ref ro), (1, vI w), (2, vI fb)]) F.1 F.2.1 dX7_known_58 rfl hl (by decide) rfl (fun ls hl => ?_)
          refine lv_iinc (v := iI (k + 1)) (lv' := [(4, vI (k + 1)), (3, vI (cnt (fun p => kn (a 0) (rq a) p (a (97 + 5 * w + 1)) (a (97 + 5 * w + 4)) ∧ (fb = 0 ∨ hf (a 0) (rq a) (a 25) (rbl a) (rbc a) p (a (97 + 5 * w + 1)))) (k + 1))), (0, .ref ro), (1, vI w), (2, vI fb)]) F.1 F.2.1 dX7_known_59 hl (k := 1) rfl (iinc_ok (by first | rfl | omega)) (by decide) rfl (fun ls hl => ?_)
          refine lv_goto (tgt := 5) F.1 F.2.1 dX7_known_62 (by decide) ?_
          exact ih_5 (k + 1) ⟨by omega, by omega⟩ (show ((25 - (k + 1)).toNat) < ((25 - k).toNat) by omega) ls (lv_sub hl [0, 1, 2, 3, 4] rfl)
        · refine lv_aload_n F.1 F.2.1 dX7_known_37 rfl (lv_at hl 2 rfl) ?_
          refine lv_iload F.1 F.2.1 dX7_known_38 (lv_at hl 0 rfl) ?_
          refine lv_aload_n F.1 F.2.1 dX7_known_40 rfl (lv_at hl 2 rfl) ?_
          refine lv_iload_n F.1 F.2.1 dX7_known_41 rfl (lv_at hl 3 rfl) ?_
          refine rr_iconst F dX7_known_42 ?_
          refine rr_rdS (rest := [vI k, .ref ro, vI (cnt (fun p => kn (a 0) (rq a) p (a (97 + 5 * w + 1)) (a (97 + 5 * w + 4)) ∧ (fb = 0 ∨ hf (a 0) (rq a) (a 25) (rbl a) (rbc a) p (a (97 + 5 * w + 1)))) k)]) F hK (c_X7_of l D cy ro a w 1 (by first | assumption | omega | exact ⟨by omega, by omega⟩) (by first | assumption | omega | exact ⟨by omega, by omega⟩)) hP sf_X7_of tw1076 ⟨Nat.le_of_ble_eq_true rfl, Nat.le_of_ble_eq_true rfl⟩ hl rfl (Nat.le_of_ble_eq_true rfl) dX7_known_43 ⟨Nat.zero_le _, Nat.zero_le _⟩ ?_
          refine rr_rdS (rest := [vI (cnt (fun p => kn (a 0) (rq a) p (a (97 + 5 * w + 1)) (a (97 + 5 * w + 4)) ∧ (fb = 0 ∨ hf (a 0) (rq a) (a 25) (rbl a) (rbc a) p (a (97 + 5 * w + 1)))) k)]) F hK (c_X7_fits l D cy ro a k (a (97 + 5 * w + 1)) (by first | assumption | omega | exact ⟨by omega, by omega⟩) (by first | assumption | omega | exact ⟨by omega, by omega⟩) (by first | assumption | omega | exact ⟨by omega, by omega⟩) (by first | assumption | omega | exact ⟨by omega, by omega⟩)) hP sf_X7_fits tw1020 ⟨Nat.le_of_ble_eq_true rfl, Nat.le_of_ble_eq_true rfl⟩ hl rfl (Nat.le_of_ble_eq_true rfl) dX7_known_46 ⟨Nat.zero_le _, Nat.zero_le _⟩ ?_
          have q_46_0 := (show 0 ≤ fc (a 0) (rq a) (a 25) (rbl a) (rbc a) k (a (97 + 5 * w + 1)) ∧ fc (a 0) (rq a) (a 25) (rbl a) (rbc a) k (a (97 + 5 * w + 1)) ≤ a 25 from cnt_rng _ (by omega))
          refine rr_if_le F (tgt := 56) dX7_known_49 (by decide) ⟨by omega, by omega⟩ (fun c_49 => ?_) (fun c_49 => ?_)
          · refine rr_iconst F dX7_known_56 ?_
            refine rr_iadd F (z := cnt (fun p => kn (a 0) (rq a) p (a (97 + 5 * w + 1)) (a (97 + 5 * w + 4)) ∧ (fb = 0 ∨ hf (a 0) (rq a) (a 25) (rbl a) (rbc a) p (a (97 + 5 * w + 1)))) (k + 1)) dX7_known_57 (by first | exact cnt_y (P := fun p => kn (a 0) (rq a) p (a (97 + 5 * w + 1)) (a (97 + 5 * w + 4)) ∧ (fb = 0 ∨ hf (a 0) (rq a) (a 25) (rbl a) (rbc a) p (a (97 + 5 * w + 1)))) k0 ⟨c_30, Or.inl (by omega)⟩ | exact cnt_y (P := fun p => kn (a 0) (rq a) p (a (97 + 5 * w + 1)) (a (97 + 5 * w + 4)) ∧ (fb = 0 ∨ hf (a 0) (rq a) (a 25) (rbl a) (rbc a) p (a (97 + 5 * w + 1)))) k0 ⟨c_30, Or.inr (hf_y (by omega) (by assumption))⟩ | (rw [Int.add_zero]; exact cnt_n (P := fun p => kn (a 0) (rq a) p (a (97 + 5 * w + 1)) (a (97 + 5 * w + 4)) ∧ (fb = 0 ∨ hf (a 0) (rq a) (a 25) (rbl a) (rbc a) p (a (97 + 5 * w + 1)))) k0 (fun h => c_20 (rseg_div h.1.1))) | (rw [Int.add_zero]; exact cnt_n (P := fun p => kn (a 0) (rq a) p (a (97 + 5 * w + 1)) (a (97 + 5 * w + 4)) ∧ (fb = 0 ∨ hf (a 0) (rq a) (a 25) (rbl a) (rbc a) p (a (97 + 5 * w + 1)))) k0 (fun h => c_30 h.1)) | (rw [Int.add_zero]; exact cnt_n (P := fun p => kn (a 0) (rq a) p (a (97 + 5 * w + 1)) (a (97 + 5 * w + 4)) ∧ (fb = 0 ∨ hf (a 0) (rq a) (a 25) (rbl a) (rbc a) p (a (97 + 5 * w + 1)))) k0 (fun h => h.2.elim (fun h => by omega) (fun h => hf_n3 (by omega) c_49 h)))) ?_
            refine lv_istore_n (lv' := [(3, vI (cnt (fun p => kn (a 0) (rq a) p (a (97 + 5 * w + 1)) (a (97 + 5 * w + 4)) ∧ (fb = 0 ∨ hf (a 0) (rq a) (a 25) (rbl a) (rbc a) p (a (97 + 5 * w + 1)))) (k + 1))), (4, vI k), (0, .ref ro), (1, vI w), (2, vI fb)]) F.1 F.2.1 dX7_known_58 rfl hl (by decide) rfl (fun ls hl => ?_)
            refine lv_iinc (v := iI (k + 1)) (lv' := [(4, vI (k + 1)), (3, vI (cnt (fun p => kn (a 0) (rq a) p (a (97 + 5 * w + 1)) (a (97 + 5 * w + 4)) ∧ (fb = 0 ∨ hf (a 0) (rq a) (a 25) (rbl a) (rbc a) p (a (97 + 5 * w + 1)))) (k + 1))), (0, .ref ro), (1, vI w), (2, vI fb)]) F.1 F.2.1 dX7_known_59 hl (k := 1) rfl (iinc_ok (by first | rfl | omega)) (by decide) rfl (fun ls hl => ?_)
            refine lv_goto (tgt := 5) F.1 F.2.1 dX7_known_62 (by decide) ?_
            exact ih_5 (k + 1) ⟨by omega, by omega⟩ (show ((25 - (k + 1)).toNat) < ((25 - k).toNat) by omega) ls (lv_sub hl [0, 1, 2, 3, 4] rfl)
          · refine rr_iconst F dX7_known_52 ?_
            refine lv_goto (tgt := 57) F.1 F.2.1 dX7_known_53 (by decide) ?_
            refine rr_iadd F (z := cnt (fun p => kn (a 0) (rq a) p (a (97 + 5 * w + 1)) (a (97 + 5 * w + 4)) ∧ (fb = 0 ∨ hf (a 0) (rq a) (a 25) (rbl a) (rbc a) p (a (97 + 5 * w + 1)))) (k + 1)) dX7_known_57 (by first | exact cnt_y (P := fun p => kn (a 0) (rq a) p (a (97 + 5 * w + 1)) (a (97 + 5 * w + 4)) ∧ (fb = 0 ∨ hf (a 0) (rq a) (a 25) (rbl a) (rbc a) p (a (97 + 5 * w + 1)))) k0 ⟨c_30, Or.inl (by omega)⟩ | exact cnt_y (P := fun p => kn (a 0) (rq a) p (a (97 + 5 * w + 1)) (a (97 + 5 * w + 4)) ∧ (fb = 0 ∨ hf (a 0) (rq a) (a 25) (rbl a) (rbc a) p (a (97 + 5 * w + 1)))) k0 ⟨c_30, Or.inr (hf_y (by omega) (by assumption))⟩ | (rw [Int.add_zero]; exact cnt_n (P := fun p => kn (a 0) (rq a) p (a (97 + 5 * w + 1)) (a (97 + 5 * w + 4)) ∧ (fb = 0 ∨ hf (a 0) (rq a) (a 25) (rbl a) (rbc a) p (a (97 + 5 * w + 1)))) k0 (fun h => c_20 (rseg_div h.1.1))) | (rw [Int.add_zero]; exact cnt_n (P := fun p => kn (a 0) (rq a) p (a (97 + 5 * w + 1)) (a (97 + 5 * w + 4)) ∧ (fb = 0 ∨ hf (a 0) (rq a) (a 25) (rbl a) (rbc a) p (a (97 + 5 * w + 1)))) k0 (fun h => c_30 h.1)) | (rw [Int.add_zero]; exact cnt_n (P := fun p => kn (a 0) (rq a) p (a (97 + 5 * w + 1)) (a (97 + 5 * w + 4)) ∧ (fb = 0 ∨ hf (a 0) (rq a) (a 25) (rbl a) (rbc a) p (a (97 + 5 * w + 1)))) k0 (fun h => h.2.elim (fun h => by omega) (fun h => hf_n3 (by omega) c_49 h)))) ?_
            refine lv_istore_n (lv' := [(3, vI (cnt (fun p => kn (a 0) (rq a) p (a (97 + 5 * w + 1)) (a (97 + 5 * w + 4)) ∧ (fb = 0 ∨ hf (a 0) (rq a) (a 25) (rbl a) (rbc a) p (a (97 + 5 * w + 1)))) (k + 1))), (4, vI k), (0, .ref ro), (1, vI w), (2, vI fb)]) F.1 F.2.1 dX7_known_58 rfl hl (by decide) rfl (fun ls hl => ?_)
            refine lv_iinc (v := iI (k + 1)) (lv' := [(4, vI (k + 1)), (3, vI (cnt (fun p => kn (a 0) (rq a) p (a (97 + 5 * w + 1)) (a (97 + 5 * w + 4)) ∧ (fb = 0 ∨ hf (a 0) (rq a) (a 25) (rbl a) (rbc a) p (a (97 + 5 * w + 1)))) (k + 1))), (0, .ref ro), (1, vI w), (2, vI fb)]) F.1 F.2.1 dX7_known_59 hl (k := 1) rfl (iinc_ok (by first | rfl | omega)) (by decide) rfl (fun ls hl => ?_)
            refine lv_goto (tgt := 5) F.1 F.2.1 dX7_known_62 (by decide) ?_
            exact ih_5 (k + 1) ⟨by omega, by omega⟩ (show ((25 - (k + 1)).toNat) < ((25 - k).toNat) by omega) ls (lv_sub hl [0, 1, 2, 3, 4] rfl)
set_option maxRecDepth 100000 in
set_option maxHeartbeats 4000000 in
theorem c_X7_knownByAll (l : Launch) (D : va_G) (cy : Nat → ClassId) (ro : Nat) (a : Int → Int) (hM : MR a) : Rd l yX7_knownByAll cX7_knownByAll 3 (some FieldType.int) 5 [.ref ro] D cy [(ro, .inl (cy 1, 118, .inl (iA a)))] (sm (fun w => knb (a 0) (rq a) (a 25) (rbl a) (rbc a) (a (97 + 5 * w + 1)) (a (97 + 5 * w + 4)) 0) (a 96)) := by
  refine Rd.of RX7 rfl [(0, .ref ro)] rfl (by decide +kernel) (Nat.le_of_ble_eq_true rfl) ?_
  intro p e s m args below meth c F hr hlocks hK hP ls hl
  have hn0 := hM.n
  have hw0 := hM.nw
  have hc0 := hM.wc
  refine rr_iconst F dX7_knownByAll_0 ?_
  refine lv_istore_n (lv' := [(1, vI 0), (0, .ref ro)]) F.1 F.2.1 dX7_knownByAll_1 rfl hl (by decide) rfl (fun ls hl => ?_)
  refine rr_iconst F dX7_knownByAll_2 ?_
  refine lv_istore_n (lv' := [(2, vI 0), (1, vI 0), (0, .ref ro)]) F.1 F.2.1 dX7_knownByAll_3 rfl hl (by decide) rfl (fun ls hl => ?_)
  refine rr_loop1 (fun k => (0 ≤ k) ∧ (k ≤ a 96)) (fun k => (5 - k).toNat) (fun k => [(2, vI k), (1, vI (sm (fun w => knb (a 0) (rq a) (a 25) (rbl a) (rbc a) (a (97 + 5 * w + 1)) (a (97 + 5 * w + 4)) 0) k)), (0, .ref ro)]) ?_ 0 ⟨by omega, by omega⟩ (lv_cv (lv_sub hl [0, 1, 2] rfl) (by rw [← show (0 : Int) = sm (fun u_w => knb (a 0) (rq a) (a 25) (rbl a) (rbc a) (a (97 + 5 * u_w + 1)) (a (97 + 5 * u_w + 4)) 0) 0 from by rfl]; rfl))
  intro k hI ih_4 ls hl
  obtain ⟨k0, k1⟩ := hI
  have hl : lv_has ls 3 [(2, vI k), (1, vI (sm (fun w => knb (a 0) (rq a) (a 25) (rbl a) (rbc a) (a (97 + 5 * w + 1)) (a (97 + 5 * w + 4)) 0) k)), (0, .ref ro)] := hl
  refine lv_iload_n F.1 F.2.1 dX7_knownByAll_4 rfl (lv_at hl 0 rfl) ?_
  refine lv_aload_n F.1 F.2.1 dX7_knownByAll_5 rfl (lv_at hl 2 rfl) ?_
  refine rr_bipush F dX7_knownByAll_6 (by decide) ?_
  refine rr_iald F hK hP 0 rfl (by omega) (by omega) (by decide) dX7_knownByAll_8 ?_
  refine rr_icmp_ge F (tgt := 27) dX7_knownByAll_9 (by decide) ⟨by omega, by omega⟩ ⟨by omega, by omega⟩ (fun c_9 => ?_) (fun c_9 => ?_)
  · refine lv_iload_n F.1 F.2.1 dX7_knownByAll_27 rfl (lv_at hl 1 rfl) ?_
    exact rr_iret F hr hlocks dX7_knownByAll_28 (by rw [show k = a 96 by omega])
  · refine lv_iload_n F.1 F.2.1 dX7_knownByAll_12 rfl (lv_at hl 1 rfl) ?_
    refine lv_aload_n F.1 F.2.1 dX7_knownByAll_13 rfl (lv_at hl 2 rfl) ?_
    refine lv_iload_n F.1 F.2.1 dX7_knownByAll_14 rfl (lv_at hl 0 rfl) ?_
    refine rr_iconst F dX7_knownByAll_15 ?_
    refine rr_rdS (rest := [vI (sm (fun w => knb (a 0) (rq a) (a 25) (rbl a) (rbc a) (a (97 + 5 * w + 1)) (a (97 + 5 * w + 4)) 0) k)]) F hK (c_X7_known l D cy ro a k 0 (by first | assumption | omega | exact ⟨by omega, by omega⟩) (by first | assumption | omega | exact ⟨by omega, by omega⟩) (by first | assumption | omega | exact ⟨by omega, by omega⟩)) hP sf_X7_known tw1082 ⟨Nat.le_of_ble_eq_true rfl, Nat.le_of_ble_eq_true rfl⟩ hl rfl (Nat.le_of_ble_eq_true rfl) dX7_knownByAll_16 ⟨Nat.zero_le _, Nat.zero_le _⟩ ?_
    have q_16_0 := (show 0 ≤ knb (a 0) (rq a) (a 25) (rbl a) (rbc a) (a (97 + 5 * k + 1)) (a (97 + 5 * k + 4)) 0 ∧ knb (a 0) (rq a) (a 25) (rbl a) (rbc a) (a (97 + 5 * k + 1)) (a (97 + 5 * k + 4)) 0 ≤ a 0 from cnt_rng _ (by omega))
    refine rr_iadd F (z := sm (fun w => knb (a 0) (rq a) (a 25) (rbl a) (rbc a) (a (97 + 5 * w + 1)) (a (97 + 5 * w + 4)) 0) (k + 1)) dX7_knownByAll_19 (sm_s _ k0) ?_
    refine lv_istore_n (lv' := [(1, vI (sm (fun w => knb (a 0) (rq a) (a 25) (rbl a) (rbc a) (a (97 + 5 * w + 1)) (a (97 + 5 * w + 4)) 0) (k + 1))), (2, vI k), (0, .ref ro)]) F.1 F.2.1 dX7_knownByAll_20 rfl hl (by decide) rfl (fun ls hl => ?_)
    refine lv_iinc (v := iI (k + 1)) (lv' := [(2, vI (k + 1)), (1, vI (sm (fun w => knb (a 0) (rq a) (a 25) (rbl a) (rbc a) (a (97 + 5 * w + 1)) (a (97 + 5 * w + 4)) 0) (k + 1))), (0, .ref ro)]) F.1 F.2.1 dX7_knownByAll_21 hl (k := 1) rfl (iinc_ok (by first | rfl | omega)) (by decide) rfl (fun ls hl => ?_)
    refine lv_goto (tgt := 4) F.1 F.2.1 dX7_knownByAll_24 (by decide) ?_
    exact ih_4 (k + 1) ⟨by omega, by omega⟩ (show ((5 - (k + 1)).toNat) < ((5 - k).toNat) by omega) ls (lv_sub hl [0, 1, 2] rfl)
set_option maxRecDepth 100000 in
set_option maxHeartbeats 4000000 in
theorem c_X7_canPlace (l : Launch) (D : va_G) (cy : Nat → ClassId) (ro : Nat) (a : Int → Int) (i : Int) (hn : 0 ≤ a 0 ∧ a 0 ≤ 24) (hi : inR i) : Rd l yX7_canPlace cX7_canPlace 2 (some FieldType.boolean) 1 [.ref ro, vI i] D cy [(ro, .inl (cy 1, 118, .inl (iA a)))] (b2i (pB (0 ≤ i ∧ i ≤ a 0 - 1))) := by
  refine Rd.of RX7 rfl [(0, .ref ro), (1, vI i)] rfl (by decide +kernel) (Nat.le_of_ble_eq_true rfl) ?_
  intro p e s m args below meth c F hr hlocks hK hP ls hl
  refine lv_iload_n F.1 F.2.1 dX7_canPlace_0 rfl (lv_at hl 1 rfl) ?_
  refine rr_iconst F dX7_canPlace_1 ?_
  refine lv_aload_n F.1 F.2.1 dX7_canPlace_2 rfl (lv_at hl 0 rfl) ?_
  refine rr_iconst F dX7_canPlace_3 ?_
  refine rr_iald F hK hP 0 rfl (by omega) (by omega) (by decide) dX7_canPlace_4 ?_
  refine rr_iconst F dX7_canPlace_5 ?_
  refine rr_isub F (z := (a 0) - 1) dX7_canPlace_6 (by first | rfl | omega) ?_
  refine rr_rdS (rest := []) F hK (c_X7_in l D cy i 0 ((a 0) - 1) (by first | assumption | omega | exact ⟨by omega, by omega⟩) (by first | assumption | omega | exact ⟨by omega, by omega⟩) (by first | assumption | omega | exact ⟨by omega, by omega⟩)) (hP.sub [] rfl) sf_X7_in tw921 ⟨Nat.le_of_ble_eq_true rfl, Nat.le_of_ble_eq_true rfl⟩ hl rfl (Nat.le_of_ble_eq_true rfl) dX7_canPlace_7 ⟨Nat.zero_le _, Nat.zero_le _⟩ ?_
  exact rr_zret F hr hlocks (b := (pB (0 ≤ i ∧ i ≤ ((a 0) - 1)))) dX7_canPlace_10 rfl (rfl)
set_option maxRecDepth 100000 in
set_option maxHeartbeats 4000000 in
theorem c_X7_isSign (l : Launch) (D : va_G) (cy : Nat → ClassId) (c0 : Int) (hi : inR c0) : Rd l yX7_isSign cX7_isSign 1 (some FieldType.boolean) 1 [vI c0] D cy [] (b2i (pB (0 ≤ c0 ∧ c0 ≤ 8))) := by
  refine Rd.of RX7 rfl [(0, vI c0)] rfl (by decide +kernel) (Nat.le_of_ble_eq_true rfl) ?_
  intro p e s m args below meth c F hr hlocks hK hP ls hl
  refine lv_iload_n F.1 F.2.1 dX7_isSign_0 rfl (lv_at hl 0 rfl) ?_
  refine rr_iconst F dX7_isSign_1 ?_
  refine rr_bipush F dX7_isSign_2 (by decide) ?_
  refine rr_rdS (rest := []) F hK (c_X7_in l D cy c0 0 8 (by first | assumption | omega | exact ⟨by omega, by omega⟩) (by first | assumption | omega | exact ⟨by omega, by omega⟩) (by first | assumption | omega | exact ⟨by omega, by omega⟩)) hP sf_X7_in tw921 ⟨Nat.le_of_ble_eq_true rfl, Nat.le_of_ble_eq_true rfl⟩ hl rfl (Nat.le_of_ble_eq_true rfl) dX7_isSign_4 ⟨Nat.zero_le _, Nat.zero_le _⟩ ?_
  exact rr_zret F hr hlocks (b := (pB (0 ≤ c0 ∧ c0 ≤ 8))) dX7_isSign_7 rfl (rfl)
set_option maxRecDepth 100000 in
set_option maxHeartbeats 4000000 in
theorem c_X7_isWay (l : Launch) (D : va_G) (cy : Nat → ClassId) (d : Int) (hi : inR d) : Rd l yX7_isWay cX7_isWay 1 (some FieldType.boolean) 1 [vI d] D cy [] (b2i (pB (0 ≤ d ∧ d ≤ 1))) := by
  refine Rd.of RX7 rfl [(0, vI d)] rfl (by decide +kernel) (Nat.le_of_ble_eq_true rfl) ?_
  intro p e s m args below meth c F hr hlocks hK hP ls hl
  refine lv_iload_n F.1 F.2.1 dX7_isWay_0 rfl (lv_at hl 0 rfl) ?_
  refine rr_iconst F dX7_isWay_1 ?_
  refine rr_iconst F dX7_isWay_2 ?_
  refine rr_rdS (rest := []) F hK (c_X7_in l D cy d 0 1 (by first | assumption | omega | exact ⟨by omega, by omega⟩) (by first | assumption | omega | exact ⟨by omega, by omega⟩) (by first | assumption | omega | exact ⟨by omega, by omega⟩)) hP sf_X7_in tw921 ⟨Nat.le_of_ble_eq_true rfl, Nat.le_of_ble_eq_true rfl⟩ hl rfl (Nat.le_of_ble_eq_true rfl) dX7_isWay_3 ⟨Nat.zero_le _, Nat.zero_le _⟩ ?_
  exact rr_zret F hr hlocks (b := (pB (0 ≤ d ∧ d ≤ 1))) dX7_isWay_6 rfl (rfl)
set_option maxRecDepth 100000 in
set_option maxHeartbeats 4000000 in
theorem c_X7_worn (l : Launch) (D : va_G) (cy : Nat → ClassId) (ro : Nat) (a : Int → Int) (hM : MR a) : Rd l yX7_worn cX7_worn 3 (some FieldType.int) 0 [.ref ro] D cy [(ro, .inl (cy 1, 118, .inl (iA a)))] (cnt (fun j => a (1 + j) = 9) (a 0)) := by
  refine Rd.of RX7 rfl [(0, .ref ro)] rfl (by decide +kernel) (Nat.le_of_ble_eq_true rfl) ?_
  intro p e s m args below meth c F hr hlocks hK hP ls hl
  have hn0 := hM.n
  have hw0 := hM.nw
  have hc0 := hM.wc
  refine rr_iconst F dX7_worn_0 ?_
  refine lv_istore_n (lv' := [(1, vI 0), (0, .ref ro)]) F.1 F.2.1 dX7_worn_1 rfl hl (by decide) rfl (fun ls hl => ?_)
  refine rr_iconst F dX7_worn_2 ?_
  refine lv_istore_n (lv' := [(2, vI 0), (1, vI 0), (0, .ref ro)]) F.1 F.2.1 dX7_worn_3 rfl hl (by decide) rfl (fun ls hl => ?_)
  refine rr_loop1 (fun k => (0 ≤ k) ∧ (k ≤ a 0)) (fun k => (25 - k).toNat) (fun k => [(2, vI k), (1, vI (cnt (fun j => a (1 + j) = 9) k)), (0, .ref ro)]) ?_ 0 ⟨by omega, by omega⟩ (lv_sub hl [0, 1, 2] rfl)
  intro k hI ih_4 ls hl
  obtain ⟨k0, k1⟩ := hI
  have hl : lv_has ls 3 [(2, vI k), (1, vI (cnt (fun j => a (1 + j) = 9) k)), (0, .ref ro)] := hl
  have cr := cnt_rng (fun j => a (1 + j) = 9) k0
  refine lv_iload_n F.1 F.2.1 dX7_worn_4 rfl (lv_at hl 0 rfl) ?_
  refine lv_aload_n F.1 F.2.1 dX7_worn_5 rfl (lv_at hl 2 rfl) ?_
  refine rr_iconst F dX7_worn_6 ?_
  refine rr_iald F hK hP 0 rfl (by omega) (by omega) (by decide) dX7_worn_7 ?_
  refine rr_icmp_ge F (tgt := 35) dX7_worn_8 (by decide) ⟨by omega, by omega⟩ ⟨by omega, by omega⟩ (fun c_8 => ?_) (fun c_8 => ?_)
  · refine lv_iload_n F.1 F.2.1 dX7_worn_35 rfl (lv_at hl 1 rfl) ?_
    exact rr_iret F hr hlocks dX7_worn_36 (by rw [show k = a 0 by omega])
  · refine lv_iload_n F.1 F.2.1 dX7_worn_11 rfl (lv_at hl 1 rfl) ?_
    refine lv_aload_n F.1 F.2.1 dX7_worn_12 rfl (lv_at hl 2 rfl) ?_
    refine rr_iconst F dX7_worn_13 ?_
    refine lv_iload_n F.1 F.2.1 dX7_worn_14 rfl (lv_at hl 0 rfl) ?_
    refine rr_iadd F (z := 1 + k) dX7_worn_15 (by first | rfl | omega) ?_
    refine rr_iald F hK hP 0 rfl (by omega) (by omega) (by decide) dX7_worn_16 ?_
    refine rr_bipush F dX7_worn_17 (by decide) ?_
    have qq := hM.q k0 c_8
    refine rr_icmp_ne F (tgt := 26) dX7_worn_19 (by decide) ⟨by omega, by omega⟩ ⟨by omega, by omega⟩ (fun c_19 => ?_) (fun c_19 => ?_)
    · refine rr_iconst F dX7_worn_26 ?_
      refine rr_iadd F (z := cnt (fun j => a (1 + j) = 9) (k + 1)) dX7_worn_27 (by first | exact cnt_y (P := fun j => a (1 + j) = 9) k0 (by assumption) | (rw [Int.add_zero]; exact cnt_n (P := fun j => a (1 + j) = 9) k0 (by assumption))) ?_
      refine lv_istore_n (lv' := [(1, vI (cnt (fun j => a (1 + j) = 9) (k + 1))), (2, vI k), (0, .ref ro)]) F.1 F.2.1 dX7_worn_28 rfl hl (by decide) rfl (fun ls hl => ?_)
      refine lv_iinc (v := iI (k + 1)) (lv' := [(2, vI (k + 1)), (1, vI (cnt (fun j => a (1 + j) = 9) (k + 1))), (0, .ref ro)]) F.1 F.2.1 dX7_worn_29 hl (k := 1) rfl (iinc_ok (by first | rfl | omega)) (by decide) rfl (fun ls hl => ?_)
      refine lv_goto (tgt := 4) F.1 F.2.1 dX7_worn_32 (by decide) ?_
      exact ih_4 (k + 1) ⟨by omega, by omega⟩ (show ((25 - (k + 1)).toNat) < ((25 - k).toNat) by omega) ls (lv_sub hl [0, 1, 2] rfl)
    · refine rr_iconst F dX7_worn_22 ?_
      refine lv_goto (tgt := 27) F.1 F.2.1 dX7_worn_23 (by decide) ?_
      refine rr_iadd F (z := cnt (fun j => a (1 + j) = 9) (k + 1)) dX7_worn_27 (by first | exact cnt_y (P := fun j => a (1 + j) = 9) k0 (by assumption) | (rw [Int.add_zero]; exact cnt_n (P := fun j => a (1 + j) = 9) k0 (by assumption))) ?_
      refine lv_istore_n (lv' := [(1, vI (cnt (fun j => a (1 + j) = 9) (k + 1))), (2, vI k), (0, .ref ro)]) F.1 F.2.1 dX7_worn_28 rfl hl (by decide) rfl (fun ls hl => ?_)
      refine lv_iinc (v := iI (k + 1)) (lv' := [(2, vI (k + 1)), (1, vI (cnt (fun j => a (1 + j) = 9) (k + 1))), (0, .ref ro)]) F.1 F.2.1 dX7_worn_29 hl (k := 1) rfl (iinc_ok (by first | rfl | omega)) (by decide) rfl (fun ls hl => ?_)
      refine lv_goto (tgt := 4) F.1 F.2.1 dX7_worn_32 (by decide) ?_
      exact ih_4 (k + 1) ⟨by omega, by omega⟩ (show ((25 - (k + 1)).toNat) < ((25 - k).toNat) by omega) ls (lv_sub hl [0, 1, 2] rfl)
set_option maxRecDepth 100000 in
set_option maxHeartbeats 4000000 in
theorem c_X7_codeOf (l : Launch) (D : va_G) (cy : Nat → ClassId) (x : Int) (hx : 0 ≤ x ∧ x ≤ 9) : Rd l yX7_codeOf cX7_codeOf 1 (some FieldType.int) 0 [vI x] D cy [] (sc x) := by
  refine Rd.of RX7 rfl [(0, vI x)] rfl (by decide +kernel) (Nat.le_of_ble_eq_true rfl) ?_
  intro p e s m args below meth c F hr hlocks hK hP ls hl
  refine lv_iload_n F.1 F.2.1 dX7_codeOf_0 rfl (lv_at hl 0 rfl) ?_
  refine rr_if_ne F (tgt := 9) dX7_codeOf_1 (by decide) ⟨by omega, by omega⟩ (fun c_1 => ?_) (fun c_1 => ?_)
  · refine lv_iload_n F.1 F.2.1 dX7_codeOf_9 rfl (lv_at hl 0 rfl) ?_
    refine rr_bipush F dX7_codeOf_10 (by decide) ?_
    refine rr_icmp_ne F (tgt := 20) dX7_codeOf_12 (by decide) ⟨by omega, by omega⟩ ⟨by omega, by omega⟩ (fun c_12 => ?_) (fun c_12 => ?_)
    · refine rr_bipush F dX7_codeOf_20 (by decide) ?_
      refine lv_iload_n F.1 F.2.1 dX7_codeOf_22 rfl (lv_at hl 0 rfl) ?_
      refine rr_iadd F (z := 97 + x) dX7_codeOf_23 (by first | rfl | omega) ?_
      refine rr_iconst F dX7_codeOf_24 ?_
      refine rr_isub F (z := (97 + x) - 1) dX7_codeOf_25 (by first | rfl | omega) ?_
      exact rr_iret F hr hlocks dX7_codeOf_26 (by unfold sc; first | rw [if_pos (by assumption)] | (rw [if_neg (by assumption), if_pos (by assumption)]) | (rw [if_neg (by assumption), if_neg (by assumption)]; omega))
    · refine rr_bipush F dX7_codeOf_15 (by decide) ?_
      refine lv_goto (tgt := 26) F.1 F.2.1 dX7_codeOf_17 (by decide) ?_
      exact rr_iret F hr hlocks dX7_codeOf_26 (by unfold sc; first | rw [if_pos (by assumption)] | (rw [if_neg (by assumption), if_pos (by assumption)]) | (rw [if_neg (by assumption), if_neg (by assumption)]; omega))
  · refine rr_bipush F dX7_codeOf_4 (by decide) ?_
    refine lv_goto (tgt := 26) F.1 F.2.1 dX7_codeOf_6 (by decide) ?_
    exact rr_iret F hr hlocks dX7_codeOf_26 (by unfold sc; first | rw [if_pos (by assumption)] | (rw [if_neg (by assumption), if_pos (by assumption)]) | (rw [if_neg (by assumption), if_neg (by assumption)]; omega))
