set_option maxRecDepth 100000 in
set_option maxHeartbeats 4000000 in
theorem c_X2_isFull (l : Launch) (D : va_G) (cy : Nat → ClassId) (r sg : Nat) (n : Int) (g q : Int → Int) (hG : RG n g q) : Rd l yX2_isFull cX2_isFull 1 (some FieldType.boolean) 0 [.ref r] D cy [(r, .inr (2, [.ref sg, vI n])), (sg, .inl (cy 0, 24, .inl (iA g)))] (b2i (pB (24 ≤ n))) := by
  refine Rd.of RX2 rfl [(0, .ref r)] rfl (by decide +kernel) (Nat.le_of_ble_eq_true rfl) ?_
  intro p e s m args below meth c F hr hlocks hK hP ls hl
  have hn0 := hG.1
  have hn1 := hG.2.1
  refine lv_aload_n F.1 F.2.1 dX2_isFull_0 rfl (lv_at hl 0 rfl) ?_
  refine gf2_1 F hK hP 0 rfl tw57 dX2_isFull_1 ?_
  refine rr_bipush F dX2_isFull_4 (by decide) ?_
  refine rr_icmp_lt F (tgt := 13) dX2_isFull_6 (by decide) ⟨by omega, by omega⟩ ⟨by omega, by omega⟩ (fun c_6 => ?_) (fun c_6 => ?_)
  · refine rr_iconst F dX2_isFull_13 ?_
    exact rr_zret F hr hlocks (b := false) dX2_isFull_14 rfl (b2i_f (by omega))
  · refine rr_iconst F dX2_isFull_9 ?_
    refine lv_goto (tgt := 14) F.1 F.2.1 dX2_isFull_10 (by decide) ?_
    exact rr_zret F hr hlocks (b := true) dX2_isFull_14 rfl (b2i_t (by omega))
set_option maxRecDepth 100000 in
set_option maxHeartbeats 4000000 in
theorem c_X2_hasPlace (l : Launch) (D : va_G) (cy : Nat → ClassId) (r sg : Nat) (n : Int) (g q : Int → Int) (i : Int) (hG : RG n g q) (hi : inR i) : Rd l yX2_hasPlace cX2_hasPlace 2 (some FieldType.boolean) 0 [.ref r, vI i] D cy [(r, .inr (2, [.ref sg, vI n])), (sg, .inl (cy 0, 24, .inl (iA g)))] (b2i (pB (0 ≤ i ∧ i < n))) := by
  refine Rd.of RX2 rfl [(0, .ref r), (1, vI i)] rfl (by decide +kernel) (Nat.le_of_ble_eq_true rfl) ?_
  intro p e s m args below meth c F hr hlocks hK hP ls hl
  have hn0 := hG.1
  have hn1 := hG.2.1
  refine lv_iload_n F.1 F.2.1 dX2_hasPlace_0 rfl (lv_at hl 1 rfl) ?_
  refine rr_if_lt F (tgt := 16) dX2_hasPlace_1 (by decide) hi (fun c_1 => ?_) (fun c_1 => ?_)
  · refine rr_iconst F dX2_hasPlace_16 ?_
    exact rr_zret F hr hlocks (b := false) dX2_hasPlace_17 rfl (b2i_f (by omega))
  · refine lv_iload_n F.1 F.2.1 dX2_hasPlace_4 rfl (lv_at hl 1 rfl) ?_
    refine lv_aload_n F.1 F.2.1 dX2_hasPlace_5 rfl (lv_at hl 0 rfl) ?_
    refine gf2_1 F hK hP 0 rfl tw57 dX2_hasPlace_6 ?_
    refine rr_icmp_ge F (tgt := 16) dX2_hasPlace_9 (by decide) hi ⟨by omega, by omega⟩ (fun c_9 => ?_) (fun c_9 => ?_)
    · refine rr_iconst F dX2_hasPlace_16 ?_
      exact rr_zret F hr hlocks (b := false) dX2_hasPlace_17 rfl (b2i_f (by omega))
    · refine rr_iconst F dX2_hasPlace_12 ?_
      refine lv_goto (tgt := 17) F.1 F.2.1 dX2_hasPlace_13 (by decide) ?_
      exact rr_zret F hr hlocks (b := true) dX2_hasPlace_17 rfl (b2i_t (by omega))
set_option maxRecDepth 100000 in
set_option maxHeartbeats 4000000 in
theorem c_X2_signAt (l : Launch) (D : va_G) (cy : Nat → ClassId) (r sg : Nat) (n : Int) (g q : Int → Int) (i : Int) (hG : RG n g q) (h0 : 0 ≤ i) (h1 : i < n) : Rd l yX2_signAt cX2_signAt 2 (some FieldType.char) 0 [.ref r, vI i] D cy [(r, .inr (2, [.ref sg, vI n])), (sg, .inl (cy 0, 24, .inl (iA g)))] (sc (q i)) := by
  refine Rd.of RX2 rfl [(0, .ref r), (1, vI i)] rfl (by decide +kernel) (Nat.le_of_ble_eq_true rfl) ?_
  intro p e s m args below meth c F hr hlocks hK hP ls hl
  have hn0 := hG.1
  have hn1 := hG.2.1
  have hi := hG.at h0 h1
  refine lv_iload_n F.1 F.2.1 dX2_signAt_0 rfl (lv_at hl 1 rfl) ?_
  refine rr_if_lt F (tgt := 21) dX2_signAt_1 (by decide) ⟨by omega, by omega⟩ (fun c_1 => ?_) (fun c_1 => ?_)
  · exfalso; omega
  · refine lv_iload_n F.1 F.2.1 dX2_signAt_4 rfl (lv_at hl 1 rfl) ?_
    refine lv_aload_n F.1 F.2.1 dX2_signAt_5 rfl (lv_at hl 0 rfl) ?_
    refine gf2_1 F hK hP 0 rfl tw57 dX2_signAt_6 ?_
    refine rr_icmp_ge F (tgt := 21) dX2_signAt_9 (by decide) ⟨by omega, by omega⟩ ⟨by omega, by omega⟩ (fun c_9 => ?_) (fun c_9 => ?_)
    · exfalso; omega
    · refine lv_aload_n F.1 F.2.1 dX2_signAt_12 rfl (lv_at hl 0 rfl) ?_
      refine gf2_0 F hK hP 0 rfl tw56 dX2_signAt_13 ?_
      refine lv_iload_n F.1 F.2.1 dX2_signAt_16 rfl (lv_at hl 1 rfl) ?_
      refine rr_cald F hK hP 1 rfl (by omega) (by omega) (by decide) dX2_signAt_17 ?_
      refine lv_goto (tgt := 23) F.1 F.2.1 dX2_signAt_18 (by decide) ?_
      exact rr_cret F hr hlocks dX2_signAt_23 ⟨by omega, by omega⟩ (hi.1)
set_option maxRecDepth 100000 in
set_option maxHeartbeats 4000000 in
theorem c_X2_isDivider (l : Launch) (D : va_G) (cy : Nat → ClassId) (r sg : Nat) (n : Int) (g q : Int → Int) (i : Int) (hG : RG n g q) (h0 : 0 ≤ i) (h1 : i < n) : Rd l yX2_isDivider cX2_isDivider 2 (some FieldType.boolean) 0 [.ref r, vI i] D cy [(r, .inr (2, [.ref sg, vI n])), (sg, .inl (cy 0, 24, .inl (iA g)))] (b2i (pB (q i = 0))) := by
  refine Rd.of RX2 rfl [(0, .ref r), (1, vI i)] rfl (by decide +kernel) (Nat.le_of_ble_eq_true rfl) ?_
  intro p e s m args below meth c F hr hlocks hK hP ls hl
  have hn0 := hG.1
  have hn1 := hG.2.1
  have hi := hG.at h0 h1
  have hi2 := sc_0 hi.2.1
  refine lv_iload_n F.1 F.2.1 dX2_isDivider_0 rfl (lv_at hl 1 rfl) ?_
  refine rr_if_lt F (tgt := 27) dX2_isDivider_1 (by decide) ⟨by omega, by omega⟩ (fun c_1 => ?_) (fun c_1 => ?_)
  · exfalso; omega
  · refine lv_iload_n F.1 F.2.1 dX2_isDivider_4 rfl (lv_at hl 1 rfl) ?_
    refine lv_aload_n F.1 F.2.1 dX2_isDivider_5 rfl (lv_at hl 0 rfl) ?_
    refine gf2_1 F hK hP 0 rfl tw57 dX2_isDivider_6 ?_
    refine rr_icmp_ge F (tgt := 27) dX2_isDivider_9 (by decide) ⟨by omega, by omega⟩ ⟨by omega, by omega⟩ (fun c_9 => ?_) (fun c_9 => ?_)
    · exfalso; omega
    · refine lv_aload_n F.1 F.2.1 dX2_isDivider_12 rfl (lv_at hl 0 rfl) ?_
      refine gf2_0 F hK hP 0 rfl tw56 dX2_isDivider_13 ?_
      refine lv_iload_n F.1 F.2.1 dX2_isDivider_16 rfl (lv_at hl 1 rfl) ?_
      refine rr_cald F hK hP 1 rfl (by omega) (by omega) (by decide) dX2_isDivider_17 ?_
      refine rr_bipush F dX2_isDivider_18 (by decide) ?_
      refine rr_icmp_ne F (tgt := 27) dX2_isDivider_20 (by decide) ⟨by omega, by omega⟩ ⟨by omega, by omega⟩ (fun c_20 => ?_) (fun c_20 => ?_)
      · refine rr_iconst F dX2_isDivider_27 ?_
        exact rr_zret F hr hlocks (b := false) dX2_isDivider_28 rfl (b2i_f (by omega))
      · refine rr_iconst F dX2_isDivider_23 ?_
        refine lv_goto (tgt := 28) F.1 F.2.1 dX2_isDivider_24 (by decide) ?_
        exact rr_zret F hr hlocks (b := true) dX2_isDivider_28 rfl (b2i_t (by omega))
set_option maxRecDepth 100000 in
set_option maxHeartbeats 4000000 in
theorem c_X2_onward (l : Launch) (D : va_G) (cy : Nat → ClassId) (r sg : Nat) (n : Int) (g q : Int → Int) (pl di ds : Int) (hG : RG n g q) (h0 : 0 ≤ pl ∧ pl < n) (hd : 0 ≤ di ∧ di ≤ 1) (hk : 0 ≤ ds ∧ ds ≤ 1000) : Rd l yX2_onward cX2_onward 5 (some FieldType.int) 0 [.ref r, vI pl, vI di, vI ds] D cy [(r, .inr (2, [.ref sg, vI n])), (sg, .inl (cy 0, 24, .inl (iA g)))] (off n pl di ds) := by
  refine Rd.of RX2 rfl [(0, .ref r), (1, vI pl), (2, vI di), (3, vI ds)] rfl (by decide +kernel) (Nat.le_of_ble_eq_true rfl) ?_
  intro p e s m args below meth c F hr hlocks hK hP ls hl
  have hn0 := hG.1
  have hn1 := hG.2.1
  refine lv_aload_n F.1 F.2.1 dX2_onward_0 rfl (lv_at hl 0 rfl) ?_
  refine gf2_1 F hK hP 0 rfl tw57 dX2_onward_1 ?_
  refine rr_if_gt F (tgt := 9) dX2_onward_4 (by decide) ⟨by omega, by omega⟩ (fun c_4 => ?_) (fun c_4 => ?_)
  · refine lv_iload_n F.1 F.2.1 dX2_onward_9 rfl (lv_at hl 2 rfl) ?_
    refine rr_if_ne F (tgt := 19) dX2_onward_10 (by decide) ⟨by omega, by omega⟩ (fun c_10 => ?_) (fun c_10 => ?_)
    · refine lv_iload_n F.1 F.2.1 dX2_onward_19 rfl (lv_at hl 1 rfl) ?_
      refine lv_iload_n F.1 F.2.1 dX2_onward_20 rfl (lv_at hl 3 rfl) ?_
      refine rr_isub F (z := pl - ds) dX2_onward_21 (by first | rfl | omega) ?_
      refine lv_aload_n F.1 F.2.1 dX2_onward_22 rfl (lv_at hl 0 rfl) ?_
      refine gf2_1 F hK hP 0 rfl tw57 dX2_onward_23 ?_
      have hR := tmod_rng (n := n) (show 0 < n by omega) (a := pl + ds)
      have hR2 := tmod_rng (n := n) (show 0 < n by omega) (a := pl - ds)
      refine rr_irem F (z := (pl - ds).tmod n) dX2_onward_26 ⟨by omega, by omega⟩ ⟨by omega, by omega⟩ (rfl) ?_
      refine lv_istore (lv' := [(4, vI ((pl - ds).tmod n)), (0, .ref r), (1, vI pl), (2, vI di), (3, vI ds)]) F.1 F.2.1 dX2_onward_27 hl (by decide) rfl (fun ls hl => ?_)
      refine lv_iload F.1 F.2.1 dX2_onward_29 (lv_at hl 0 rfl) ?_
      refine rr_if_ge F (tgt := 44) dX2_onward_31 (by decide) ⟨by omega, by omega⟩ (fun c_31 => ?_) (fun c_31 => ?_)
      · refine lv_iload F.1 F.2.1 dX2_onward_44 (lv_at hl 0 rfl) ?_
        exact rr_iret F hr hlocks dX2_onward_46 (by first | exact off_a (by assumption) (by omega) (by omega) | exact off_b (by omega) (by assumption) (by assumption) | exact off_c (by omega) (by assumption) (by assumption) | (exfalso; have e := tmod_pos (a := pl + ds) (n := n) (by omega); have e2 := Int.emod_nonneg (pl + ds) (show n ≠ 0 by omega); omega))
      · refine lv_iload F.1 F.2.1 dX2_onward_34 (lv_at hl 0 rfl) ?_
        refine lv_aload_n F.1 F.2.1 dX2_onward_36 rfl (lv_at hl 1 rfl) ?_
        refine gf2_1 F hK hP 0 rfl tw57 dX2_onward_37 ?_
        refine rr_iadd F (z := ((pl - ds).tmod n) + n) dX2_onward_40 (by first | rfl | omega) ?_
        refine lv_goto (tgt := 46) F.1 F.2.1 dX2_onward_41 (by decide) ?_
        exact rr_iret F hr hlocks dX2_onward_46 (by first | exact off_a (by assumption) (by omega) (by omega) | exact off_b (by omega) (by assumption) (by assumption) | exact off_c (by omega) (by assumption) (by assumption) | (exfalso; have e := tmod_pos (a := pl + ds) (n := n) (by omega); have e2 := Int.emod_nonneg (pl + ds) (show n ≠ 0 by omega); omega))
    · refine lv_iload_n F.1 F.2.1 dX2_onward_13 rfl (lv_at hl 1 rfl) ?_
      refine lv_iload_n F.1 F.2.1 dX2_onward_14 rfl (lv_at hl 3 rfl) ?_
      refine rr_iadd F (z := pl + ds) dX2_onward_15 (by first | rfl | omega) ?_
      refine lv_goto (tgt := 22) F.1 F.2.1 dX2_onward_16 (by decide) ?_
      refine lv_aload_n F.1 F.2.1 dX2_onward_22 rfl (lv_at hl 0 rfl) ?_
      refine gf2_1 F hK hP 0 rfl tw57 dX2_onward_23 ?_
      have hR := tmod_rng (n := n) (show 0 < n by omega) (a := pl + ds)
      have hR2 := tmod_rng (n := n) (show 0 < n by omega) (a := pl - ds)
      refine rr_irem F (z := (pl + ds).tmod n) dX2_onward_26 ⟨by omega, by omega⟩ ⟨by omega, by omega⟩ (rfl) ?_
      refine lv_istore (lv' := [(4, vI ((pl + ds).tmod n)), (0, .ref r), (1, vI pl), (2, vI di), (3, vI ds)]) F.1 F.2.1 dX2_onward_27 hl (by decide) rfl (fun ls hl => ?_)
      refine lv_iload F.1 F.2.1 dX2_onward_29 (lv_at hl 0 rfl) ?_
      refine rr_if_ge F (tgt := 44) dX2_onward_31 (by decide) ⟨by omega, by omega⟩ (fun c_31 => ?_) (fun c_31 => ?_)
      · refine lv_iload F.1 F.2.1 dX2_onward_44 (lv_at hl 0 rfl) ?_
        exact rr_iret F hr hlocks dX2_onward_46 (by first | exact off_a (by assumption) (by omega) (by omega) | exact off_b (by omega) (by assumption) (by assumption) | exact off_c (by omega) (by assumption) (by assumption) | (exfalso; have e := tmod_pos (a := pl + ds) (n := n) (by omega); have e2 := Int.emod_nonneg (pl + ds) (show n ≠ 0 by omega); omega))
      · refine lv_iload F.1 F.2.1 dX2_onward_34 (lv_at hl 0 rfl) ?_
        refine lv_aload_n F.1 F.2.1 dX2_onward_36 rfl (lv_at hl 1 rfl) ?_
        refine gf2_1 F hK hP 0 rfl tw57 dX2_onward_37 ?_
        refine rr_iadd F (z := ((pl + ds).tmod n) + n) dX2_onward_40 (by first | rfl | omega) ?_
        refine lv_goto (tgt := 46) F.1 F.2.1 dX2_onward_41 (by decide) ?_
        exact rr_iret F hr hlocks dX2_onward_46 (by first | exact off_a (by assumption) (by omega) (by omega) | exact off_b (by omega) (by assumption) (by assumption) | exact off_c (by omega) (by assumption) (by assumption) | (exfalso; have e := tmod_pos (a := pl + ds) (n := n) (by omega); have e2 := Int.emod_nonneg (pl + ds) (show n ≠ 0 by omega); omega))
  · exfalso; omega
set_option maxRecDepth 100000 in
set_option maxHeartbeats 4000000 in
theorem c_X2_countOf (l : Launch) (D : va_G) (cy : Nat → ClassId) (r sg : Nat) (n : Int) (g q : Int → Int) (ch : Int) (hG : RG n g q) (hc : inR ch) : Rd l yX2_countOf cX2_countOf 4 (some FieldType.int) 0 [.ref r, vI ch] D cy [(r, .inr (2, [.ref sg, vI n])), (sg, .inl (cy 0, 24, .inl (iA g)))] (cnt (fun j => g j = ch) n) := by
  refine Rd.of RX2 rfl [(0, .ref r), (1, vI ch)] rfl (by decide +kernel) (Nat.le_of_ble_eq_true rfl) ?_
  intro p e s m args below meth c F hr hlocks hK hP ls hl
  have hn0 := hG.1
  have hn1 := hG.2.1
  refine rr_iconst F dX2_countOf_0 ?_
  refine lv_istore_n (lv' := [(2, vI 0), (0, .ref r), (1, vI ch)]) F.1 F.2.1 dX2_countOf_1 rfl hl (by decide) rfl (fun ls hl => ?_)
  refine rr_iconst F dX2_countOf_2 ?_
  refine lv_istore_n (lv' := [(3, vI 0), (2, vI 0), (0, .ref r), (1, vI ch)]) F.1 F.2.1 dX2_countOf_3 rfl hl (by decide) rfl (fun ls hl => ?_)
  refine rr_loop1 (fun k => (0 ≤ k) ∧ (k ≤ n)) (fun k => (n - k).toNat) (fun k => [(3, vI k), (2, vI (cnt (fun j => g j = ch) k)), (0, .ref r), (1, vI ch)]) ?_ 0 ⟨by omega, by omega⟩ (lv_sub hl [0, 1, 2, 3] rfl)
  intro k hI ih_4 ls hl
  obtain ⟨k0, k1⟩ := hI
  have hl : lv_has ls 4 [(3, vI k), (2, vI (cnt (fun j => g j = ch) k)), (0, .ref r), (1, vI ch)] := hl
  refine lv_iload_n F.1 F.2.1 dX2_countOf_4 rfl (lv_at hl 0 rfl) ?_
  refine lv_aload_n F.1 F.2.1 dX2_countOf_5 rfl (lv_at hl 2 rfl) ?_
  refine gf2_1 F hK hP 0 rfl tw57 dX2_countOf_6 ?_
  refine rr_icmp_ge F (tgt := 31) dX2_countOf_9 (by decide) ⟨by omega, by omega⟩ ⟨by omega, by omega⟩ (fun c_9 => ?_) (fun c_9 => ?_)
  · refine lv_iload_n F.1 F.2.1 dX2_countOf_31 rfl (lv_at hl 1 rfl) ?_
    exact rr_iret F hr hlocks dX2_countOf_32 (by rw [show k = n by omega])
  · refine lv_aload_n F.1 F.2.1 dX2_countOf_12 rfl (lv_at hl 2 rfl) ?_
    refine gf2_0 F hK hP 0 rfl tw56 dX2_countOf_13 ?_
    refine lv_iload_n F.1 F.2.1 dX2_countOf_16 rfl (lv_at hl 0 rfl) ?_
    refine rr_cald F hK hP 1 rfl (by omega) (by omega) (by decide) dX2_countOf_17 ?_
    refine lv_iload_n F.1 F.2.1 dX2_countOf_18 rfl (lv_at hl 3 rfl) ?_
    have hi := hG.at k0 c_9
    refine rr_icmp_ne F (tgt := 25) dX2_countOf_19 (by decide) ⟨by omega, by omega⟩ hc (fun c_19 => ?_) (fun c_19 => ?_)
    · refine lv_iinc (v := iI (k + 1)) (lv' := [(3, vI (k + 1)), (2, vI (cnt (fun j => g j = ch) k)), (0, .ref r), (1, vI ch)]) F.1 F.2.1 dX2_countOf_25 hl (k := 0) rfl (iinc_ok (by first | rfl | omega)) (by decide) rfl (fun ls hl => ?_)
      refine lv_goto (tgt := 4) F.1 F.2.1 dX2_countOf_28 (by decide) ?_
      exact ih_4 (k + 1) ⟨by omega, by omega⟩ (show ((n - (k + 1)).toNat) < ((n - k).toNat) by omega) ls (lv_cv (lv_sub hl [0, 1, 2, 3] rfl) (by rw [← show (cnt (fun j => g j = ch) k : Int) = cnt (fun u_j => g u_j = ch) (k + 1) from by first | exact cnt_n (P := fun j => g j = ch) k0 (by assumption) | exact cnt_y (P := fun j => g j = ch) k0 (by assumption)]; rfl))
    · refine lv_iinc (v := iI ((cnt (fun j => g j = ch) k) + 1)) (lv' := [(2, vI ((cnt (fun j => g j = ch) k) + 1)), (3, vI k), (0, .ref r), (1, vI ch)]) F.1 F.2.1 dX2_countOf_22 hl (k := 1) rfl (iinc_ok (by first | rfl | omega)) (by decide) rfl (fun ls hl => ?_)
      refine lv_iinc (v := iI (k + 1)) (lv' := [(3, vI (k + 1)), (2, vI ((cnt (fun j => g j = ch) k) + 1)), (0, .ref r), (1, vI ch)]) F.1 F.2.1 dX2_countOf_25 hl (k := 1) rfl (iinc_ok (by first | rfl | omega)) (by decide) rfl (fun ls hl => ?_)
      refine lv_goto (tgt := 4) F.1 F.2.1 dX2_countOf_28 (by decide) ?_
      exact ih_4 (k + 1) ⟨by omega, by omega⟩ (show ((n - (k + 1)).toNat) < ((n - k).toNat) by omega) ls (lv_cv (lv_sub hl [0, 1, 2, 3] rfl) (by rw [← show ((cnt (fun j => g j = ch) k) + 1 : Int) = cnt (fun u_j => g u_j = ch) (k + 1) from by first | exact cnt_n (P := fun j => g j = ch) k0 (by assumption) | exact cnt_y (P := fun j => g j = ch) k0 (by assumption)]; rfl))
set_option maxRecDepth 100000 in
set_option maxHeartbeats 4000000 in
theorem c_X2_readsLess (l : Launch) (D : va_G) (cy : Nat → ClassId) (r sg : Nat) (n : Int) (g q : Int → Int) (a b : Int) (hG : RG n g q) (ha : 0 ≤ a ∧ a < n) (hb : 0 ≤ b ∧ b < n) : Rd l yX2_readsLess cX2_readsLess 5 (some FieldType.boolean) 1 [.ref r, vI a, vI b] D cy [(r, .inr (2, [.ref sg, vI n])), (sg, .inl (cy 0, 24, .inl (iA g)))] (b2i (pB (lss n q a b < 0))) := by
  refine Rd.of RX2 rfl [(0, .ref r), (1, vI a), (2, vI b)] rfl (by decide +kernel) (Nat.le_of_ble_eq_true rfl) ?_
  intro p e s m args below meth c F hr hlocks hK hP ls hl
  have hn0 := hG.1
  have hn1 := hG.2.1
  refine rr_iconst F dX2_readsLess_0 ?_
  refine lv_istore_n (lv' := [(3, vI 0), (0, .ref r), (1, vI a), (2, vI b)]) F.1 F.2.1 dX2_readsLess_1 rfl hl (by decide) rfl (fun ls hl => ?_)
  refine rr_loop1 (fun k => (0 ≤ k) ∧ (k ≤ n) ∧ (∀ j, 0 ≤ j → j < k → q (off n a 0 j) = q (off n b 0 j))) (fun k => (n - k).toNat) (fun k => [(3, vI k), (0, .ref r), (1, vI a), (2, vI b)]) ?_ 0 ⟨by omega, by omega, fun j x y => by omega⟩ (lv_sub hl [0, 1, 2, 3] rfl)
  intro k hI ih_2 ls hl
  obtain ⟨k0, k1, kq⟩ := hI
  have hl : lv_has ls 5 [(3, vI k), (0, .ref r), (1, vI a), (2, vI b)] := hl
  refine lv_iload_n F.1 F.2.1 dX2_readsLess_2 rfl (lv_at hl 0 rfl) ?_
  refine lv_aload_n F.1 F.2.1 dX2_readsLess_3 rfl (lv_at hl 1 rfl) ?_
  refine gf2_1 F hK hP 0 rfl tw57 dX2_readsLess_4 ?_
  refine rr_icmp_ge F (tgt := 57) dX2_readsLess_7 (by decide) ⟨by omega, by omega⟩ ⟨by omega, by omega⟩ (fun c_7 => ?_) (fun c_7 => ?_)
  · refine rr_iconst F dX2_readsLess_57 ?_
    exact rr_zret F hr hlocks (b := false) dX2_readsLess_58 rfl (b2i_f (by rw [lss_miss hn0 (fun j x y => kq j x (by omega))]; omega))
  · refine lv_aload_n F.1 F.2.1 dX2_readsLess_10 rfl (lv_at hl 1 rfl) ?_
    refine lv_aload_n F.1 F.2.1 dX2_readsLess_11 rfl (lv_at hl 1 rfl) ?_
    refine lv_iload_n F.1 F.2.1 dX2_readsLess_12 rfl (lv_at hl 2 rfl) ?_
    refine rr_iconst F dX2_readsLess_13 ?_
    refine lv_iload_n F.1 F.2.1 dX2_readsLess_14 rfl (lv_at hl 0 rfl) ?_
    refine rr_rdV (rest := [.ref r]) F hK (c_X2_onward l D cy r sg n g q a 0 k (by first | assumption | omega | exact ⟨by omega, by omega⟩) (by first | assumption | omega | exact ⟨by omega, by omega⟩) (by first | assumption | omega | exact ⟨by omega, by omega⟩) (by first | assumption | omega | exact ⟨by omega, by omega⟩)) hP sf_X2_onward tw227 2 rfl rfl ⟨Nat.le_of_ble_eq_true rfl, Nat.le_of_ble_eq_true rfl⟩ hl rfl (Nat.le_of_ble_eq_true rfl) dX2_readsLess_15 ⟨Nat.zero_le _, Nat.zero_le _⟩ ?_
    have q_15_0 := (off_rng (n := n) (by omega) a 0 k)
    refine rr_rdV (rest := []) F hK (c_X2_signAt l D cy r sg n g q (off n a 0 k) (by first | assumption | omega | exact ⟨by omega, by omega⟩) (by first | assumption | omega | exact ⟨by omega, by omega⟩) (by first | assumption | omega | exact ⟨by omega, by omega⟩)) hP sf_X2_signAt tw384 2 rfl rfl ⟨Nat.le_of_ble_eq_true rfl, Nat.le_of_ble_eq_true rfl⟩ hl rfl (Nat.le_of_ble_eq_true rfl) dX2_readsLess_18 ⟨Nat.zero_le _, Nat.zero_le _⟩ ?_
    have q_18_0 := (RG.at hG (j := (off n a 0 k)) (by first | assumption | omega) (by first | assumption | omega))
    refine lv_aload_n F.1 F.2.1 dX2_readsLess_21 rfl (lv_at hl 1 rfl) ?_
    refine lv_aload_n F.1 F.2.1 dX2_readsLess_22 rfl (lv_at hl 1 rfl) ?_
    refine lv_iload_n F.1 F.2.1 dX2_readsLess_23 rfl (lv_at hl 3 rfl) ?_
    refine rr_iconst F dX2_readsLess_24 ?_
    refine lv_iload_n F.1 F.2.1 dX2_readsLess_25 rfl (lv_at hl 0 rfl) ?_
    refine rr_rdV (rest := [.ref r, vI (sc (q (off n a 0 k)))]) F hK (c_X2_onward l D cy r sg n g q b 0 k (by first | assumption | omega | exact ⟨by omega, by omega⟩) (by first | assumption | omega | exact ⟨by omega, by omega⟩) (by first | assumption | omega | exact ⟨by omega, by omega⟩) (by first | assumption | omega | exact ⟨by omega, by omega⟩)) hP sf_X2_onward tw227 2 rfl rfl ⟨Nat.le_of_ble_eq_true rfl, Nat.le_of_ble_eq_true rfl⟩ hl rfl (Nat.le_of_ble_eq_true rfl) dX2_readsLess_26 ⟨Nat.zero_le _, Nat.zero_le _⟩ ?_
    have q_26_0 := (off_rng (n := n) (by omega) b 0 k)
    refine rr_rdV (rest := [vI (sc (q (off n a 0 k)))]) F hK (c_X2_signAt l D cy r sg n g q (off n b 0 k) (by first | assumption | omega | exact ⟨by omega, by omega⟩) (by first | assumption | omega | exact ⟨by omega, by omega⟩) (by first | assumption | omega | exact ⟨by omega, by omega⟩)) hP sf_X2_signAt tw384 2 rfl rfl ⟨Nat.le_of_ble_eq_true rfl, Nat.le_of_ble_eq_true rfl⟩ hl rfl (Nat.le_of_ble_eq_true rfl) dX2_readsLess_29 ⟨Nat.zero_le _, Nat.zero_le _⟩ ?_
    have q_29_0 := (RG.at hG (j := (off n b 0 k)) (by first | assumption | omega) (by first | assumption | omega))
    refine rr_isub F (z := (sc (q (off n a 0 k))) - (sc (q (off n b 0 k)))) dX2_readsLess_32 (by first | rfl | omega) ?_
    refine lv_istore (lv' := [(4, vI ((sc (q (off n a 0 k))) - (sc (q (off n b 0 k))))), (3, vI k), (0, .ref r), (1, vI a), (2, vI b)]) F.1 F.2.1 dX2_readsLess_33 hl (by decide) rfl (fun ls hl => ?_)
    refine lv_iload F.1 F.2.1 dX2_readsLess_35 (lv_at hl 0 rfl) ?_
    have oa := off_rng (n := n) (by omega) a 0 k
    have ob := off_rng (n := n) (by omega) b 0 k
    have ia := hG.at oa.1 oa.2
    have ib := hG.at ob.1 ob.2
    have sl := sc_lt ia.2.1 ib.2.1
    have si := sc_inj ia.2.1 ib.2.1
    refine rr_if_eq F (tgt := 51) dX2_readsLess_37 (by decide) ⟨by omega, by omega⟩ (fun c_37 => ?_) (fun c_37 => ?_)
    · refine lv_iinc (v := iI (k + 1)) (lv' := [(3, vI (k + 1)), (4, vI ((sc (q (off n a 0 k))) - (sc (q (off n b 0 k))))), (0, .ref r), (1, vI a), (2, vI b)]) F.1 F.2.1 dX2_readsLess_51 hl (k := 1) rfl (iinc_ok (by first | rfl | omega)) (by decide) rfl (fun ls hl => ?_)
      refine lv_goto (tgt := 2) F.1 F.2.1 dX2_readsLess_54 (by decide) ?_
      exact ih_2 (k + 1) ⟨by omega, by omega, fun j x y => (if hj : j = k then by subst hj; exact (sc_inj ia.2.1 ib.2.1).mp (by omega) else kq j x (by omega))⟩ (show ((n - (k + 1)).toNat) < ((n - k).toNat) by omega) ls (lv_sub hl [0, 2, 3, 4] rfl)
    · refine lv_iload F.1 F.2.1 dX2_readsLess_40 (lv_at hl 0 rfl) ?_
      have lh : lss n q a b = rk (q (off n a 0 k)) - rk (q (off n b 0 k)) := lss_hit k0 (by omega) (fun hq => c_37 (by have := si.mpr hq; omega)) kq
      refine rr_if_ge F (tgt := 49) dX2_readsLess_42 (by decide) ⟨by omega, by omega⟩ (fun c_42 => ?_) (fun c_42 => ?_)
      · refine rr_iconst F dX2_readsLess_49 ?_
        exact rr_zret F hr hlocks (b := false) dX2_readsLess_50 rfl (b2i_f (by omega))
      · refine rr_iconst F dX2_readsLess_45 ?_
        refine lv_goto (tgt := 50) F.1 F.2.1 dX2_readsLess_46 (by decide) ?_
        exact rr_zret F hr hlocks (b := true) dX2_readsLess_50 rfl (b2i_t (by omega))
set_option maxRecDepth 100000 in
set_option maxHeartbeats 4000000 in
theorem c_X2_beginning (l : Launch) (D : va_G) (cy : Nat → ClassId) (r sg : Nat) (n : Int) (g q : Int → Int) (hG : RG n g q) : Rd l yX2_beginning cX2_beginning 3 (some FieldType.int) 2 [.ref r] D cy [(r, .inr (2, [.ref sg, vI n])), (sg, .inl (cy 0, 24, .inl (iA g)))] (if n = 0 then -1 else bgn n q n) := by
  refine Rd.of RX2 rfl [(0, .ref r)] rfl (by decide +kernel) (Nat.le_of_ble_eq_true rfl) ?_
  intro p e s m args below meth c F hr hlocks hK hP ls hl
  have hn0 := hG.1
  have hn1 := hG.2.1
  refine lv_aload_n F.1 F.2.1 dX2_beginning_0 rfl (lv_at hl 0 rfl) ?_
  refine gf2_1 F hK hP 0 rfl tw57 dX2_beginning_1 ?_
  refine rr_if_ne F (tgt := 9) dX2_beginning_4 (by decide) ⟨by omega, by omega⟩ (fun c_4 => ?_) (fun c_4 => ?_)
  · refine rr_iconst F dX2_beginning_9 ?_
    refine lv_istore_n (lv' := [(1, vI 0), (0, .ref r)]) F.1 F.2.1 dX2_beginning_10 rfl hl (by decide) rfl (fun ls hl => ?_)
    refine rr_iconst F dX2_beginning_11 ?_
    refine lv_istore_n (lv' := [(2, vI 1), (1, vI 0), (0, .ref r)]) F.1 F.2.1 dX2_beginning_12 rfl hl (by decide) rfl (fun ls hl => ?_)
    refine rr_loop1 (fun k => (1 ≤ k) ∧ (k ≤ n)) (fun k => (n - k).toNat) (fun k => [(2, vI k), (1, vI (bgn n q k)), (0, .ref r)]) ?_ 1 ⟨by omega, by omega⟩ (lv_cv (lv_sub hl [0, 1, 2] rfl) (by rw [← show (0 : Int) = bgn n q 1 from by exact (bgn_1 n q hn0).symm]; rfl))
    intro k hI ih_13 ls hl
    obtain ⟨k0, k1⟩ := hI
    have hl : lv_has ls 3 [(2, vI k), (1, vI (bgn n q k)), (0, .ref r)] := hl
    have br := bgn_rng n q (k := k) (by omega)
    refine lv_iload_n F.1 F.2.1 dX2_beginning_13 rfl (lv_at hl 0 rfl) ?_
    refine lv_aload_n F.1 F.2.1 dX2_beginning_14 rfl (lv_at hl 2 rfl) ?_
    refine gf2_1 F hK hP 0 rfl tw57 dX2_beginning_15 ?_
    refine rr_icmp_ge F (tgt := 38) dX2_beginning_18 (by decide) ⟨by omega, by omega⟩ ⟨by omega, by omega⟩ (fun c_18 => ?_) (fun c_18 => ?_)
    · refine lv_iload_n F.1 F.2.1 dX2_beginning_38 rfl (lv_at hl 1 rfl) ?_
      exact rr_iret F hr hlocks dX2_beginning_39 (by rw [if_neg (by omega), show k = n by omega])
    · refine lv_aload_n F.1 F.2.1 dX2_beginning_21 rfl (lv_at hl 2 rfl) ?_
      refine lv_iload_n F.1 F.2.1 dX2_beginning_22 rfl (lv_at hl 0 rfl) ?_
      refine lv_iload_n F.1 F.2.1 dX2_beginning_23 rfl (lv_at hl 1 rfl) ?_
      refine rr_rdV (rest := []) F hK (c_X2_readsLess l D cy r sg n g q k (bgn n q k) (by first | assumption | omega | exact ⟨by omega, by omega⟩) (by first | assumption | omega | exact ⟨by omega, by omega⟩) (by first | assumption | omega | exact ⟨by omega, by omega⟩)) hP sf_X2_readsLess tw380 2 rfl rfl ⟨Nat.le_of_ble_eq_true rfl, Nat.le_of_ble_eq_true rfl⟩ hl rfl (Nat.le_of_ble_eq_true rfl) dX2_beginning_24 ⟨Nat.zero_le _, Nat.zero_le _⟩ ?_
      refine rr_ifP_eq F (tgt := 32) dX2_beginning_27 (by decide) (fun c_27 => ?_) (fun c_27 => ?_)
      · refine lv_iinc (v := iI (k + 1)) (lv' := [(2, vI (k + 1)), (1, vI (bgn n q k)), (0, .ref r)]) F.1 F.2.1 dX2_beginning_32 hl (k := 0) rfl (iinc_ok (by first | rfl | omega)) (by decide) rfl (fun ls hl => ?_)
        refine lv_goto (tgt := 13) F.1 F.2.1 dX2_beginning_35 (by decide) ?_
        exact ih_13 (k + 1) ⟨by omega, by omega⟩ (show ((n - (k + 1)).toNat) < ((n - k).toNat) by omega) ls (lv_cv (lv_sub hl [0, 1, 2] rfl) (by rw [← show (bgn n q k : Int) = bgn n q (k + 1) from by first | (rw [bgn_s n q (by omega), if_pos (by assumption)]) | (rw [bgn_s n q (by omega), if_neg (by assumption)])]; rfl))
      · refine lv_iload_n F.1 F.2.1 dX2_beginning_30 rfl (lv_at hl 0 rfl) ?_
        refine lv_istore_n (lv' := [(1, vI k), (2, vI k), (0, .ref r)]) F.1 F.2.1 dX2_beginning_31 rfl hl (by decide) rfl (fun ls hl => ?_)
        refine lv_iinc (v := iI (k + 1)) (lv' := [(2, vI (k + 1)), (1, vI k), (0, .ref r)]) F.1 F.2.1 dX2_beginning_32 hl (k := 1) rfl (iinc_ok (by first | rfl | omega)) (by decide) rfl (fun ls hl => ?_)
        refine lv_goto (tgt := 13) F.1 F.2.1 dX2_beginning_35 (by decide) ?_
        exact ih_13 (k + 1) ⟨by omega, by omega⟩ (show ((n - (k + 1)).toNat) < ((n - k).toNat) by omega) ls (lv_cv (lv_sub hl [0, 1, 2] rfl) (by rw [← show (k : Int) = bgn n q (k + 1) from by first | (rw [bgn_s n q (by omega), if_pos (by assumption)]) | (rw [bgn_s n q (by omega), if_neg (by assumption)])]; rfl))
  · refine rr_iconst F dX2_beginning_7 ?_
    exact rr_iret F hr hlocks dX2_beginning_8 (by rw [if_pos (by omega)])
set_option maxRecDepth 100000 in
set_option maxHeartbeats 4000000 in
theorem c_X2_readsAsFromZero (l : Launch) (D : va_G) (cy : Nat → ClassId) (r sg : Nat) (n : Int) (g q : Int → Int) (i d : Int) (hG : RG n g q) (hi : 0 ≤ i ∧ i < n) (hd : 0 ≤ d ∧ d ≤ 1) : Rd l yX2_readsAsFromZero cX2_readsAsFromZero 4 (some FieldType.boolean) 1 [.ref r, vI i, vI d] D cy [(r, .inr (2, [.ref sg, vI n])), (sg, .inl (cy 0, 24, .inl (iA g)))] (b2i (pB (asr n q i d))) := by
  refine Rd.of RX2 rfl [(0, .ref r), (1, vI i), (2, vI d)] rfl (by decide +kernel) (Nat.le_of_ble_eq_true rfl) ?_
  intro p e s m args below meth c F hr hlocks hK hP ls hl
  have hn0 := hG.1
  have hn1 := hG.2.1
  refine rr_iconst F dX2_readsAsFromZero_0 ?_
  refine lv_istore_n (lv' := [(3, vI 0), (0, .ref r), (1, vI i), (2, vI d)]) F.1 F.2.1 dX2_readsAsFromZero_1 rfl hl (by decide) rfl (fun ls hl => ?_)
  refine rr_loop1 (fun k => (0 ≤ k) ∧ (k ≤ n) ∧ (∀ j, 0 ≤ j → j < k → q j = q (off n i d j))) (fun k => (n - k).toNat) (fun k => [(3, vI k), (0, .ref r), (1, vI i), (2, vI d)]) ?_ 0 ⟨by omega, by omega, fun j x y => by omega⟩ (lv_sub hl [0, 1, 2, 3] rfl)
  intro k hI ih_2 ls hl
  obtain ⟨k0, k1, kq⟩ := hI
  have hl : lv_has ls 4 [(3, vI k), (0, .ref r), (1, vI i), (2, vI d)] := hl
  refine lv_iload_n F.1 F.2.1 dX2_readsAsFromZero_2 rfl (lv_at hl 0 rfl) ?_
  refine lv_aload_n F.1 F.2.1 dX2_readsAsFromZero_3 rfl (lv_at hl 1 rfl) ?_
  refine gf2_1 F hK hP 0 rfl tw57 dX2_readsAsFromZero_4 ?_
  refine rr_icmp_ge F (tgt := 38) dX2_readsAsFromZero_7 (by decide) ⟨by omega, by omega⟩ ⟨by omega, by omega⟩ (fun c_7 => ?_) (fun c_7 => ?_)
  · refine rr_iconst F dX2_readsAsFromZero_38 ?_
    exact rr_zret F hr hlocks (b := true) dX2_readsAsFromZero_39 rfl (b2i_t (fun j x y => kq j x (by omega)))
  · refine lv_aload_n F.1 F.2.1 dX2_readsAsFromZero_10 rfl (lv_at hl 1 rfl) ?_
    refine gf2_0 F hK hP 0 rfl tw56 dX2_readsAsFromZero_11 ?_
    refine lv_iload_n F.1 F.2.1 dX2_readsAsFromZero_14 rfl (lv_at hl 0 rfl) ?_
    refine rr_cald F hK hP 1 rfl (by omega) (by omega) (by decide) dX2_readsAsFromZero_15 ?_
    refine lv_aload_n F.1 F.2.1 dX2_readsAsFromZero_16 rfl (lv_at hl 1 rfl) ?_
    refine lv_aload_n F.1 F.2.1 dX2_readsAsFromZero_17 rfl (lv_at hl 1 rfl) ?_
    refine lv_iload_n F.1 F.2.1 dX2_readsAsFromZero_18 rfl (lv_at hl 2 rfl) ?_
    refine lv_iload_n F.1 F.2.1 dX2_readsAsFromZero_19 rfl (lv_at hl 3 rfl) ?_
    refine lv_iload_n F.1 F.2.1 dX2_readsAsFromZero_20 rfl (lv_at hl 0 rfl) ?_
    refine rr_rdV (rest := [.ref r, vI (g k)]) F hK (c_X2_onward l D cy r sg n g q i d k (by first | assumption | omega | exact ⟨by omega, by omega⟩) (by first | assumption | omega | exact ⟨by omega, by omega⟩) (by first | assumption | omega | exact ⟨by omega, by omega⟩) (by first | assumption | omega | exact ⟨by omega, by omega⟩)) hP sf_X2_onward tw227 2 rfl rfl ⟨Nat.le_of_ble_eq_true rfl, Nat.le_of_ble_eq_true rfl⟩ hl rfl (Nat.le_of_ble_eq_true rfl) dX2_readsAsFromZero_21 ⟨Nat.zero_le _, Nat.zero_le _⟩ ?_
    have q_21_0 := (off_rng (n := n) (by omega) i d k)
    refine rr_rdV (rest := [vI (g k)]) F hK (c_X2_signAt l D cy r sg n g q (off n i d k) (by first | assumption | omega | exact ⟨by omega, by omega⟩) (by first | assumption | omega | exact ⟨by omega, by omega⟩) (by first | assumption | omega | exact ⟨by omega, by omega⟩)) hP sf_X2_signAt tw384 2 rfl rfl ⟨Nat.le_of_ble_eq_true rfl, Nat.le_of_ble_eq_true rfl⟩ hl rfl (Nat.le_of_ble_eq_true rfl) dX2_readsAsFromZero_24 ⟨Nat.zero_le _, Nat.zero_le _⟩ ?_
    have q_24_0 := (RG.at hG (j := (off n i d k)) (by first | assumption | omega) (by first | assumption | omega))
    have oa := off_rng (n := n) (by omega) i d k
    have ia := hG.at k0 c_7
    have ib := hG.at oa.1 oa.2
    have si := sc_inj ia.2.1 ib.2.1
    refine rr_icmp_eq F (tgt := 32) dX2_readsAsFromZero_27 (by decide) ⟨by omega, by omega⟩ ⟨by omega, by omega⟩ (fun c_27 => ?_) (fun c_27 => ?_)
    · refine lv_iinc (v := iI (k + 1)) (lv' := [(3, vI (k + 1)), (0, .ref r), (1, vI i), (2, vI d)]) F.1 F.2.1 dX2_readsAsFromZero_32 hl (k := 0) rfl (iinc_ok (by first | rfl | omega)) (by decide) rfl (fun ls hl => ?_)
      refine lv_goto (tgt := 2) F.1 F.2.1 dX2_readsAsFromZero_35 (by decide) ?_
      exact ih_2 (k + 1) ⟨by omega, by omega, fun j x y => (if hj : j = k then by subst hj; exact si.mp (by omega) else kq j x (by omega))⟩ (show ((n - (k + 1)).toNat) < ((n - k).toNat) by omega) ls (lv_sub hl [0, 1, 2, 3] rfl)
    · refine rr_iconst F dX2_readsAsFromZero_30 ?_
      exact rr_zret F hr hlocks (b := false) dX2_readsAsFromZero_31 rfl (b2i_f (fun h => c_27 (by have := si.mpr (h k k0 (by omega)); omega)))
set_option maxRecDepth 100000 in
set_option maxHeartbeats 4000000 in
theorem c_X2_period (l : Launch) (D : va_G) (cy : Nat → ClassId) (r sg : Nat) (n : Int) (g q : Int → Int) (hG : RG n g q) : Rd l yX2_period cX2_period 2 (some FieldType.int) 2 [.ref r] D cy [(r, .inr (2, [.ref sg, vI n])), (sg, .inl (cy 0, 24, .inl (iA g)))] (perd n q) := by
  refine Rd.of RX2 rfl [(0, .ref r)] rfl (by decide +kernel) (Nat.le_of_ble_eq_true rfl) ?_
  intro p e s m args below meth c F hr hlocks hK hP ls hl
  have hn0 := hG.1
  have hn1 := hG.2.1
  refine rr_iconst F dX2_period_0 ?_
  refine lv_istore_n (lv' := [(1, vI 1), (0, .ref r)]) F.1 F.2.1 dX2_period_1 rfl hl (by decide) rfl (fun ls hl => ?_)
  refine rr_loop1 (fun k => (1 ≤ k) ∧ (k ≤ n ∨ k = 1) ∧ (∀ j, 1 ≤ j → j < k → ¬ asr n q j 0)) (fun k => (n - k).toNat) (fun k => [(1, vI k), (0, .ref r)]) ?_ 1 ⟨by omega, by omega, fun j x y => by omega⟩ (lv_sub hl [0, 1] rfl)
  intro k hI ih_2 ls hl
  obtain ⟨k0, k1, kq⟩ := hI
  have hl : lv_has ls 2 [(1, vI k), (0, .ref r)] := hl
  refine lv_iload_n F.1 F.2.1 dX2_period_2 rfl (lv_at hl 0 rfl) ?_
  refine lv_aload_n F.1 F.2.1 dX2_period_3 rfl (lv_at hl 1 rfl) ?_
  refine gf2_1 F hK hP 0 rfl tw57 dX2_period_4 ?_
  refine rr_icmp_ge F (tgt := 27) dX2_period_7 (by decide) ⟨by omega, by omega⟩ ⟨by omega, by omega⟩ (fun c_7 => ?_) (fun c_7 => ?_)
  · refine lv_aload_n F.1 F.2.1 dX2_period_27 rfl (lv_at hl 1 rfl) ?_
    refine gf2_1 F hK hP 0 rfl tw57 dX2_period_28 ?_
    exact rr_iret F hr hlocks dX2_period_31 (perd_miss hn0 (fun j x y => kq j x (by omega)))
  · refine lv_aload_n F.1 F.2.1 dX2_period_10 rfl (lv_at hl 1 rfl) ?_
    refine lv_iload_n F.1 F.2.1 dX2_period_11 rfl (lv_at hl 0 rfl) ?_
    refine rr_iconst F dX2_period_12 ?_
    refine rr_rdV (rest := []) F hK (c_X2_readsAsFromZero l D cy r sg n g q k 0 (by first | assumption | omega | exact ⟨by omega, by omega⟩) (by first | assumption | omega | exact ⟨by omega, by omega⟩) (by first | assumption | omega | exact ⟨by omega, by omega⟩)) hP sf_X2_readsAsFromZero tw389 2 rfl rfl ⟨Nat.le_of_ble_eq_true rfl, Nat.le_of_ble_eq_true rfl⟩ hl rfl (Nat.le_of_ble_eq_true rfl) dX2_period_13 ⟨Nat.zero_le _, Nat.zero_le _⟩ ?_
    refine rr_ifP_eq F (tgt := 21) dX2_period_16 (by decide) (fun c_16 => ?_) (fun c_16 => ?_)
    · refine lv_iinc (v := iI (k + 1)) (lv' := [(1, vI (k + 1)), (0, .ref r)]) F.1 F.2.1 dX2_period_21 hl (k := 0) rfl (iinc_ok (by first | rfl | omega)) (by decide) rfl (fun ls hl => ?_)
      refine lv_goto (tgt := 2) F.1 F.2.1 dX2_period_24 (by decide) ?_
      exact ih_2 (k + 1) ⟨by omega, by omega, fun j x y => (if hj : j = k then by subst hj; exact c_16 else kq j x (by omega))⟩ (show ((n - (k + 1)).toNat) < ((n - k).toNat) by omega) ls (lv_sub hl [0, 1] rfl)
    · refine lv_iload_n F.1 F.2.1 dX2_period_19 rfl (lv_at hl 0 rfl) ?_
      exact rr_iret F hr hlocks dX2_period_20 (perd_hit k0 (by omega) (by assumption) kq)
set_option maxRecDepth 100000 in
set_option maxHeartbeats 4000000 in
theorem c_X2_isAsReadBackwards (l : Launch) (D : va_G) (cy : Nat → ClassId) (r sg : Nat) (n : Int) (g q : Int → Int) (hG : RG n g q) : Rd l yX2_isAsReadBackwards cX2_isAsReadBackwards 2 (some FieldType.boolean) 2 [.ref r] D cy [(r, .inr (2, [.ref sg, vI n])), (sg, .inl (cy 0, 24, .inl (iA g)))] (b2i (pB (mirr n q))) := by
  refine Rd.of RX2 rfl [(0, .ref r)] rfl (by decide +kernel) (Nat.le_of_ble_eq_true rfl) ?_
  intro p e s m args below meth c F hr hlocks hK hP ls hl
  have hn0 := hG.1
  have hn1 := hG.2.1
  refine rr_iconst F dX2_isAsReadBackwards_0 ?_
  refine lv_istore_n (lv' := [(1, vI 0), (0, .ref r)]) F.1 F.2.1 dX2_isAsReadBackwards_1 rfl hl (by decide) rfl (fun ls hl => ?_)
  refine rr_loop1 (fun k => (0 ≤ k) ∧ (k ≤ n) ∧ (∀ j, 0 ≤ j → j < k → ¬ asr n q j 1)) (fun k => (n - k).toNat) (fun k => [(1, vI k), (0, .ref r)]) ?_ 0 ⟨by omega, by omega, fun j x y => by omega⟩ (lv_sub hl [0, 1] rfl)
  intro k hI ih_2 ls hl
  obtain ⟨k0, k1, kq⟩ := hI
  have hl : lv_has ls 2 [(1, vI k), (0, .ref r)] := hl
  refine lv_iload_n F.1 F.2.1 dX2_isAsReadBackwards_2 rfl (lv_at hl 0 rfl) ?_
  refine lv_aload_n F.1 F.2.1 dX2_isAsReadBackwards_3 rfl (lv_at hl 1 rfl) ?_
  refine gf2_1 F hK hP 0 rfl tw57 dX2_isAsReadBackwards_4 ?_
  refine rr_icmp_ge F (tgt := 27) dX2_isAsReadBackwards_7 (by decide) ⟨by omega, by omega⟩ ⟨by omega, by omega⟩ (fun c_7 => ?_) (fun c_7 => ?_)
  · refine lv_aload_n F.1 F.2.1 dX2_isAsReadBackwards_27 rfl (lv_at hl 1 rfl) ?_
    refine gf2_1 F hK hP 0 rfl tw57 dX2_isAsReadBackwards_28 ?_
    refine rr_if_ne F (tgt := 38) dX2_isAsReadBackwards_31 (by decide) ⟨by omega, by omega⟩ (fun c_31 => ?_) (fun c_31 => ?_)
    · refine rr_iconst F dX2_isAsReadBackwards_38 ?_
      exact rr_zret F hr hlocks (b := false) dX2_isAsReadBackwards_39 rfl (b2i_f (fun h => h.elim (fun h => by omega) (fun ⟨i, a, b, h⟩ => kq i a (by omega) h)))
    · refine rr_iconst F dX2_isAsReadBackwards_34 ?_
      refine lv_goto (tgt := 39) F.1 F.2.1 dX2_isAsReadBackwards_35 (by decide) ?_
      exact rr_zret F hr hlocks (b := true) dX2_isAsReadBackwards_39 rfl (b2i_t (Or.inl (by omega)))
  · refine lv_aload_n F.1 F.2.1 dX2_isAsReadBackwards_10 rfl (lv_at hl 1 rfl) ?_
    refine lv_iload_n F.1 F.2.1 dX2_isAsReadBackwards_11 rfl (lv_at hl 0 rfl) ?_
    refine rr_iconst F dX2_isAsReadBackwards_12 ?_
    refine rr_rdV (rest := []) F hK (c_X2_readsAsFromZero l D cy r sg n g q k 1 (by first | assumption | omega | exact ⟨by omega, by omega⟩) (by first | assumption | omega | exact ⟨by omega, by omega⟩) (by first | assumption | omega | exact ⟨by omega, by omega⟩)) hP sf_X2_readsAsFromZero tw389 2 rfl rfl ⟨Nat.le_of_ble_eq_true rfl, Nat.le_of_ble_eq_true rfl⟩ hl rfl (Nat.le_of_ble_eq_true rfl) dX2_isAsReadBackwards_13 ⟨Nat.zero_le _, Nat.zero_le _⟩ ?_
    refine rr_ifP_eq F (tgt := 21) dX2_isAsReadBackwards_16 (by decide) (fun c_16 => ?_) (fun c_16 => ?_)
    · refine lv_iinc (v := iI (k + 1)) (lv' := [(1, vI (k + 1)), (0, .ref r)]) F.1 F.2.1 dX2_isAsReadBackwards_21 hl (k := 0) rfl (iinc_ok (by first | rfl | omega)) (by decide) rfl (fun ls hl => ?_)
      refine lv_goto (tgt := 2) F.1 F.2.1 dX2_isAsReadBackwards_24 (by decide) ?_
      exact ih_2 (k + 1) ⟨by omega, by omega, fun j x y => (if hj : j = k then by subst hj; exact c_16 else kq j x (by omega))⟩ (show ((n - (k + 1)).toNat) < ((n - k).toNat) by omega) ls (lv_sub hl [0, 1] rfl)
    · refine rr_iconst F dX2_isAsReadBackwards_19 ?_
      exact rr_zret F hr hlocks (b := true) dX2_isAsReadBackwards_20 rfl (b2i_t (Or.inr ⟨k, k0, by omega, by assumption⟩))
set_option maxRecDepth 100000 in
set_option maxHeartbeats 4000000 in
theorem c_X2_segmentLength (l : Launch) (D : va_G) (cy : Nat → ClassId) (r sg : Nat) (n : Int) (g q : Int → Int) (pl d : Int) (hG : RG n g q) (hp : 0 ≤ pl ∧ pl < n) (hd : 0 ≤ d ∧ d ≤ 1) : Rd l yX2_segmentLength cX2_segmentLength 4 (some FieldType.int) 1 [.ref r, vI pl, vI d] D cy [(r, .inr (2, [.ref sg, vI n])), (sg, .inl (cy 0, 24, .inl (iA g)))] (seg n q pl d) := by
  refine Rd.of RX2 rfl [(0, .ref r), (1, vI pl), (2, vI d)] rfl (by decide +kernel) (Nat.le_of_ble_eq_true rfl) ?_
  intro p e s m args below meth c F hr hlocks hK hP ls hl
  have hn0 := hG.1
  have hn1 := hG.2.1
  refine lv_aload_n F.1 F.2.1 dX2_segmentLength_0 rfl (lv_at hl 0 rfl) ?_
  refine lv_iload_n F.1 F.2.1 dX2_segmentLength_1 rfl (lv_at hl 1 rfl) ?_
  refine rr_rdV (rest := []) F hK (c_X2_isDivider l D cy r sg n g q pl (by first | assumption | omega | exact ⟨by omega, by omega⟩) (by first | assumption | omega | exact ⟨by omega, by omega⟩) (by first | assumption | omega | exact ⟨by omega, by omega⟩)) hP sf_X2_isDivider tw223 2 rfl rfl ⟨Nat.le_of_ble_eq_true rfl, Nat.le_of_ble_eq_true rfl⟩ hl rfl (Nat.le_of_ble_eq_true rfl) dX2_segmentLength_2 ⟨Nat.zero_le _, Nat.zero_le _⟩ ?_
  refine rr_ifP_ne F (tgt := 10) dX2_segmentLength_5 (by decide) (fun c_5 => ?_) (fun c_5 => ?_)
  · refine rr_iconst F dX2_segmentLength_10 ?_
    refine lv_istore_n (lv' := [(3, vI 0), (0, .ref r), (1, vI pl), (2, vI d)]) F.1 F.2.1 dX2_segmentLength_11 rfl hl (by decide) rfl (fun ls hl => ?_)
    refine rr_loop1 (fun k => (0 ≤ k) ∧ (k ≤ n - 1) ∧ (∀ j, 0 ≤ j → j < k → ¬ q (off n pl d (j + 1)) = 0)) (fun k => (n - k).toNat) (fun k => [(3, vI k), (0, .ref r), (1, vI pl), (2, vI d)]) ?_ 0 ⟨by omega, by omega, fun j x y => by omega⟩ (lv_sub hl [0, 1, 2, 3] rfl)
    intro k hI ih_12 ls hl
    obtain ⟨k0, k1, kq⟩ := hI
    have hl : lv_has ls 4 [(3, vI k), (0, .ref r), (1, vI pl), (2, vI d)] := hl
    refine lv_iload_n F.1 F.2.1 dX2_segmentLength_12 rfl (lv_at hl 0 rfl) ?_
    refine lv_aload_n F.1 F.2.1 dX2_segmentLength_13 rfl (lv_at hl 1 rfl) ?_
    refine gf2_1 F hK hP 0 rfl tw57 dX2_segmentLength_14 ?_
    refine rr_iconst F dX2_segmentLength_17 ?_
    refine rr_isub F (z := n - 1) dX2_segmentLength_18 (by first | rfl | omega) ?_
    refine rr_icmp_ge F (tgt := 46) dX2_segmentLength_19 (by decide) ⟨by omega, by omega⟩ ⟨by omega, by omega⟩ (fun c_19 => ?_) (fun c_19 => ?_)
    · refine lv_aload_n F.1 F.2.1 dX2_segmentLength_46 rfl (lv_at hl 1 rfl) ?_
      refine gf2_1 F hK hP 0 rfl tw57 dX2_segmentLength_47 ?_
      refine rr_iconst F dX2_segmentLength_50 ?_
      refine rr_isub F (z := n - 1) dX2_segmentLength_51 (by first | rfl | omega) ?_
      refine rr_iconst F dX2_segmentLength_52 ?_
      refine rr_mmax (rest := []) F hl tw231 (Nat.le_of_ble_eq_true rfl) (Nat.le_of_ble_eq_true rfl) ⟨Nat.zero_le _, Nat.zero_le _⟩ ⟨by omega, by omega⟩ ⟨by omega, by omega⟩ (z := n - 1) dX2_segmentLength_53 (by split <;> omega) ?_
      exact rr_iret F hr hlocks dX2_segmentLength_56 (by rw [seg_yes (by assumption)]; exact (fst_eq (by omega) (Int.le_refl _) (fun j x y => kq j x (by omega)) (fun h => absurd h (Int.lt_irrefl _))).symm)
    · refine lv_aload_n F.1 F.2.1 dX2_segmentLength_22 rfl (lv_at hl 1 rfl) ?_
      refine lv_aload_n F.1 F.2.1 dX2_segmentLength_23 rfl (lv_at hl 1 rfl) ?_
      refine lv_iload_n F.1 F.2.1 dX2_segmentLength_24 rfl (lv_at hl 2 rfl) ?_
      refine lv_iload_n F.1 F.2.1 dX2_segmentLength_25 rfl (lv_at hl 3 rfl) ?_
      refine lv_iload_n F.1 F.2.1 dX2_segmentLength_26 rfl (lv_at hl 0 rfl) ?_
      refine rr_iconst F dX2_segmentLength_27 ?_
      refine rr_iadd F (z := k + 1) dX2_segmentLength_28 (by first | rfl | omega) ?_
      refine rr_rdV (rest := [.ref r]) F hK (c_X2_onward l D cy r sg n g q pl d (k + 1) (by first | assumption | omega | exact ⟨by omega, by omega⟩) (by first | assumption | omega | exact ⟨by omega, by omega⟩) (by first | assumption | omega | exact ⟨by omega, by omega⟩) (by first | assumption | omega | exact ⟨by omega, by omega⟩)) hP sf_X2_onward tw227 2 rfl rfl ⟨Nat.le_of_ble_eq_true rfl, Nat.le_of_ble_eq_true rfl⟩ hl rfl (Nat.le_of_ble_eq_true rfl) dX2_segmentLength_29 ⟨Nat.zero_le _, Nat.zero_le _⟩ ?_
      have q_29_0 := (off_rng (n := n) (by omega) pl d (k + 1))
      refine rr_rdV (rest := []) F hK (c_X2_isDivider l D cy r sg n g q (off n pl d (k + 1)) (by first | assumption | omega | exact ⟨by omega, by omega⟩) (by first | assumption | omega | exact ⟨by omega, by omega⟩) (by first | assumption | omega | exact ⟨by omega, by omega⟩)) hP sf_X2_isDivider tw223 2 rfl rfl ⟨Nat.le_of_ble_eq_true rfl, Nat.le_of_ble_eq_true rfl⟩ hl rfl (Nat.le_of_ble_eq_true rfl) dX2_segmentLength_32 ⟨Nat.zero_le _, Nat.zero_le _⟩ ?_
      refine rr_ifP_eq F (tgt := 40) dX2_segmentLength_35 (by decide) (fun c_35 => ?_) (fun c_35 => ?_)
      · refine lv_iinc (v := iI (k + 1)) (lv' := [(3, vI (k + 1)), (0, .ref r), (1, vI pl), (2, vI d)]) F.1 F.2.1 dX2_segmentLength_40 hl (k := 0) rfl (iinc_ok (by first | rfl | omega)) (by decide) rfl (fun ls hl => ?_)
        refine lv_goto (tgt := 12) F.1 F.2.1 dX2_segmentLength_43 (by decide) ?_
        exact ih_12 (k + 1) ⟨by omega, by omega, fun j x y => (if hj : j = k then by subst hj; exact c_35 else kq j x (by omega))⟩ (show ((n - (k + 1)).toNat) < ((n - k).toNat) by omega) ls (lv_sub hl [0, 1, 2, 3] rfl)
      · refine lv_iload_n F.1 F.2.1 dX2_segmentLength_38 rfl (lv_at hl 0 rfl) ?_
        exact rr_iret F hr hlocks dX2_segmentLength_39 (by rw [seg_yes (by assumption)]; exact (fst_eq k0 (by omega) kq (fun _ => by assumption)).symm)
  · refine rr_iconst F dX2_segmentLength_8 ?_
    exact rr_iret F hr hlocks dX2_segmentLength_9 ((seg_no (by assumption)).symm)
set_option maxRecDepth 100000 in
set_option maxHeartbeats 4000000 in
theorem c_X2_countSegments (l : Launch) (D : va_G) (cy : Nat → ClassId) (r sg : Nat) (n : Int) (g q : Int → Int) (d : Int) (hG : RG n g q) (hd : 0 ≤ d ∧ d ≤ 1) : Rd l yX2_countSegments cX2_countSegments 4 (some FieldType.int) 2 [.ref r, vI d] D cy [(r, .inr (2, [.ref sg, vI n])), (sg, .inl (cy 0, 24, .inl (iA g)))] (cnt (fun j => 0 < seg n q j d) n) := by
  refine Rd.of RX2 rfl [(0, .ref r), (1, vI d)] rfl (by decide +kernel) (Nat.le_of_ble_eq_true rfl) ?_
  intro p e s m args below meth c F hr hlocks hK hP ls hl
  have hn0 := hG.1
  have hn1 := hG.2.1
  refine rr_iconst F dX2_countSegments_0 ?_
  refine lv_istore_n (lv' := [(2, vI 0), (0, .ref r), (1, vI d)]) F.1 F.2.1 dX2_countSegments_1 rfl hl (by decide) rfl (fun ls hl => ?_)
  refine rr_iconst F dX2_countSegments_2 ?_
  refine lv_istore_n (lv' := [(3, vI 0), (2, vI 0), (0, .ref r), (1, vI d)]) F.1 F.2.1 dX2_countSegments_3 rfl hl (by decide) rfl (fun ls hl => ?_)
  refine rr_loop1 (fun k => (0 ≤ k) ∧ (k ≤ n)) (fun k => (n - k).toNat) (fun k => [(3, vI k), (2, vI (cnt (fun j => 0 < seg n q j d) k)), (0, .ref r), (1, vI d)]) ?_ 0 ⟨by omega, by omega⟩ (lv_sub hl [0, 1, 2, 3] rfl)
  intro k hI ih_4 ls hl
  obtain ⟨k0, k1⟩ := hI
  have hl : lv_has ls 4 [(3, vI k), (2, vI (cnt (fun j => 0 < seg n q j d) k)), (0, .ref r), (1, vI d)] := hl
  refine lv_iload_n F.1 F.2.1 dX2_countSegments_4 rfl (lv_at hl 0 rfl) ?_
  refine lv_aload_n F.1 F.2.1 dX2_countSegments_5 rfl (lv_at hl 2 rfl) ?_
  refine gf2_1 F hK hP 0 rfl tw57 dX2_countSegments_6 ?_
  refine rr_icmp_ge F (tgt := 30) dX2_countSegments_9 (by decide) ⟨by omega, by omega⟩ ⟨by omega, by omega⟩ (fun c_9 => ?_) (fun c_9 => ?_)
  · refine lv_iload_n F.1 F.2.1 dX2_countSegments_30 rfl (lv_at hl 1 rfl) ?_
    exact rr_iret F hr hlocks dX2_countSegments_31 (by rw [show k = n by omega])
  · refine lv_aload_n F.1 F.2.1 dX2_countSegments_12 rfl (lv_at hl 2 rfl) ?_
    refine lv_iload_n F.1 F.2.1 dX2_countSegments_13 rfl (lv_at hl 0 rfl) ?_
    refine lv_iload_n F.1 F.2.1 dX2_countSegments_14 rfl (lv_at hl 3 rfl) ?_
    refine rr_rdV (rest := []) F hK (c_X2_segmentLength l D cy r sg n g q k d (by first | assumption | omega | exact ⟨by omega, by omega⟩) (by first | assumption | omega | exact ⟨by omega, by omega⟩) (by first | assumption | omega | exact ⟨by omega, by omega⟩)) hP sf_X2_segmentLength tw456 2 rfl rfl ⟨Nat.le_of_ble_eq_true rfl, Nat.le_of_ble_eq_true rfl⟩ hl rfl (Nat.le_of_ble_eq_true rfl) dX2_countSegments_15 ⟨Nat.zero_le _, Nat.zero_le _⟩ ?_
    have q_15_0 := (seg_rng (n := n) (by omega) q k d)
    refine rr_if_le F (tgt := 24) dX2_countSegments_18 (by decide) ⟨by omega, by omega⟩ (fun c_18 => ?_) (fun c_18 => ?_)
    · refine lv_iinc (v := iI (k + 1)) (lv' := [(3, vI (k + 1)), (2, vI (cnt (fun j => 0 < seg n q j d) k)), (0, .ref r), (1, vI d)]) F.1 F.2.1 dX2_countSegments_24 hl (k := 0) rfl (iinc_ok (by first | rfl | omega)) (by decide) rfl (fun ls hl => ?_)
      refine lv_goto (tgt := 4) F.1 F.2.1 dX2_countSegments_27 (by decide) ?_
      exact ih_4 (k + 1) ⟨by omega, by omega⟩ (show ((n - (k + 1)).toNat) < ((n - k).toNat) by omega) ls (lv_cv (lv_sub hl [0, 1, 2, 3] rfl) (by rw [← show (cnt (fun j => 0 < seg n q j d) k : Int) = cnt (fun u_j => 0 < seg n q u_j d) (k + 1) from by first | exact cnt_n (P := fun j => 0 < seg n q j d) k0 (by omega) | exact cnt_y (P := fun j => 0 < seg n q j d) k0 (by assumption)]; rfl))
    · refine lv_iinc (v := iI ((cnt (fun j => 0 < seg n q j d) k) + 1)) (lv' := [(2, vI ((cnt (fun j => 0 < seg n q j d) k) + 1)), (3, vI k), (0, .ref r), (1, vI d)]) F.1 F.2.1 dX2_countSegments_21 hl (k := 1) rfl (iinc_ok (by first | rfl | omega)) (by decide) rfl (fun ls hl => ?_)
      refine lv_iinc (v := iI (k + 1)) (lv' := [(3, vI (k + 1)), (2, vI ((cnt (fun j => 0 < seg n q j d) k) + 1)), (0, .ref r), (1, vI d)]) F.1 F.2.1 dX2_countSegments_24 hl (k := 1) rfl (iinc_ok (by first | rfl | omega)) (by decide) rfl (fun ls hl => ?_)
      refine lv_goto (tgt := 4) F.1 F.2.1 dX2_countSegments_27 (by decide) ?_
      exact ih_4 (k + 1) ⟨by omega, by omega⟩ (show ((n - (k + 1)).toNat) < ((n - k).toNat) by omega) ls (lv_cv (lv_sub hl [0, 1, 2, 3] rfl) (by rw [← show ((cnt (fun j => 0 < seg n q j d) k) + 1 : Int) = cnt (fun u_j => 0 < seg n q u_j d) (k + 1) from by first | exact cnt_n (P := fun j => 0 < seg n q j d) k0 (by omega) | exact cnt_y (P := fun j => 0 < seg n q j d) k0 (by assumption)]; rfl))
set_option maxRecDepth 100000 in
set_option maxHeartbeats 4000000 in
theorem c_X2_longestSegment (l : Launch) (D : va_G) (cy : Nat → ClassId) (r sg : Nat) (n : Int) (g q : Int → Int) (d : Int) (hG : RG n g q) (hd : 0 ≤ d ∧ d ≤ 1) : Rd l yX2_longestSegment cX2_longestSegment 4 (some FieldType.int) 2 [.ref r, vI d] D cy [(r, .inr (2, [.ref sg, vI n])), (sg, .inl (cy 0, 24, .inl (iA g)))] (mx (fun j => seg n q j d) n) := by
  refine Rd.of RX2 rfl [(0, .ref r), (1, vI d)] rfl (by decide +kernel) (Nat.le_of_ble_eq_true rfl) ?_
  intro p e s m args below meth c F hr hlocks hK hP ls hl
  have hn0 := hG.1
  have hn1 := hG.2.1
  refine rr_iconst F dX2_longestSegment_0 ?_
  refine lv_istore_n (lv' := [(2, vI 0), (0, .ref r), (1, vI d)]) F.1 F.2.1 dX2_longestSegment_1 rfl hl (by decide) rfl (fun ls hl => ?_)
  refine rr_iconst F dX2_longestSegment_2 ?_
  refine lv_istore_n (lv' := [(3, vI 0), (2, vI 0), (0, .ref r), (1, vI d)]) F.1 F.2.1 dX2_longestSegment_3 rfl hl (by decide) rfl (fun ls hl => ?_)
  refine rr_loop1 (fun k => (0 ≤ k) ∧ (k ≤ n)) (fun k => (n - k).toNat) (fun k => [(3, vI k), (2, vI (mx (fun j => seg n q j d) k)), (0, .ref r), (1, vI d)]) ?_ 0 ⟨by omega, by omega⟩ (lv_sub hl [0, 1, 2, 3] rfl)
  intro k hI ih_4 ls hl
  obtain ⟨k0, k1⟩ := hI
  have hl : lv_has ls 4 [(3, vI k), (2, vI (mx (fun j => seg n q j d) k)), (0, .ref r), (1, vI d)] := hl
  have mr := mx_rng (f := fun j => seg n q j d) (c := 24) (n := k) (by omega) k0 (fun j x y => by have := seg_rng (n := n) (by omega) q j d; omega)
  refine lv_iload_n F.1 F.2.1 dX2_longestSegment_4 rfl (lv_at hl 0 rfl) ?_
  refine lv_aload_n F.1 F.2.1 dX2_longestSegment_5 rfl (lv_at hl 2 rfl) ?_
  refine gf2_1 F hK hP 0 rfl tw57 dX2_longestSegment_6 ?_
  refine rr_icmp_ge F (tgt := 29) dX2_longestSegment_9 (by decide) ⟨by omega, by omega⟩ ⟨by omega, by omega⟩ (fun c_9 => ?_) (fun c_9 => ?_)
  · refine lv_iload_n F.1 F.2.1 dX2_longestSegment_29 rfl (lv_at hl 1 rfl) ?_
    exact rr_iret F hr hlocks dX2_longestSegment_30 (by rw [show k = n by omega])
  · refine lv_iload_n F.1 F.2.1 dX2_longestSegment_12 rfl (lv_at hl 1 rfl) ?_
    refine lv_aload_n F.1 F.2.1 dX2_longestSegment_13 rfl (lv_at hl 2 rfl) ?_
    refine lv_iload_n F.1 F.2.1 dX2_longestSegment_14 rfl (lv_at hl 0 rfl) ?_
    refine lv_iload_n F.1 F.2.1 dX2_longestSegment_15 rfl (lv_at hl 3 rfl) ?_
    refine rr_rdV (rest := [vI (mx (fun j => seg n q j d) k)]) F hK (c_X2_segmentLength l D cy r sg n g q k d (by first | assumption | omega | exact ⟨by omega, by omega⟩) (by first | assumption | omega | exact ⟨by omega, by omega⟩) (by first | assumption | omega | exact ⟨by omega, by omega⟩)) hP sf_X2_segmentLength tw456 2 rfl rfl ⟨Nat.le_of_ble_eq_true rfl, Nat.le_of_ble_eq_true rfl⟩ hl rfl (Nat.le_of_ble_eq_true rfl) dX2_longestSegment_16 ⟨Nat.zero_le _, Nat.zero_le _⟩ ?_
    have q_16_0 := (seg_rng (n := n) (by omega) q k d)
    refine rr_mmax (rest := []) F hl tw231 (Nat.le_of_ble_eq_true rfl) (Nat.le_of_ble_eq_true rfl) ⟨Nat.zero_le _, Nat.zero_le _⟩ ⟨by omega, by omega⟩ ⟨by omega, by omega⟩ (z := mx (fun j => seg n q j d) (k + 1)) dX2_longestSegment_19 (by rw [mx_s _ k0]; split <;> split <;> omega) ?_
    refine lv_istore_n (lv' := [(2, vI (mx (fun j => seg n q j d) (k + 1))), (3, vI k), (0, .ref r), (1, vI d)]) F.1 F.2.1 dX2_longestSegment_22 rfl hl (by decide) rfl (fun ls hl => ?_)
    refine lv_iinc (v := iI (k + 1)) (lv' := [(3, vI (k + 1)), (2, vI (mx (fun j => seg n q j d) (k + 1))), (0, .ref r), (1, vI d)]) F.1 F.2.1 dX2_longestSegment_23 hl (k := 1) rfl (iinc_ok (by first | rfl | omega)) (by decide) rfl (fun ls hl => ?_)
    refine lv_goto (tgt := 4) F.1 F.2.1 dX2_longestSegment_26 (by decide) ?_
    exact ih_4 (k + 1) ⟨by omega, by omega⟩ (show ((n - (k + 1)).toNat) < ((n - k).toNat) by omega) ls (lv_sub hl [0, 1, 2, 3] rfl)
set_option maxRecDepth 100000 in
set_option maxHeartbeats 4000000 in
theorem c_X2_dividerAheadOf (l : Launch) (D : va_G) (cy : Nat → ClassId) (r sg : Nat) (n : Int) (g q : Int → Int) (d sn : Int) (hG : RG n g q) (hd : 0 ≤ d ∧ d ≤ 1) (hs : inR sn) : Rd l yX2_dividerAheadOf cX2_dividerAheadOf 6 (some FieldType.int) 2 [.ref r, vI d, vI sn] D cy [(r, .inr (2, [.ref sg, vI n])), (sg, .inl (cy 0, 24, .inl (iA g)))] (dva n q d sn) := by
  refine Rd.of RX2 rfl [(0, .ref r), (1, vI d), (2, vI sn)] rfl (by decide +kernel) (Nat.le_of_ble_eq_true rfl) ?_
  intro p e s m args below meth c F hr hlocks hK hP ls hl
  have hn0 := hG.1
  have hn1 := hG.2.1
  refine rr_iconst F dX2_dividerAheadOf_0 ?_
  refine lv_istore_n (lv' := [(3, vI 0), (0, .ref r), (1, vI d), (2, vI sn)]) F.1 F.2.1 dX2_dividerAheadOf_1 rfl hl (by decide) rfl (fun ls hl => ?_)
  refine rr_iconst F dX2_dividerAheadOf_2 ?_
  refine lv_istore (lv' := [(4, vI 0), (3, vI 0), (0, .ref r), (1, vI d), (2, vI sn)]) F.1 F.2.1 dX2_dividerAheadOf_3 hl (by decide) rfl (fun ls hl => ?_)
  refine rr_loop1 (fun k => (0 ≤ k) ∧ (k ≤ n) ∧ (∀ j, 0 ≤ j → j < k → ¬ (0 < seg n q (plc n d j) d ∧ cnt (fun j => 0 < seg n q (plc n d j) d) j = sn))) (fun k => (n - k).toNat) (fun k => [(4, vI k), (3, vI (cnt (fun j => 0 < seg n q (plc n d j) d) k)), (0, .ref r), (1, vI d), (2, vI sn)]) ?_ 0 ⟨by omega, by omega, fun j x y => by omega⟩ (lv_sub hl [0, 1, 2, 3, 4] rfl)
  intro k hI ih_5 ls hl
  obtain ⟨k0, k1, kq⟩ := hI
  have hl : lv_has ls 6 [(4, vI k), (3, vI (cnt (fun j => 0 < seg n q (plc n d j) d) k)), (0, .ref r), (1, vI d), (2, vI sn)] := hl
  have cr := cnt_rng (fun j => 0 < seg n q (plc n d j) d) k0
  refine lv_iload F.1 F.2.1 dX2_dividerAheadOf_5 (lv_at hl 0 rfl) ?_
  refine lv_aload_n F.1 F.2.1 dX2_dividerAheadOf_7 rfl (lv_at hl 2 rfl) ?_
  refine gf2_1 F hK hP 0 rfl tw57 dX2_dividerAheadOf_8 ?_
  refine rr_icmp_ge F (tgt := 61) dX2_dividerAheadOf_11 (by decide) ⟨by omega, by omega⟩ ⟨by omega, by omega⟩ (fun c_11 => ?_) (fun c_11 => ?_)
  · refine rr_iconst F dX2_dividerAheadOf_61 ?_
    exact rr_iret F hr hlocks dX2_dividerAheadOf_62 (dva_miss hn0 (fun j x y => kq j x (by omega)))
  · refine lv_iload_n F.1 F.2.1 dX2_dividerAheadOf_14 rfl (lv_at hl 3 rfl) ?_
    refine rr_if_ne F (tgt := 23) dX2_dividerAheadOf_15 (by decide) ⟨by omega, by omega⟩ (fun c_15 => ?_) (fun c_15 => ?_)
    · refine lv_aload_n F.1 F.2.1 dX2_dividerAheadOf_23 rfl (lv_at hl 2 rfl) ?_
      refine gf2_1 F hK hP 0 rfl tw57 dX2_dividerAheadOf_24 ?_
      refine rr_iconst F dX2_dividerAheadOf_27 ?_
      refine rr_isub F (z := n - 1) dX2_dividerAheadOf_28 (by first | rfl | omega) ?_
      refine lv_iload F.1 F.2.1 dX2_dividerAheadOf_29 (lv_at hl 0 rfl) ?_
      refine rr_isub F (z := (n - 1) - k) dX2_dividerAheadOf_31 (by first | rfl | omega) ?_
      refine ek_v (P := fun z => W p l e _ s m args below meth c _ _ _ _ _ (F0 m 32 ls (z :: []))) (show (vI ((n - 1) - k) : Value) = vI (plc n d k) from by unfold plc; rw [if_neg (by assumption)]) ?_
      have pr := plc_rng (d := d) k0 c_11
      have pe : plc n d k = if d = 0 then k else n - 1 - k := rfl
      refine lv_istore (lv' := [(5, vI (plc n d k)), (4, vI k), (3, vI (cnt (fun j => 0 < seg n q (plc n d j) d) k)), (0, .ref r), (1, vI d), (2, vI sn)]) F.1 F.2.1 dX2_dividerAheadOf_32 hl (by decide) rfl (fun ls hl => ?_)
      refine lv_aload_n F.1 F.2.1 dX2_dividerAheadOf_34 rfl (lv_at hl 3 rfl) ?_
      refine lv_iload F.1 F.2.1 dX2_dividerAheadOf_35 (lv_at hl 0 rfl) ?_
      refine lv_iload_n F.1 F.2.1 dX2_dividerAheadOf_37 rfl (lv_at hl 4 rfl) ?_
      refine rr_rdV (rest := []) F hK (c_X2_segmentLength l D cy r sg n g q (plc n d k) d (by first | assumption | omega | exact ⟨by omega, by omega⟩) (by first | assumption | omega | exact ⟨by omega, by omega⟩) (by first | assumption | omega | exact ⟨by omega, by omega⟩)) hP sf_X2_segmentLength tw456 2 rfl rfl ⟨Nat.le_of_ble_eq_true rfl, Nat.le_of_ble_eq_true rfl⟩ hl rfl (Nat.le_of_ble_eq_true rfl) dX2_dividerAheadOf_38 ⟨Nat.zero_le _, Nat.zero_le _⟩ ?_
      have q_38_0 := (seg_rng (n := n) (by omega) q (plc n d k) d)
      refine rr_if_le F (tgt := 55) dX2_dividerAheadOf_41 (by decide) ⟨by omega, by omega⟩ (fun c_41 => ?_) (fun c_41 => ?_)
      · refine lv_iinc (v := iI (k + 1)) (lv' := [(4, vI (k + 1)), (5, vI (plc n d k)), (3, vI (cnt (fun j => 0 < seg n q (plc n d j) d) k)), (0, .ref r), (1, vI d), (2, vI sn)]) F.1 F.2.1 dX2_dividerAheadOf_55 hl (k := 1) rfl (iinc_ok (by first | rfl | omega)) (by decide) rfl (fun ls hl => ?_)
        refine lv_goto (tgt := 5) F.1 F.2.1 dX2_dividerAheadOf_58 (by decide) ?_
        exact ih_5 (k + 1) ⟨by omega, by omega, fun j x y => (if hj : j = k then by subst hj; intro h; first | exact c_46 h.2.symm | exact c_46 h.2 | (have := h.1; omega) else kq j x (by omega))⟩ (show ((n - (k + 1)).toNat) < ((n - k).toNat) by omega) ls (lv_cv (lv_sub hl [0, 2, 3, 4, 5] rfl) (by rw [← show (cnt (fun j => 0 < seg n q (plc n d j) d) k : Int) = cnt (fun u_j => 0 < seg n q (plc n d u_j) d) (k + 1) from by first | exact cnt_n (P := fun j => 0 < seg n q (plc n d j) d) k0 (show ¬ 0 < seg n q (plc n d k) d by omega) | exact cnt_y (P := fun j => 0 < seg n q (plc n d j) d) k0 (by assumption)]; rfl))
      · refine lv_iload_n F.1 F.2.1 dX2_dividerAheadOf_44 rfl (lv_at hl 2 rfl) ?_
        refine lv_iload_n F.1 F.2.1 dX2_dividerAheadOf_45 rfl (lv_at hl 5 rfl) ?_
        refine rr_icmp_ne F (tgt := 52) dX2_dividerAheadOf_46 (by decide) ⟨by omega, by omega⟩ hs (fun c_46 => ?_) (fun c_46 => ?_)
        · refine lv_iinc (v := iI ((cnt (fun j => 0 < seg n q (plc n d j) d) k) + 1)) (lv' := [(3, vI ((cnt (fun j => 0 < seg n q (plc n d j) d) k) + 1)), (5, vI (plc n d k)), (4, vI k), (0, .ref r), (1, vI d), (2, vI sn)]) F.1 F.2.1 dX2_dividerAheadOf_52 hl (k := 2) rfl (iinc_ok (by first | rfl | omega)) (by decide) rfl (fun ls hl => ?_)
          refine lv_iinc (v := iI (k + 1)) (lv' := [(4, vI (k + 1)), (3, vI ((cnt (fun j => 0 < seg n q (plc n d j) d) k) + 1)), (5, vI (plc n d k)), (0, .ref r), (1, vI d), (2, vI sn)]) F.1 F.2.1 dX2_dividerAheadOf_55 hl (k := 2) rfl (iinc_ok (by first | rfl | omega)) (by decide) rfl (fun ls hl => ?_)
          refine lv_goto (tgt := 5) F.1 F.2.1 dX2_dividerAheadOf_58 (by decide) ?_
          exact ih_5 (k + 1) ⟨by omega, by omega, fun j x y => (if hj : j = k then by subst hj; intro h; first | exact c_46 h.2.symm | exact c_46 h.2 | (have := h.1; omega) else kq j x (by omega))⟩ (show ((n - (k + 1)).toNat) < ((n - k).toNat) by omega) ls (lv_cv (lv_sub hl [0, 1, 3, 4, 5] rfl) (by rw [← show ((cnt (fun j => 0 < seg n q (plc n d j) d) k) + 1 : Int) = cnt (fun u_j => 0 < seg n q (plc n d u_j) d) (k + 1) from by first | exact cnt_n (P := fun j => 0 < seg n q (plc n d j) d) k0 (show ¬ 0 < seg n q (plc n d k) d by omega) | exact cnt_y (P := fun j => 0 < seg n q (plc n d j) d) k0 (by assumption)]; rfl))
        · refine lv_iload F.1 F.2.1 dX2_dividerAheadOf_49 (lv_at hl 0 rfl) ?_
          exact rr_iret F hr hlocks dX2_dividerAheadOf_51 (dva_hit k0 (by omega) (by assumption) (by first | assumption | (symm; assumption)) kq)
    · refine lv_iload F.1 F.2.1 dX2_dividerAheadOf_18 (lv_at hl 0 rfl) ?_
      refine lv_goto (tgt := 32) F.1 F.2.1 dX2_dividerAheadOf_20 (by decide) ?_
      refine ek_v (P := fun z => W p l e _ s m args below meth c _ _ _ _ _ (F0 m 32 ls (z :: []))) (show (vI k : Value) = vI (plc n d k) from by unfold plc; rw [if_pos (by assumption)]) ?_
      have pr := plc_rng (d := d) k0 c_11
      have pe : plc n d k = if d = 0 then k else n - 1 - k := rfl
      refine lv_istore (lv' := [(5, vI (plc n d k)), (4, vI k), (3, vI (cnt (fun j => 0 < seg n q (plc n d j) d) k)), (0, .ref r), (1, vI d), (2, vI sn)]) F.1 F.2.1 dX2_dividerAheadOf_32 hl (by decide) rfl (fun ls hl => ?_)
      refine lv_aload_n F.1 F.2.1 dX2_dividerAheadOf_34 rfl (lv_at hl 3 rfl) ?_
      refine lv_iload F.1 F.2.1 dX2_dividerAheadOf_35 (lv_at hl 0 rfl) ?_
      refine lv_iload_n F.1 F.2.1 dX2_dividerAheadOf_37 rfl (lv_at hl 4 rfl) ?_
      refine rr_rdV (rest := []) F hK (c_X2_segmentLength l D cy r sg n g q (plc n d k) d (by first | assumption | omega | exact ⟨by omega, by omega⟩) (by first | assumption | omega | exact ⟨by omega, by omega⟩) (by first | assumption | omega | exact ⟨by omega, by omega⟩)) hP sf_X2_segmentLength tw456 2 rfl rfl ⟨Nat.le_of_ble_eq_true rfl, Nat.le_of_ble_eq_true rfl⟩ hl rfl (Nat.le_of_ble_eq_true rfl) dX2_dividerAheadOf_38 ⟨Nat.zero_le _, Nat.zero_le _⟩ ?_
      have q_38_0 := (seg_rng (n := n) (by omega) q (plc n d k) d)
      refine rr_if_le F (tgt := 55) dX2_dividerAheadOf_41 (by decide) ⟨by omega, by omega⟩ (fun c_41 => ?_) (fun c_41 => ?_)
      · refine lv_iinc (v := iI (k + 1)) (lv' := [(4, vI (k + 1)), (5, vI (plc n d k)), (3, vI (cnt (fun j => 0 < seg n q (plc n d j) d) k)), (0, .ref r), (1, vI d), (2, vI sn)]) F.1 F.2.1 dX2_dividerAheadOf_55 hl (k := 1) rfl (iinc_ok (by first | rfl | omega)) (by decide) rfl (fun ls hl => ?_)
        refine lv_goto (tgt := 5) F.1 F.2.1 dX2_dividerAheadOf_58 (by decide) ?_
        exact ih_5 (k + 1) ⟨by omega, by omega, fun j x y => (if hj : j = k then by subst hj; intro h; first | exact c_46 h.2.symm | exact c_46 h.2 | (have := h.1; omega) else kq j x (by omega))⟩ (show ((n - (k + 1)).toNat) < ((n - k).toNat) by omega) ls (lv_cv (lv_sub hl [0, 2, 3, 4, 5] rfl) (by rw [← show (cnt (fun j => 0 < seg n q (plc n d j) d) k : Int) = cnt (fun u_j => 0 < seg n q (plc n d u_j) d) (k + 1) from by first | exact cnt_n (P := fun j => 0 < seg n q (plc n d j) d) k0 (show ¬ 0 < seg n q (plc n d k) d by omega) | exact cnt_y (P := fun j => 0 < seg n q (plc n d j) d) k0 (by assumption)]; rfl))
      · refine lv_iload_n F.1 F.2.1 dX2_dividerAheadOf_44 rfl (lv_at hl 2 rfl) ?_
        refine lv_iload_n F.1 F.2.1 dX2_dividerAheadOf_45 rfl (lv_at hl 5 rfl) ?_
        refine rr_icmp_ne F (tgt := 52) dX2_dividerAheadOf_46 (by decide) ⟨by omega, by omega⟩ hs (fun c_46 => ?_) (fun c_46 => ?_)
        · refine lv_iinc (v := iI ((cnt (fun j => 0 < seg n q (plc n d j) d) k) + 1)) (lv' := [(3, vI ((cnt (fun j => 0 < seg n q (plc n d j) d) k) + 1)), (5, vI (plc n d k)), (4, vI k), (0, .ref r), (1, vI d), (2, vI sn)]) F.1 F.2.1 dX2_dividerAheadOf_52 hl (k := 2) rfl (iinc_ok (by first | rfl | omega)) (by decide) rfl (fun ls hl => ?_)
          refine lv_iinc (v := iI (k + 1)) (lv' := [(4, vI (k + 1)), (3, vI ((cnt (fun j => 0 < seg n q (plc n d j) d) k) + 1)), (5, vI (plc n d k)), (0, .ref r), (1, vI d), (2, vI sn)]) F.1 F.2.1 dX2_dividerAheadOf_55 hl (k := 2) rfl (iinc_ok (by first | rfl | omega)) (by decide) rfl (fun ls hl => ?_)
          refine lv_goto (tgt := 5) F.1 F.2.1 dX2_dividerAheadOf_58 (by decide) ?_
          exact ih_5 (k + 1) ⟨by omega, by omega, fun j x y => (if hj : j = k then by subst hj; intro h; first | exact c_46 h.2.symm | exact c_46 h.2 | (have := h.1; omega) else kq j x (by omega))⟩ (show ((n - (k + 1)).toNat) < ((n - k).toNat) by omega) ls (lv_cv (lv_sub hl [0, 1, 3, 4, 5] rfl) (by rw [← show ((cnt (fun j => 0 < seg n q (plc n d j) d) k) + 1 : Int) = cnt (fun u_j => 0 < seg n q (plc n d u_j) d) (k + 1) from by first | exact cnt_n (P := fun j => 0 < seg n q (plc n d j) d) k0 (show ¬ 0 < seg n q (plc n d k) d by omega) | exact cnt_y (P := fun j => 0 < seg n q (plc n d j) d) k0 (by assumption)]; rfl))
        · refine lv_iload F.1 F.2.1 dX2_dividerAheadOf_49 (lv_at hl 0 rfl) ?_
          exact rr_iret F hr hlocks dX2_dividerAheadOf_51 (dva_hit k0 (by omega) (by assumption) (by first | assumption | (symm; assumption)) kq)
set_option maxRecDepth 100000 in
set_option maxHeartbeats 4000000 in
theorem c_X2_wornInSegment (l : Launch) (D : va_G) (cy : Nat → ClassId) (r sg : Nat) (n : Int) (g q : Int → Int) (pl d : Int) (hG : RG n g q) (hp : 0 ≤ pl ∧ pl < n) (hd : 0 ≤ d ∧ d ≤ 1) : Rd l yX2_wornInSegment cX2_wornInSegment 6 (some FieldType.int) 2 [.ref r, vI pl, vI d] D cy [(r, .inr (2, [.ref sg, vI n])), (sg, .inl (cy 0, 24, .inl (iA g)))] (cnt (fun j => q (off n pl d (j + 1)) = 9) (seg n q pl d)) := by
  refine Rd.of RX2 rfl [(0, .ref r), (1, vI pl), (2, vI d)] rfl (by decide +kernel) (Nat.le_of_ble_eq_true rfl) ?_
  intro p e s m args below meth c F hr hlocks hK hP ls hl
  have hn0 := hG.1
  have hn1 := hG.2.1
  refine lv_aload_n F.1 F.2.1 dX2_wornInSegment_0 rfl (lv_at hl 0 rfl) ?_
  refine lv_iload_n F.1 F.2.1 dX2_wornInSegment_1 rfl (lv_at hl 1 rfl) ?_
  refine lv_iload_n F.1 F.2.1 dX2_wornInSegment_2 rfl (lv_at hl 2 rfl) ?_
  refine rr_rdV (rest := []) F hK (c_X2_segmentLength l D cy r sg n g q pl d (by first | assumption | omega | exact ⟨by omega, by omega⟩) (by first | assumption | omega | exact ⟨by omega, by omega⟩) (by first | assumption | omega | exact ⟨by omega, by omega⟩)) hP sf_X2_segmentLength tw456 2 rfl rfl ⟨Nat.le_of_ble_eq_true rfl, Nat.le_of_ble_eq_true rfl⟩ hl rfl (Nat.le_of_ble_eq_true rfl) dX2_wornInSegment_3 ⟨Nat.zero_le _, Nat.zero_le _⟩ ?_
  have q_3_0 := (seg_rng (n := n) (by omega) q pl d)
  refine lv_istore_n (lv' := [(3, vI (seg n q pl d)), (0, .ref r), (1, vI pl), (2, vI d)]) F.1 F.2.1 dX2_wornInSegment_6 rfl hl (by decide) rfl (fun ls hl => ?_)
  refine rr_iconst F dX2_wornInSegment_7 ?_
  refine lv_istore (lv' := [(4, vI 0), (3, vI (seg n q pl d)), (0, .ref r), (1, vI pl), (2, vI d)]) F.1 F.2.1 dX2_wornInSegment_8 hl (by decide) rfl (fun ls hl => ?_)
  refine rr_iconst F dX2_wornInSegment_10 ?_
  refine lv_istore (lv' := [(5, vI 1), (4, vI 0), (3, vI (seg n q pl d)), (0, .ref r), (1, vI pl), (2, vI d)]) F.1 F.2.1 dX2_wornInSegment_11 hl (by decide) rfl (fun ls hl => ?_)
  refine rr_loop1 (fun k => (1 ≤ k) ∧ (k ≤ seg n q pl d + 1)) (fun k => (25 - k).toNat) (fun k => [(5, vI k), (4, vI (cnt (fun j => q (off n pl d (j + 1)) = 9) (k - 1))), (3, vI (seg n q pl d)), (0, .ref r), (1, vI pl), (2, vI d)]) ?_ 1 ⟨by omega, by omega⟩ (lv_sub hl [0, 1, 2, 3, 4, 5] rfl)
  intro k hI ih_13 ls hl
  obtain ⟨k0, k1⟩ := hI
  have hl : lv_has ls 6 [(5, vI k), (4, vI (cnt (fun j => q (off n pl d (j + 1)) = 9) (k - 1))), (3, vI (seg n q pl d)), (0, .ref r), (1, vI pl), (2, vI d)] := hl
  have sr := seg_rng (n := n) (by omega) q pl d
  refine lv_iload F.1 F.2.1 dX2_wornInSegment_13 (lv_at hl 0 rfl) ?_
  refine lv_iload_n F.1 F.2.1 dX2_wornInSegment_15 rfl (lv_at hl 2 rfl) ?_
  refine rr_icmp_gt F (tgt := 45) dX2_wornInSegment_16 (by decide) ⟨by omega, by omega⟩ ⟨by omega, by omega⟩ (fun c_16 => ?_) (fun c_16 => ?_)
  · refine lv_iload F.1 F.2.1 dX2_wornInSegment_45 (lv_at hl 1 rfl) ?_
    exact rr_iret F hr hlocks dX2_wornInSegment_47 (by rw [show k - 1 = seg n q pl d by omega])
  · refine lv_aload_n F.1 F.2.1 dX2_wornInSegment_19 rfl (lv_at hl 3 rfl) ?_
    refine lv_aload_n F.1 F.2.1 dX2_wornInSegment_20 rfl (lv_at hl 3 rfl) ?_
    refine lv_iload_n F.1 F.2.1 dX2_wornInSegment_21 rfl (lv_at hl 4 rfl) ?_
    refine lv_iload_n F.1 F.2.1 dX2_wornInSegment_22 rfl (lv_at hl 5 rfl) ?_
    refine lv_iload F.1 F.2.1 dX2_wornInSegment_23 (lv_at hl 0 rfl) ?_
    refine rr_rdV (rest := [.ref r]) F hK (c_X2_onward l D cy r sg n g q pl d k (by first | assumption | omega | exact ⟨by omega, by omega⟩) (by first | assumption | omega | exact ⟨by omega, by omega⟩) (by first | assumption | omega | exact ⟨by omega, by omega⟩) (by first | assumption | omega | exact ⟨by omega, by omega⟩)) hP sf_X2_onward tw227 2 rfl rfl ⟨Nat.le_of_ble_eq_true rfl, Nat.le_of_ble_eq_true rfl⟩ hl rfl (Nat.le_of_ble_eq_true rfl) dX2_wornInSegment_25 ⟨Nat.zero_le _, Nat.zero_le _⟩ ?_
    have q_25_0 := (off_rng (n := n) (by omega) pl d k)
    refine rr_rdV (rest := []) F hK (c_X2_signAt l D cy r sg n g q (off n pl d k) (by first | assumption | omega | exact ⟨by omega, by omega⟩) (by first | assumption | omega | exact ⟨by omega, by omega⟩) (by first | assumption | omega | exact ⟨by omega, by omega⟩)) hP sf_X2_signAt tw384 2 rfl rfl ⟨Nat.le_of_ble_eq_true rfl, Nat.le_of_ble_eq_true rfl⟩ hl rfl (Nat.le_of_ble_eq_true rfl) dX2_wornInSegment_28 ⟨Nat.zero_le _, Nat.zero_le _⟩ ?_
    have q_28_0 := (RG.at hG (j := (off n pl d k)) (by first | assumption | omega) (by first | assumption | omega))
    refine rr_bipush F dX2_wornInSegment_31 (by decide) ?_
    have oa := off_rng (n := n) (by omega) pl d k
    have ia := hG.at oa.1 oa.2
    have sn := sc_9 ia.2.1
    refine rr_icmp_ne F (tgt := 39) dX2_wornInSegment_33 (by decide) ⟨by omega, by omega⟩ ⟨by omega, by omega⟩ (fun c_33 => ?_) (fun c_33 => ?_)
    · refine lv_iinc (v := iI (k + 1)) (lv' := [(5, vI (k + 1)), (4, vI (cnt (fun j => q (off n pl d (j + 1)) = 9) (k - 1))), (3, vI (seg n q pl d)), (0, .ref r), (1, vI pl), (2, vI d)]) F.1 F.2.1 dX2_wornInSegment_39 hl (k := 0) rfl (iinc_ok (by first | rfl | omega)) (by decide) rfl (fun ls hl => ?_)
      refine lv_goto (tgt := 13) F.1 F.2.1 dX2_wornInSegment_42 (by decide) ?_
      exact ih_13 (k + 1) ⟨by omega, by omega⟩ (show ((25 - (k + 1)).toNat) < ((25 - k).toNat) by omega) ls (lv_cv (lv_sub hl [0, 1, 2, 3, 4, 5] rfl) (by rw [← show (cnt (fun j => q (off n pl d (j + 1)) = 9) (k - 1) : Int) = cnt (fun u_j => q (off n pl d (u_j + 1)) = 9) ((k + 1) - 1) from by first | rfl | (rw [show k + 1 - 1 = (k - 1) + 1 by omega]; first | exact cnt_n (P := fun j => q (off n pl d (j + 1)) = 9) (by omega) (by rw [show k - 1 + 1 = k by omega]; exact fun h => c_33 (sn.mpr h)) | exact cnt_y (P := fun j => q (off n pl d (j + 1)) = 9) (by omega) (by rw [show k - 1 + 1 = k by omega]; exact sn.mp c_33))]; rfl))
    · refine lv_iinc (v := iI ((cnt (fun j => q (off n pl d (j + 1)) = 9) (k - 1)) + 1)) (lv' := [(4, vI ((cnt (fun j => q (off n pl d (j + 1)) = 9) (k - 1)) + 1)), (5, vI k), (3, vI (seg n q pl d)), (0, .ref r), (1, vI pl), (2, vI d)]) F.1 F.2.1 dX2_wornInSegment_36 hl (k := 1) rfl (iinc_ok (by first | rfl | omega)) (by decide) rfl (fun ls hl => ?_)
      refine lv_iinc (v := iI (k + 1)) (lv' := [(5, vI (k + 1)), (4, vI ((cnt (fun j => q (off n pl d (j + 1)) = 9) (k - 1)) + 1)), (3, vI (seg n q pl d)), (0, .ref r), (1, vI pl), (2, vI d)]) F.1 F.2.1 dX2_wornInSegment_39 hl (k := 1) rfl (iinc_ok (by first | rfl | omega)) (by decide) rfl (fun ls hl => ?_)
      refine lv_goto (tgt := 13) F.1 F.2.1 dX2_wornInSegment_42 (by decide) ?_
      exact ih_13 (k + 1) ⟨by omega, by omega⟩ (show ((25 - (k + 1)).toNat) < ((25 - k).toNat) by omega) ls (lv_cv (lv_sub hl [0, 1, 2, 3, 4, 5] rfl) (by rw [← show ((cnt (fun j => q (off n pl d (j + 1)) = 9) (k - 1)) + 1 : Int) = cnt (fun u_j => q (off n pl d (u_j + 1)) = 9) ((k + 1) - 1) from by first | rfl | (rw [show k + 1 - 1 = (k - 1) + 1 by omega]; first | exact cnt_n (P := fun j => q (off n pl d (j + 1)) = 9) (by omega) (by rw [show k - 1 + 1 = k by omega]; exact fun h => c_33 (sn.mpr h)) | exact cnt_y (P := fun j => q (off n pl d (j + 1)) = 9) (by omega) (by rw [show k - 1 + 1 = k by omega]; exact sn.mp c_33))]; rfl))
set_option maxRecDepth 100000 in
set_option maxHeartbeats 4000000 in
theorem c_X2_distanceFromDivider (l : Launch) (D : va_G) (cy : Nat → ClassId) (r sg : Nat) (n : Int) (g q : Int → Int) (pl d : Int) (hG : RG n g q) (hp : 0 ≤ pl ∧ pl < n) (hd : 0 ≤ d ∧ d ≤ 1) : Rd l yX2_distanceFromDivider cX2_distanceFromDivider 4 (some FieldType.int) 1 [.ref r, vI pl, vI d] D cy [(r, .inr (2, [.ref sg, vI n])), (sg, .inl (cy 0, 24, .inl (iA g)))] (dfd n q pl d) := by
  refine Rd.of RX2 rfl [(0, .ref r), (1, vI pl), (2, vI d)] rfl (by decide +kernel) (Nat.le_of_ble_eq_true rfl) ?_
  intro p e s m args below meth c F hr hlocks hK hP ls hl
  have hn0 := hG.1
  have hn1 := hG.2.1
  refine rr_iconst F dX2_distanceFromDivider_0 ?_
  refine lv_istore_n (lv' := [(3, vI 0), (0, .ref r), (1, vI pl), (2, vI d)]) F.1 F.2.1 dX2_distanceFromDivider_1 rfl hl (by decide) rfl (fun ls hl => ?_)
  refine rr_loop1 (fun k => (0 ≤ k) ∧ (k ≤ n) ∧ (∀ j, 0 ≤ j → j < k → ¬ q (off n pl (1 - d) j) = 0)) (fun k => (n - k).toNat) (fun k => [(3, vI k), (0, .ref r), (1, vI pl), (2, vI d)]) ?_ 0 ⟨by omega, by omega, fun j x y => by omega⟩ (lv_sub hl [0, 1, 2, 3] rfl)
  intro k hI ih_2 ls hl
  obtain ⟨k0, k1, kq⟩ := hI
  have hl : lv_has ls 4 [(3, vI k), (0, .ref r), (1, vI pl), (2, vI d)] := hl
  refine lv_iload_n F.1 F.2.1 dX2_distanceFromDivider_2 rfl (lv_at hl 0 rfl) ?_
  refine lv_aload_n F.1 F.2.1 dX2_distanceFromDivider_3 rfl (lv_at hl 1 rfl) ?_
  refine gf2_1 F hK hP 0 rfl tw57 dX2_distanceFromDivider_4 ?_
  refine rr_icmp_ge F (tgt := 34) dX2_distanceFromDivider_7 (by decide) ⟨by omega, by omega⟩ ⟨by omega, by omega⟩ (fun c_7 => ?_) (fun c_7 => ?_)
  · refine rr_iconst F dX2_distanceFromDivider_34 ?_
    exact rr_iret F hr hlocks dX2_distanceFromDivider_35 (dfd_miss hn0 (fun j x y => kq j x (by omega)))
  · refine lv_aload_n F.1 F.2.1 dX2_distanceFromDivider_10 rfl (lv_at hl 1 rfl) ?_
    refine lv_aload_n F.1 F.2.1 dX2_distanceFromDivider_11 rfl (lv_at hl 1 rfl) ?_
    refine lv_iload_n F.1 F.2.1 dX2_distanceFromDivider_12 rfl (lv_at hl 2 rfl) ?_
    refine rr_iconst F dX2_distanceFromDivider_13 ?_
    refine lv_iload_n F.1 F.2.1 dX2_distanceFromDivider_14 rfl (lv_at hl 3 rfl) ?_
    refine rr_isub F (z := 1 - d) dX2_distanceFromDivider_15 (by first | rfl | omega) ?_
    refine lv_iload_n F.1 F.2.1 dX2_distanceFromDivider_16 rfl (lv_at hl 0 rfl) ?_
    refine rr_rdV (rest := [.ref r]) F hK (c_X2_onward l D cy r sg n g q pl (1 - d) k (by first | assumption | omega | exact ⟨by omega, by omega⟩) (by first | assumption | omega | exact ⟨by omega, by omega⟩) (by first | assumption | omega | exact ⟨by omega, by omega⟩) (by first | assumption | omega | exact ⟨by omega, by omega⟩)) hP sf_X2_onward tw227 2 rfl rfl ⟨Nat.le_of_ble_eq_true rfl, Nat.le_of_ble_eq_true rfl⟩ hl rfl (Nat.le_of_ble_eq_true rfl) dX2_distanceFromDivider_17 ⟨Nat.zero_le _, Nat.zero_le _⟩ ?_
    have q_17_0 := (off_rng (n := n) (by omega) pl (1 - d) k)
    refine rr_rdV (rest := []) F hK (c_X2_isDivider l D cy r sg n g q (off n pl (1 - d) k) (by first | assumption | omega | exact ⟨by omega, by omega⟩) (by first | assumption | omega | exact ⟨by omega, by omega⟩) (by first | assumption | omega | exact ⟨by omega, by omega⟩)) hP sf_X2_isDivider tw223 2 rfl rfl ⟨Nat.le_of_ble_eq_true rfl, Nat.le_of_ble_eq_true rfl⟩ hl rfl (Nat.le_of_ble_eq_true rfl) dX2_distanceFromDivider_20 ⟨Nat.zero_le _, Nat.zero_le _⟩ ?_
    refine rr_ifP_eq F (tgt := 28) dX2_distanceFromDivider_23 (by decide) (fun c_23 => ?_) (fun c_23 => ?_)
    · refine lv_iinc (v := iI (k + 1)) (lv' := [(3, vI (k + 1)), (0, .ref r), (1, vI pl), (2, vI d)]) F.1 F.2.1 dX2_distanceFromDivider_28 hl (k := 0) rfl (iinc_ok (by first | rfl | omega)) (by decide) rfl (fun ls hl => ?_)
      refine lv_goto (tgt := 2) F.1 F.2.1 dX2_distanceFromDivider_31 (by decide) ?_
      exact ih_2 (k + 1) ⟨by omega, by omega, fun j x y => (if hj : j = k then by subst hj; exact c_23 else kq j x (by omega))⟩ (show ((n - (k + 1)).toNat) < ((n - k).toNat) by omega) ls (lv_sub hl [0, 1, 2, 3] rfl)
    · refine lv_iload_n F.1 F.2.1 dX2_distanceFromDivider_26 rfl (lv_at hl 0 rfl) ?_
      exact rr_iret F hr hlocks dX2_distanceFromDivider_27 (dfd_hit k0 (by omega) (by assumption) kq)
