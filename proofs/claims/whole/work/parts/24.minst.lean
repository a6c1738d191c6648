set_option maxRecDepth 100000 in
set_option maxHeartbeats 4000000 in
theorem c_X7_refuses (l : Launch) (D : va_G) (cy : Nat → ClassId) (mo no th pa sl sv tx : Nat) (tr ss ty : Int) (x : Int) (hx : inR x) : Wr l yX7_refuses cX7_refuses 2 (some FieldType.boolean) 0 [.ref mo, vI x] D cy [(mo, .inr (7, [vI tr, .ref no, .ref th, .ref pa, vI ss, .ref sl, .ref sv, .ref tx, vI ty]))] [(mo, .inr (7, [vI x, .ref no, .ref th, .ref pa, vI ss, .ref sl, .ref sv, .ref tx, vI ty]))] (some (vI (b2i (pB (0 < x))))) := by
  refine Wr.of RX7 rfl [(0, .ref mo), (1, vI x)] rfl (by decide +kernel) (Nat.le_of_ble_eq_true rfl) ?_
  intro p e s m args below meth c F hr hlocks hK hP hD hS hA ls hl
  refine lv_aload_n F.1 F.2.1 dX7_refuses_0 rfl (lv_at hl 0 rfl) ?_
  refine lv_iload_n F.1 F.2.1 dX7_refuses_1 rfl (lv_at hl 1 rfl) ?_
  refine pf7_0 F hK hP hD hS 0 rfl tw874 dX7_refuses_2 (fun H locs hP hD hS => ?_)
  have hP : va_P D vwCl [(mo, .inr (7, [vI x, .ref no, .ref th, .ref pa, vI ss, .ref sl, .ref sv, .ref tx, vI ty]))] H := hP
  have hD : va_D _ [(mo, .inr (7, [vI x, .ref no, .ref th, .ref pa, vI ss, .ref sl, .ref sv, .ref tx, vI ty]))] := hD
  refine lv_iload_n F.1 F.2.1 dX7_refuses_5 rfl (lv_at hl 1 rfl) ?_
  refine rr_if_le F (tgt := 13) dX7_refuses_6 (by decide) hx (fun c_6 => ?_) (fun c_6 => ?_)
  · refine rr_iconst F dX7_refuses_13 ?_
    exact rr_wzret F hr hlocks (b := false) dX7_refuses_14 hP hS (rfl) rfl (b2i_f (by omega))
  · refine rr_iconst F dX7_refuses_9 ?_
    refine lv_goto (tgt := 14) F.1 F.2.1 dX7_refuses_10 (by decide) ?_
    exact rr_wzret F hr hlocks (b := true) dX7_refuses_14 hP hS (rfl) rfl (b2i_t (by omega))
set_option maxRecDepth 100000 in
set_option maxHeartbeats 4000000 in
theorem c_X7_isPlace (l : Launch) (D : va_G) (cy : Nat → ClassId) (mo no th pa sl sv tx : Nat) (tr ss ty : Int) (a : Int → Int) (i : Int) (hn : 0 ≤ a 0 ∧ a 0 ≤ 24) (hi : inR i) : Rd l yX7_isPlace cX7_isPlace 2 (some FieldType.boolean) 1 [.ref mo, vI i] D cy [(mo, .inr (7, [vI tr, .ref no, .ref th, .ref pa, vI ss, .ref sl, .ref sv, .ref tx, vI ty])), (no, .inl (cy 1, 118, .inl (iA a)))] (b2i (pB (0 ≤ i ∧ i ≤ a 0 - 1))) := by
  refine Rd.of RX7 rfl [(0, .ref mo), (1, vI i)] rfl (by decide +kernel) (Nat.le_of_ble_eq_true rfl) ?_
  intro p e s m args below meth c F hr hlocks hK hP ls hl
  refine lv_iload_n F.1 F.2.1 dX7_isPlace_0 rfl (lv_at hl 1 rfl) ?_
  refine rr_iconst F dX7_isPlace_1 ?_
  refine lv_aload_n F.1 F.2.1 dX7_isPlace_2 rfl (lv_at hl 0 rfl) ?_
  refine gf7_1 F hK hP 0 rfl tw875 dX7_isPlace_3 ?_
  refine rr_iconst F dX7_isPlace_6 ?_
  refine rr_iald F hK hP 1 rfl (by omega) (by omega) (by decide) dX7_isPlace_7 ?_
  refine rr_iconst F dX7_isPlace_8 ?_
  refine rr_isub F (z := (a 0) - 1) dX7_isPlace_9 (by first | rfl | omega) ?_
  refine rr_rdS (rest := []) F hK (c_X7_in l D cy i 0 ((a 0) - 1) (by first | assumption | omega | exact ⟨by omega, by omega⟩) (by first | assumption | omega | exact ⟨by omega, by omega⟩) (by first | assumption | omega | exact ⟨by omega, by omega⟩)) (hP.sub [] rfl) sf_X7_in tw921 ⟨Nat.le_of_ble_eq_true rfl, Nat.le_of_ble_eq_true rfl⟩ hl rfl (Nat.le_of_ble_eq_true rfl) dX7_isPlace_10 ⟨Nat.zero_le _, Nat.zero_le _⟩ ?_
  exact rr_zret F hr hlocks (b := (pB (0 ≤ i ∧ i ≤ ((a 0) - 1)))) dX7_isPlace_13 rfl (rfl)
set_option maxRecDepth 100000 in
set_option maxHeartbeats 4000000 in
theorem c_X7_isWord (l : Launch) (D : va_G) (cy : Nat → ClassId) (mo no th pa sl sv tx : Nat) (tr ss ty : Int) (a : Int → Int) (i : Int) (hn : 0 ≤ a 25 ∧ a 25 ≤ 10) (hi : inR i) : Rd l yX7_isWord cX7_isWord 2 (some FieldType.boolean) 1 [.ref mo, vI i] D cy [(mo, .inr (7, [vI tr, .ref no, .ref th, .ref pa, vI ss, .ref sl, .ref sv, .ref tx, vI ty])), (no, .inl (cy 1, 118, .inl (iA a)))] (b2i (pB (0 ≤ i ∧ i ≤ a 25 - 1))) := by
  refine Rd.of RX7 rfl [(0, .ref mo), (1, vI i)] rfl (by decide +kernel) (Nat.le_of_ble_eq_true rfl) ?_
  intro p e s m args below meth c F hr hlocks hK hP ls hl
  refine lv_iload_n F.1 F.2.1 dX7_isWord_0 rfl (lv_at hl 1 rfl) ?_
  refine rr_iconst F dX7_isWord_1 ?_
  refine lv_aload_n F.1 F.2.1 dX7_isWord_2 rfl (lv_at hl 0 rfl) ?_
  refine gf7_1 F hK hP 0 rfl tw875 dX7_isWord_3 ?_
  refine rr_bipush F dX7_isWord_6 (by decide) ?_
  refine rr_iald F hK hP 1 rfl (by omega) (by omega) (by decide) dX7_isWord_8 ?_
  refine rr_iconst F dX7_isWord_9 ?_
  refine rr_isub F (z := (a 25) - 1) dX7_isWord_10 (by first | rfl | omega) ?_
  refine rr_rdS (rest := []) F hK (c_X7_in l D cy i 0 ((a 25) - 1) (by first | assumption | omega | exact ⟨by omega, by omega⟩) (by first | assumption | omega | exact ⟨by omega, by omega⟩) (by first | assumption | omega | exact ⟨by omega, by omega⟩)) (hP.sub [] rfl) sf_X7_in tw921 ⟨Nat.le_of_ble_eq_true rfl, Nat.le_of_ble_eq_true rfl⟩ hl rfl (Nat.le_of_ble_eq_true rfl) dX7_isWord_11 ⟨Nat.zero_le _, Nat.zero_le _⟩ ?_
  exact rr_zret F hr hlocks (b := (pB (0 ≤ i ∧ i ≤ ((a 25) - 1)))) dX7_isWord_14 rfl (rfl)
set_option maxRecDepth 100000 in
set_option maxHeartbeats 4000000 in
theorem c_X7_isWalker (l : Launch) (D : va_G) (cy : Nat → ClassId) (mo no th pa sl sv tx : Nat) (tr ss ty : Int) (a : Int → Int) (i : Int) (hn : 0 ≤ a 96 ∧ a 96 ≤ 4) (hi : inR i) : Rd l yX7_isWalker cX7_isWalker 2 (some FieldType.boolean) 1 [.ref mo, vI i] D cy [(mo, .inr (7, [vI tr, .ref no, .ref th, .ref pa, vI ss, .ref sl, .ref sv, .ref tx, vI ty])), (no, .inl (cy 1, 118, .inl (iA a)))] (b2i (pB (0 ≤ i ∧ i ≤ a 96 - 1))) := by
  refine Rd.of RX7 rfl [(0, .ref mo), (1, vI i)] rfl (by decide +kernel) (Nat.le_of_ble_eq_true rfl) ?_
  intro p e s m args below meth c F hr hlocks hK hP ls hl
  refine lv_iload_n F.1 F.2.1 dX7_isWalker_0 rfl (lv_at hl 1 rfl) ?_
  refine rr_iconst F dX7_isWalker_1 ?_
  refine lv_aload_n F.1 F.2.1 dX7_isWalker_2 rfl (lv_at hl 0 rfl) ?_
  refine gf7_1 F hK hP 0 rfl tw875 dX7_isWalker_3 ?_
  refine rr_bipush F dX7_isWalker_6 (by decide) ?_
  refine rr_iald F hK hP 1 rfl (by omega) (by omega) (by decide) dX7_isWalker_8 ?_
  refine rr_iconst F dX7_isWalker_9 ?_
  refine rr_isub F (z := (a 96) - 1) dX7_isWalker_10 (by first | rfl | omega) ?_
  refine rr_rdS (rest := []) F hK (c_X7_in l D cy i 0 ((a 96) - 1) (by first | assumption | omega | exact ⟨by omega, by omega⟩) (by first | assumption | omega | exact ⟨by omega, by omega⟩) (by first | assumption | omega | exact ⟨by omega, by omega⟩)) (hP.sub [] rfl) sf_X7_in tw921 ⟨Nat.le_of_ble_eq_true rfl, Nat.le_of_ble_eq_true rfl⟩ hl rfl (Nat.le_of_ble_eq_true rfl) dX7_isWalker_11 ⟨Nat.zero_le _, Nat.zero_le _⟩ ?_
  exact rr_zret F hr hlocks (b := (pB (0 ≤ i ∧ i ≤ ((a 96) - 1)))) dX7_isWalker_14 rfl (rfl)
set_option maxRecDepth 100000 in
set_option maxHeartbeats 4000000 in
theorem c_X7_rankAt (l : Launch) (D : va_G) (cy : Nat → ClassId) (mo no th pa sl sv tx : Nat) (tr ss ty : Int) (a : Int → Int) (i : Int) (hi : 0 ≤ i ∧ i < 24) (hq : 0 ≤ a (1 + i) ∧ a (1 + i) ≤ 9) : Rd l yX7_rankAt cX7_rankAt 3 (some FieldType.int) 0 [.ref mo, vI i] D cy [(mo, .inr (7, [vI tr, .ref no, .ref th, .ref pa, vI ss, .ref sl, .ref sv, .ref tx, vI ty])), (no, .inl (cy 1, 118, .inl (iA a)))] (rk (a (1 + i))) := by
  refine Rd.of RX7 rfl [(0, .ref mo), (1, vI i)] rfl (by decide +kernel) (Nat.le_of_ble_eq_true rfl) ?_
  intro p e s m args below meth c F hr hlocks hK hP ls hl
  refine lv_aload_n F.1 F.2.1 dX7_rankAt_0 rfl (lv_at hl 0 rfl) ?_
  refine gf7_1 F hK hP 0 rfl tw875 dX7_rankAt_1 ?_
  refine rr_iconst F dX7_rankAt_4 ?_
  refine lv_iload_n F.1 F.2.1 dX7_rankAt_5 rfl (lv_at hl 1 rfl) ?_
  refine rr_iadd F (z := 1 + i) dX7_rankAt_6 (by first | rfl | omega) ?_
  refine rr_iald F hK hP 1 rfl (by omega) (by omega) (by decide) dX7_rankAt_7 ?_
  refine lv_istore_n (lv' := [(2, vI (a (1 + i))), (0, .ref mo), (1, vI i)]) F.1 F.2.1 dX7_rankAt_8 rfl hl (by decide) rfl (fun ls hl => ?_)
  refine lv_iload_n F.1 F.2.1 dX7_rankAt_9 rfl (lv_at hl 0 rfl) ?_
  refine rr_if_ne F (tgt := 17) dX7_rankAt_10 (by decide) ⟨by omega, by omega⟩ (fun c_10 => ?_) (fun c_10 => ?_)
  · refine lv_iload_n F.1 F.2.1 dX7_rankAt_17 rfl (lv_at hl 0 rfl) ?_
    refine rr_bipush F dX7_rankAt_18 (by decide) ?_
    refine rr_icmp_ne F (tgt := 27) dX7_rankAt_20 (by decide) ⟨by omega, by omega⟩ ⟨by omega, by omega⟩ (fun c_20 => ?_) (fun c_20 => ?_)
    · refine lv_iload_n F.1 F.2.1 dX7_rankAt_27 rfl (lv_at hl 0 rfl) ?_
      refine rr_iconst F dX7_rankAt_28 ?_
      refine rr_iadd F (z := (a (1 + i)) + 1) dX7_rankAt_29 (by first | rfl | omega) ?_
      exact rr_iret F hr hlocks dX7_rankAt_30 (by unfold rk; first | rw [if_pos (by assumption)] | (rw [if_neg (by assumption), if_pos (by assumption)]) | (rw [if_neg (by assumption), if_neg (by assumption)]))
    · refine rr_iconst F dX7_rankAt_23 ?_
      refine lv_goto (tgt := 30) F.1 F.2.1 dX7_rankAt_24 (by decide) ?_
      exact rr_iret F hr hlocks dX7_rankAt_30 (by unfold rk; first | rw [if_pos (by assumption)] | (rw [if_neg (by assumption), if_pos (by assumption)]) | (rw [if_neg (by assumption), if_neg (by assumption)]))
  · refine rr_iconst F dX7_rankAt_13 ?_
    refine lv_goto (tgt := 30) F.1 F.2.1 dX7_rankAt_14 (by decide) ?_
    exact rr_iret F hr hlocks dX7_rankAt_30 (by unfold rk; first | rw [if_pos (by assumption)] | (rw [if_neg (by assumption), if_pos (by assumption)]) | (rw [if_neg (by assumption), if_neg (by assumption)]))
set_option maxRecDepth 100000 in
set_option maxHeartbeats 4000000 in
theorem c_X7_less (l : Launch) (D : va_G) (cy : Nat → ClassId) (mo no th pa sl sv tx : Nat) (tr ss ty : Int) (a : Int → Int) (x y : Int) (hM : MR a) (hx : 0 ≤ x ∧ x < a 0) (hy : 0 ≤ y ∧ y < a 0) : Rd l yX7_less cX7_less 5 (some FieldType.int) 1 [.ref mo, vI x, vI y] D cy [(mo, .inr (7, [vI tr, .ref no, .ref th, .ref pa, vI ss, .ref sl, .ref sv, .ref tx, vI ty])), (no, .inl (cy 1, 118, .inl (iA a)))] (lss (a 0) (rq a) x y) := by
  refine Rd.of RX7 rfl [(0, .ref mo), (1, vI x), (2, vI y)] rfl (by decide +kernel) (Nat.le_of_ble_eq_true rfl) ?_
  intro p e s m args below meth c F hr hlocks hK hP ls hl
  have hn0 := hM.n
  have hw0 := hM.nw
  have hc0 := hM.wc
  refine rr_iconst F dX7_less_0 ?_
  refine lv_istore_n (lv' := [(3, vI 0), (0, .ref mo), (1, vI x), (2, vI y)]) F.1 F.2.1 dX7_less_1 rfl hl (by decide) rfl (fun ls hl => ?_)
  refine rr_loop1 (fun k => (0 ≤ k) ∧ (k ≤ a 0) ∧ (∀ j, 0 ≤ j → j < k → rq a (off (a 0) x 0 j) = rq a (off (a 0) y 0 j))) (fun k => (25 - k).toNat) (fun k => [(3, vI k), (0, .ref mo), (1, vI x), (2, vI y)]) ?_ 0 ⟨by omega, by omega, fun j u v => by omega⟩ (lv_sub hl [0, 1, 2, 3] rfl)
  intro k hI ih_2 ls hl
  obtain ⟨k0, k1, kq⟩ := hI
  have hl : lv_has ls 5 [(3, vI k), (0, .ref mo), (1, vI x), (2, vI y)] := hl
  refine lv_iload_n F.1 F.2.1 dX7_less_2 rfl (lv_at hl 0 rfl) ?_
  refine lv_aload_n F.1 F.2.1 dX7_less_3 rfl (lv_at hl 1 rfl) ?_
  refine gf7_1 F hK hP 0 rfl tw875 dX7_less_4 ?_
  refine rr_iconst F dX7_less_7 ?_
  refine rr_iald F hK hP 1 rfl (by omega) (by omega) (by decide) dX7_less_8 ?_
  refine rr_icmp_ge F (tgt := 57) dX7_less_9 (by decide) ⟨by omega, by omega⟩ ⟨by omega, by omega⟩ (fun c_9 => ?_) (fun c_9 => ?_)
  · refine rr_iconst F dX7_less_57 ?_
    exact rr_iret F hr hlocks dX7_less_58 ((lss_miss (q := rq a) (by omega) (fun j u v => kq j u (by omega))).symm)
  · refine lv_aload_n F.1 F.2.1 dX7_less_12 rfl (lv_at hl 1 rfl) ?_
    refine lv_aload_n F.1 F.2.1 dX7_less_13 rfl (lv_at hl 1 rfl) ?_
    refine gf7_1 F hK hP 0 rfl tw875 dX7_less_14 ?_
    refine lv_iload_n F.1 F.2.1 dX7_less_17 rfl (lv_at hl 2 rfl) ?_
    refine rr_iconst F dX7_less_18 ?_
    refine lv_iload_n F.1 F.2.1 dX7_less_19 rfl (lv_at hl 0 rfl) ?_
    refine rr_rdS (rest := [.ref mo]) F hK (c_X7_off l D cy no a x 0 k (by first | assumption | omega | exact ⟨by omega, by omega⟩) (by first | assumption | omega | exact ⟨by omega, by omega⟩) (by first | assumption | omega | exact ⟨by omega, by omega⟩) (by first | assumption | omega | exact ⟨by omega, by omega⟩)) (hP.sub [1] rfl) sf_X7_off tw962 ⟨Nat.le_of_ble_eq_true rfl, Nat.le_of_ble_eq_true rfl⟩ hl rfl (Nat.le_of_ble_eq_true rfl) dX7_less_20 ⟨Nat.zero_le _, Nat.zero_le _⟩ ?_
    have q_20_0 := (off_rng (n := a 0) (by omega) x 0 k)
    refine rr_rdV (rest := []) F hK (c_X7_rankAt l D cy mo no th pa sl sv tx tr ss ty a (off (a 0) x 0 k) (⟨by omega, by omega⟩) (hM.q q_20_0.1 q_20_0.2)) hP sf_X7_rankAt tw965 7 rfl rfl ⟨Nat.le_of_ble_eq_true rfl, Nat.le_of_ble_eq_true rfl⟩ hl rfl (Nat.le_of_ble_eq_true rfl) dX7_less_23 ⟨Nat.zero_le _, Nat.zero_le _⟩ ?_
    refine lv_aload_n F.1 F.2.1 dX7_less_26 rfl (lv_at hl 1 rfl) ?_
    refine lv_aload_n F.1 F.2.1 dX7_less_27 rfl (lv_at hl 1 rfl) ?_
    refine gf7_1 F hK hP 0 rfl tw875 dX7_less_28 ?_
    refine lv_iload_n F.1 F.2.1 dX7_less_31 rfl (lv_at hl 3 rfl) ?_
    refine rr_iconst F dX7_less_32 ?_
    refine lv_iload_n F.1 F.2.1 dX7_less_33 rfl (lv_at hl 0 rfl) ?_
    refine rr_rdS (rest := [.ref mo, vI (rk (a (1 + (off (a 0) x 0 k))))]) F hK (c_X7_off l D cy no a y 0 k (by first | assumption | omega | exact ⟨by omega, by omega⟩) (by first | assumption | omega | exact ⟨by omega, by omega⟩) (by first | assumption | omega | exact ⟨by omega, by omega⟩) (by first | assumption | omega | exact ⟨by omega, by omega⟩)) (hP.sub [1] rfl) sf_X7_off tw962 ⟨Nat.le_of_ble_eq_true rfl, Nat.le_of_ble_eq_true rfl⟩ hl rfl (Nat.le_of_ble_eq_true rfl) dX7_less_34 ⟨Nat.zero_le _, Nat.zero_le _⟩ ?_
    have q_34_0 := (off_rng (n := a 0) (by omega) y 0 k)
    refine rr_rdV (rest := [vI (rk (a (1 + (off (a 0) x 0 k))))]) F hK (c_X7_rankAt l D cy mo no th pa sl sv tx tr ss ty a (off (a 0) y 0 k) (⟨by omega, by omega⟩) (hM.q q_34_0.1 q_34_0.2)) hP sf_X7_rankAt tw965 7 rfl rfl ⟨Nat.le_of_ble_eq_true rfl, Nat.le_of_ble_eq_true rfl⟩ hl rfl (Nat.le_of_ble_eq_true rfl) dX7_less_37 ⟨Nat.zero_le _, Nat.zero_le _⟩ ?_
    have qa := hM.q q_20_0.1 q_20_0.2
    have qb := hM.q q_34_0.1 q_34_0.2
    have ra := rk_rng qa
    have rb := rk_rng qb
    refine rr_isub F (z := (rk (a (1 + (off (a 0) x 0 k)))) - (rk (a (1 + (off (a 0) y 0 k))))) dX7_less_40 (by first | rfl | omega) ?_
    refine lv_istore (lv' := [(4, vI ((rk (a (1 + (off (a 0) x 0 k)))) - (rk (a (1 + (off (a 0) y 0 k)))))), (3, vI k), (0, .ref mo), (1, vI x), (2, vI y)]) F.1 F.2.1 dX7_less_41 hl (by decide) rfl (fun ls hl => ?_)
    refine lv_iload F.1 F.2.1 dX7_less_43 (lv_at hl 0 rfl) ?_
    refine rr_if_eq F (tgt := 51) dX7_less_45 (by decide) ⟨by omega, by omega⟩ (fun c_45 => ?_) (fun c_45 => ?_)
    · refine lv_iinc (v := iI (k + 1)) (lv' := [(3, vI (k + 1)), (4, vI ((rk (a (1 + (off (a 0) x 0 k)))) - (rk (a (1 + (off (a 0) y 0 k)))))), (0, .ref mo), (1, vI x), (2, vI y)]) F.1 F.2.1 dX7_less_51 hl (k := 1) rfl (iinc_ok (by first | rfl | omega)) (by decide) rfl (fun ls hl => ?_)
      refine lv_goto (tgt := 2) F.1 F.2.1 dX7_less_54 (by decide) ?_
      exact ih_2 (k + 1) ⟨by omega, by omega, fun j u v => (if hj : j = k then by subst hj; exact (rk_eq qa qb).mp (by omega) else kq j u (by omega))⟩ (show ((25 - (k + 1)).toNat) < ((25 - k).toNat) by omega) ls (lv_sub hl [0, 2, 3, 4] rfl)
    · refine lv_iload F.1 F.2.1 dX7_less_48 (lv_at hl 0 rfl) ?_
      exact rr_iret F hr hlocks dX7_less_50 ((lss_hit (q := rq a) k0 (by omega) (fun hq => c_45 (by have e : a (1 + off (a 0) x 0 k) = a (1 + off (a 0) y 0 k) := hq; rw [e]; omega)) kq).symm)
set_option maxRecDepth 100000 in
set_option maxHeartbeats 4000000 in
theorem c_X7_beginning (l : Launch) (D : va_G) (cy : Nat → ClassId) (mo no th pa sl sv tx : Nat) (tr ss ty : Int) (a : Int → Int) (hM : MR a) : Rd l yX7_beginning cX7_beginning 3 (some FieldType.int) 2 [.ref mo] D cy [(mo, .inr (7, [vI tr, .ref no, .ref th, .ref pa, vI ss, .ref sl, .ref sv, .ref tx, vI ty])), (no, .inl (cy 1, 118, .inl (iA a)))] (bg1 (a 0) (rq a) (a 0)) := by
  refine Rd.of RX7 rfl [(0, .ref mo)] rfl (by decide +kernel) (Nat.le_of_ble_eq_true rfl) ?_
  intro p e s m args below meth c F hr hlocks hK hP ls hl
  have hn0 := hM.n
  have hw0 := hM.nw
  have hc0 := hM.wc
  refine lv_aload_n F.1 F.2.1 dX7_beginning_0 rfl (lv_at hl 0 rfl) ?_
  refine gf7_1 F hK hP 0 rfl tw875 dX7_beginning_1 ?_
  refine rr_iconst F dX7_beginning_4 ?_
  refine rr_iald F hK hP 1 rfl (by omega) (by omega) (by decide) dX7_beginning_5 ?_
  refine rr_if_ne F (tgt := 13) dX7_beginning_6 (by decide) ⟨by omega, by omega⟩ (fun c_6 => ?_) (fun c_6 => ?_)
  · refine rr_iconst F dX7_beginning_13 ?_
    refine lv_istore_n (lv' := [(1, vI 0), (0, .ref mo)]) F.1 F.2.1 dX7_beginning_14 rfl hl (by decide) rfl (fun ls hl => ?_)
    refine rr_iconst F dX7_beginning_15 ?_
    refine lv_istore_n (lv' := [(2, vI 1), (1, vI 0), (0, .ref mo)]) F.1 F.2.1 dX7_beginning_16 rfl hl (by decide) rfl (fun ls hl => ?_)
    refine rr_loop1 (fun k => (1 ≤ k) ∧ (k ≤ a 0 ∨ k = 1)) (fun k => (25 - k).toNat) (fun k => [(2, vI k), (1, vI (bg1 (a 0) (rq a) k)), (0, .ref mo)]) ?_ 1 ⟨by omega, by omega⟩ (lv_cv (lv_sub hl [0, 1, 2] rfl) (by rw [← show (0 : Int) = bg1 (a 0) (rq a) 1 from by first | (rw [bg1_0 (by assumption)]) | (rw [bg1_n (by assumption)]; exact (bgn_1 _ _ hn0.1).symm)]; rfl))
    intro k hI ih_17 ls hl
    obtain ⟨k0, k1⟩ := hI
    have hl : lv_has ls 3 [(2, vI k), (1, vI (bg1 (a 0) (rq a) k)), (0, .ref mo)] := hl
    refine lv_iload_n F.1 F.2.1 dX7_beginning_17 rfl (lv_at hl 0 rfl) ?_
    refine lv_aload_n F.1 F.2.1 dX7_beginning_18 rfl (lv_at hl 2 rfl) ?_
    refine gf7_1 F hK hP 0 rfl tw875 dX7_beginning_19 ?_
    refine rr_iconst F dX7_beginning_22 ?_
    refine rr_iald F hK hP 1 rfl (by omega) (by omega) (by decide) dX7_beginning_23 ?_
    refine rr_icmp_ge F (tgt := 48) dX7_beginning_24 (by decide) ⟨by omega, by omega⟩ ⟨by omega, by omega⟩ (fun c_24 => ?_) (fun c_24 => ?_)
    · refine lv_iload_n F.1 F.2.1 dX7_beginning_48 rfl (lv_at hl 1 rfl) ?_
      exact rr_iret F hr hlocks dX7_beginning_49 (by first | rw [show k = a 0 by omega] | rw [bg1_0 (by omega), bg1_0 (by omega)])
    · have br := bg1_rng (n := a 0) (q := rq a) (k := k) (by omega) (by omega)
      refine lv_aload_n F.1 F.2.1 dX7_beginning_27 rfl (lv_at hl 2 rfl) ?_
      refine lv_iload_n F.1 F.2.1 dX7_beginning_28 rfl (lv_at hl 0 rfl) ?_
      refine lv_iload_n F.1 F.2.1 dX7_beginning_29 rfl (lv_at hl 1 rfl) ?_
      refine rr_rdV (rest := []) F hK (c_X7_less l D cy mo no th pa sl sv tx tr ss ty a k (bg1 (a 0) (rq a) k) (by first | assumption | omega | exact ⟨by omega, by omega⟩) (by first | assumption | omega | exact ⟨by omega, by omega⟩) (by first | assumption | omega | exact ⟨by omega, by omega⟩)) hP sf_X7_less tw958 7 rfl rfl ⟨Nat.le_of_ble_eq_true rfl, Nat.le_of_ble_eq_true rfl⟩ hl rfl (Nat.le_of_ble_eq_true rfl) dX7_beginning_30 ⟨Nat.zero_le _, Nat.zero_le _⟩ ?_
      have q_30_0 := (lss_rng (q := rq a) (n := a 0) (by omega) (fun j u v => hM.q u v) k (bg1 (a 0) (rq a) k))
      refine rr_if_ge F (tgt := 40) dX7_beginning_33 (by decide) ⟨by omega, by omega⟩ (fun c_33 => ?_) (fun c_33 => ?_)
      · refine lv_iload_n F.1 F.2.1 dX7_beginning_40 rfl (lv_at hl 1 rfl) ?_
        refine lv_istore_n (lv' := [(1, vI (bg1 (a 0) (rq a) k)), (2, vI k), (0, .ref mo)]) F.1 F.2.1 dX7_beginning_41 rfl hl (by decide) rfl (fun ls hl => ?_)
        refine lv_iinc (v := iI (k + 1)) (lv' := [(2, vI (k + 1)), (1, vI (bg1 (a 0) (rq a) k)), (0, .ref mo)]) F.1 F.2.1 dX7_beginning_42 hl (k := 1) rfl (iinc_ok (by first | rfl | omega)) (by decide) rfl (fun ls hl => ?_)
        refine lv_goto (tgt := 17) F.1 F.2.1 dX7_beginning_45 (by decide) ?_
        exact ih_17 (k + 1) ⟨by omega, by omega⟩ (show ((25 - (k + 1)).toNat) < ((25 - k).toNat) by omega) ls (lv_cv (lv_sub hl [0, 1, 2] rfl) (by rw [← show (bg1 (a 0) (rq a) k : Int) = bg1 (a 0) (rq a) (k + 1) from by first | (rw [bg1_n (by omega), bgn_s _ _ (by omega), ← bg1_n (k := k) (show ¬ a 0 = 0 by omega), if_pos (by assumption)]) | (rw [bg1_n (k := k + 1) (by omega), bgn_s _ _ (by omega), ← bg1_n (k := k) (show ¬ a 0 = 0 by omega), if_neg (by omega)])]; rfl))
      · refine lv_iload_n F.1 F.2.1 dX7_beginning_36 rfl (lv_at hl 0 rfl) ?_
        refine lv_goto (tgt := 41) F.1 F.2.1 dX7_beginning_37 (by decide) ?_
        refine lv_istore_n (lv' := [(1, vI k), (2, vI k), (0, .ref mo)]) F.1 F.2.1 dX7_beginning_41 rfl hl (by decide) rfl (fun ls hl => ?_)
        refine lv_iinc (v := iI (k + 1)) (lv' := [(2, vI (k + 1)), (1, vI k), (0, .ref mo)]) F.1 F.2.1 dX7_beginning_42 hl (k := 1) rfl (iinc_ok (by first | rfl | omega)) (by decide) rfl (fun ls hl => ?_)
        refine lv_goto (tgt := 17) F.1 F.2.1 dX7_beginning_45 (by decide) ?_
        exact ih_17 (k + 1) ⟨by omega, by omega⟩ (show ((25 - (k + 1)).toNat) < ((25 - k).toNat) by omega) ls (lv_cv (lv_sub hl [0, 1, 2] rfl) (by rw [← show (k : Int) = bg1 (a 0) (rq a) (k + 1) from by first | (rw [bg1_n (by omega), bgn_s _ _ (by omega), ← bg1_n (k := k) (show ¬ a 0 = 0 by omega), if_pos (by assumption)]) | (rw [bg1_n (k := k + 1) (by omega), bgn_s _ _ (by omega), ← bg1_n (k := k) (show ¬ a 0 = 0 by omega), if_neg (by omega)])]; rfl))
  · refine rr_iconst F dX7_beginning_9 ?_
    refine lv_goto (tgt := 14) F.1 F.2.1 dX7_beginning_10 (by decide) ?_
    refine lv_istore_n (lv' := [(1, vI (-1)), (0, .ref mo)]) F.1 F.2.1 dX7_beginning_14 rfl hl (by decide) rfl (fun ls hl => ?_)
    refine rr_iconst F dX7_beginning_15 ?_
    refine lv_istore_n (lv' := [(2, vI 1), (1, vI (-1)), (0, .ref mo)]) F.1 F.2.1 dX7_beginning_16 rfl hl (by decide) rfl (fun ls hl => ?_)
    refine rr_loop1 (fun k => (1 ≤ k) ∧ (k ≤ a 0 ∨ k = 1)) (fun k => (25 - k).toNat) (fun k => [(2, vI k), (1, vI (bg1 (a 0) (rq a) k)), (0, .ref mo)]) ?_ 1 ⟨by omega, by omega⟩ (lv_cv (lv_sub hl [0, 1, 2] rfl) (by rw [← show ((-1) : Int) = bg1 (a 0) (rq a) 1 from by first | (rw [bg1_0 (by assumption)]) | (rw [bg1_n (by assumption)]; exact (bgn_1 _ _ hn0.1).symm)]; rfl))
    intro k hI ih_17 ls hl
    obtain ⟨k0, k1⟩ := hI
    have hl : lv_has ls 3 [(2, vI k), (1, vI (bg1 (a 0) (rq a) k)), (0, .ref mo)] := hl
    refine lv_iload_n F.1 F.2.1 dX7_beginning_17 rfl (lv_at hl 0 rfl) ?_
    refine lv_aload_n F.1 F.2.1 dX7_beginning_18 rfl (lv_at hl 2 rfl) ?_
    refine gf7_1 F hK hP 0 rfl tw875 dX7_beginning_19 ?_
    refine rr_iconst F dX7_beginning_22 ?_
    refine rr_iald F hK hP 1 rfl (by omega) (by omega) (by decide) dX7_beginning_23 ?_
    refine rr_icmp_ge F (tgt := 48) dX7_beginning_24 (by decide) ⟨by omega, by omega⟩ ⟨by omega, by omega⟩ (fun c_24 => ?_) (fun c_24 => ?_)
    · refine lv_iload_n F.1 F.2.1 dX7_beginning_48 rfl (lv_at hl 1 rfl) ?_
      exact rr_iret F hr hlocks dX7_beginning_49 (by first | rw [show k = a 0 by omega] | rw [bg1_0 (by omega), bg1_0 (by omega)])
    · have br := bg1_rng (n := a 0) (q := rq a) (k := k) (by omega) (by omega)
      refine lv_aload_n F.1 F.2.1 dX7_beginning_27 rfl (lv_at hl 2 rfl) ?_
      refine lv_iload_n F.1 F.2.1 dX7_beginning_28 rfl (lv_at hl 0 rfl) ?_
      refine lv_iload_n F.1 F.2.1 dX7_beginning_29 rfl (lv_at hl 1 rfl) ?_
      refine rr_rdV (rest := []) F hK (c_X7_less l D cy mo no th pa sl sv tx tr ss ty a k (bg1 (a 0) (rq a) k) (by first | assumption | omega | exact ⟨by omega, by omega⟩) (by first | assumption | omega | exact ⟨by omega, by omega⟩) (by first | assumption | omega | exact ⟨by omega, by omega⟩)) hP sf_X7_less tw958 7 rfl rfl ⟨Nat.le_of_ble_eq_true rfl, Nat.le_of_ble_eq_true rfl⟩ hl rfl (Nat.le_of_ble_eq_true rfl) dX7_beginning_30 ⟨Nat.zero_le _, Nat.zero_le _⟩ ?_
      have q_30_0 := (lss_rng (q := rq a) (n := a 0) (by omega) (fun j u v => hM.q u v) k (bg1 (a 0) (rq a) k))
      refine rr_if_ge F (tgt := 40) dX7_beginning_33 (by decide) ⟨by omega, by omega⟩ (fun c_33 => ?_) (fun c_33 => ?_)
      · refine lv_iload_n F.1 F.2.1 dX7_beginning_40 rfl (lv_at hl 1 rfl) ?_
        refine lv_istore_n (lv' := [(1, vI (bg1 (a 0) (rq a) k)), (2, vI k), (0, .ref mo)]) F.1 F.2.1 dX7_beginning_41 rfl hl (by decide) rfl (fun ls hl => ?_)
        refine lv_iinc (v := iI (k + 1)) (lv' := [(2, vI (k + 1)), (1, vI (bg1 (a 0) (rq a) k)), (0, .ref mo)]) F.1 F.2.1 dX7_beginning_42 hl (k := 1) rfl (iinc_ok (by first | rfl | omega)) (by decide) rfl (fun ls hl => ?_)
        refine lv_goto (tgt := 17) F.1 F.2.1 dX7_beginning_45 (by decide) ?_
        exact ih_17 (k + 1) ⟨by omega, by omega⟩ (show ((25 - (k + 1)).toNat) < ((25 - k).toNat) by omega) ls (lv_cv (lv_sub hl [0, 1, 2] rfl) (by rw [← show (bg1 (a 0) (rq a) k : Int) = bg1 (a 0) (rq a) (k + 1) from by first | (rw [bg1_n (by omega), bgn_s _ _ (by omega), ← bg1_n (k := k) (show ¬ a 0 = 0 by omega), if_pos (by assumption)]) | (rw [bg1_n (k := k + 1) (by omega), bgn_s _ _ (by omega), ← bg1_n (k := k) (show ¬ a 0 = 0 by omega), if_neg (by omega)])]; rfl))
      · refine lv_iload_n F.1 F.2.1 dX7_beginning_36 rfl (lv_at hl 0 rfl) ?_
        refine lv_goto (tgt := 41) F.1 F.2.1 dX7_beginning_37 (by decide) ?_
        refine lv_istore_n (lv' := [(1, vI k), (2, vI k), (0, .ref mo)]) F.1 F.2.1 dX7_beginning_41 rfl hl (by decide) rfl (fun ls hl => ?_)
        refine lv_iinc (v := iI (k + 1)) (lv' := [(2, vI (k + 1)), (1, vI k), (0, .ref mo)]) F.1 F.2.1 dX7_beginning_42 hl (k := 1) rfl (iinc_ok (by first | rfl | omega)) (by decide) rfl (fun ls hl => ?_)
        refine lv_goto (tgt := 17) F.1 F.2.1 dX7_beginning_45 (by decide) ?_
        exact ih_17 (k + 1) ⟨by omega, by omega⟩ (show ((25 - (k + 1)).toNat) < ((25 - k).toNat) by omega) ls (lv_cv (lv_sub hl [0, 1, 2] rfl) (by rw [← show (k : Int) = bg1 (a 0) (rq a) (k + 1) from by first | (rw [bg1_n (by omega), bgn_s _ _ (by omega), ← bg1_n (k := k) (show ¬ a 0 = 0 by omega), if_pos (by assumption)]) | (rw [bg1_n (k := k + 1) (by omega), bgn_s _ _ (by omega), ← bg1_n (k := k) (show ¬ a 0 = 0 by omega), if_neg (by omega)])]; rfl))
set_option maxRecDepth 100000 in
set_option maxHeartbeats 4000000 in
theorem c_X7_period (l : Launch) (D : va_G) (cy : Nat → ClassId) (mo no th pa sl sv tx : Nat) (tr ss ty : Int) (a : Int → Int) (hM : MR a) : Rd l yX7_period cX7_period 2 (some FieldType.int) 2 [.ref mo] D cy [(mo, .inr (7, [vI tr, .ref no, .ref th, .ref pa, vI ss, .ref sl, .ref sv, .ref tx, vI ty])), (no, .inl (cy 1, 118, .inl (iA a)))] (perd (a 0) (rq a)) := by
  refine Rd.of RX7 rfl [(0, .ref mo)] rfl (by decide +kernel) (Nat.le_of_ble_eq_true rfl) ?_
  intro p e s m args below meth c F hr hlocks hK hP ls hl
  have hn0 := hM.n
  have hw0 := hM.nw
  have hc0 := hM.wc
  refine lv_aload_n F.1 F.2.1 dX7_period_0 rfl (lv_at hl 0 rfl) ?_
  refine gf7_1 F hK hP 0 rfl tw875 dX7_period_1 ?_
  refine rr_iconst F dX7_period_4 ?_
  refine rr_iald F hK hP 1 rfl (by omega) (by omega) (by decide) dX7_period_5 ?_
  refine rr_if_ne F (tgt := 13) dX7_period_6 (by decide) ⟨by omega, by omega⟩ (fun c_6 => ?_) (fun c_6 => ?_)
  · refine rr_iconst F dX7_period_13 ?_
    refine lv_istore_n (lv' := [(1, vI 1), (0, .ref mo)]) F.1 F.2.1 dX7_period_14 rfl hl (by decide) rfl (fun ls hl => ?_)
    refine rr_loop1 (fun k => (0 ≤ k) ∧ (k = 0 → a 0 = 0) ∧ (k ≤ a 0 ∨ k = 1) ∧ (a 0 = 0 → k = 0) ∧ (∀ j, 1 ≤ j → j < k → ¬ asr (a 0) (rq a) j 0)) (fun k => (25 - k).toNat) (fun k => [(1, vI k), (0, .ref mo)]) ?_ 1 ⟨by omega, by omega, by omega, by omega, fun j u v => by omega⟩ (lv_sub hl [0, 1] rfl)
    intro k hI ih_15 ls hl
    obtain ⟨k0, kn, k1, k2, kq⟩ := hI
    have hl : lv_has ls 2 [(1, vI k), (0, .ref mo)] := hl
    refine lv_iload_n F.1 F.2.1 dX7_period_15 rfl (lv_at hl 0 rfl) ?_
    refine rr_if_le F (tgt := 44) dX7_period_16 (by decide) ⟨by omega, by omega⟩ (fun c_16 => ?_) (fun c_16 => ?_)
    · refine lv_iload_n F.1 F.2.1 dX7_period_44 rfl (lv_at hl 0 rfl) ?_
      exact rr_iret F hr hlocks dX7_period_45 (by first | exact perd_hit (by omega) (by omega) ((lss_asr (by omega) (fun _ u v => hM.q u v)).mp (by assumption)) kq | (rw [show k = a 0 by omega]; exact perd_miss hn0.1 (fun j u v => kq j u (by omega))) | (rw [show k = 0 by omega]; unfold perd; rw [if_pos (by omega)]))
    · refine lv_iload_n F.1 F.2.1 dX7_period_19 rfl (lv_at hl 0 rfl) ?_
      refine lv_aload_n F.1 F.2.1 dX7_period_20 rfl (lv_at hl 1 rfl) ?_
      refine gf7_1 F hK hP 0 rfl tw875 dX7_period_21 ?_
      refine rr_iconst F dX7_period_24 ?_
      refine rr_iald F hK hP 1 rfl (by omega) (by omega) (by decide) dX7_period_25 ?_
      refine rr_icmp_ge F (tgt := 44) dX7_period_26 (by decide) ⟨by omega, by omega⟩ ⟨by omega, by omega⟩ (fun c_26 => ?_) (fun c_26 => ?_)
      · refine lv_iload_n F.1 F.2.1 dX7_period_44 rfl (lv_at hl 0 rfl) ?_
        exact rr_iret F hr hlocks dX7_period_45 (by first | exact perd_hit (by omega) (by omega) ((lss_asr (by omega) (fun _ u v => hM.q u v)).mp (by assumption)) kq | (rw [show k = a 0 by omega]; exact perd_miss hn0.1 (fun j u v => kq j u (by omega))) | (rw [show k = 0 by omega]; unfold perd; rw [if_pos (by omega)]))
      · refine lv_aload_n F.1 F.2.1 dX7_period_29 rfl (lv_at hl 1 rfl) ?_
        refine rr_iconst F dX7_period_30 ?_
        refine lv_iload_n F.1 F.2.1 dX7_period_31 rfl (lv_at hl 0 rfl) ?_
        refine rr_rdV (rest := []) F hK (c_X7_less l D cy mo no th pa sl sv tx tr ss ty a 0 k (by first | assumption | omega | exact ⟨by omega, by omega⟩) (by first | assumption | omega | exact ⟨by omega, by omega⟩) (by first | assumption | omega | exact ⟨by omega, by omega⟩)) hP sf_X7_less tw958 7 rfl rfl ⟨Nat.le_of_ble_eq_true rfl, Nat.le_of_ble_eq_true rfl⟩ hl rfl (Nat.le_of_ble_eq_true rfl) dX7_period_32 ⟨Nat.zero_le _, Nat.zero_le _⟩ ?_
        have q_32_0 := (lss_rng (q := rq a) (n := a 0) (by omega) (fun j u v => hM.q u v) 0 k)
        refine rr_if_eq F (tgt := 44) dX7_period_35 (by decide) ⟨by omega, by omega⟩ (fun c_35 => ?_) (fun c_35 => ?_)
        · refine lv_iload_n F.1 F.2.1 dX7_period_44 rfl (lv_at hl 0 rfl) ?_
          exact rr_iret F hr hlocks dX7_period_45 (by first | exact perd_hit (by omega) (by omega) ((lss_asr (by omega) (fun _ u v => hM.q u v)).mp (by assumption)) kq | (rw [show k = a 0 by omega]; exact perd_miss hn0.1 (fun j u v => kq j u (by omega))) | (rw [show k = 0 by omega]; unfold perd; rw [if_pos (by omega)]))
        · refine lv_iinc (v := iI (k + 1)) (lv' := [(1, vI (k + 1)), (0, .ref mo)]) F.1 F.2.1 dX7_period_38 hl (k := 0) rfl (iinc_ok (by first | rfl | omega)) (by decide) rfl (fun ls hl => ?_)
          refine lv_goto (tgt := 15) F.1 F.2.1 dX7_period_41 (by decide) ?_
          exact ih_15 (k + 1) ⟨by omega, by omega, by omega, by omega, fun j u v => (if hj : j = k then by subst hj; exact fun h => c_35 ((lss_asr (by omega) (fun _ u v => hM.q u v)).mpr h) else kq j u (by omega))⟩ (show ((25 - (k + 1)).toNat) < ((25 - k).toNat) by omega) ls (lv_sub hl [0, 1] rfl)
  · refine rr_iconst F dX7_period_9 ?_
    refine lv_goto (tgt := 14) F.1 F.2.1 dX7_period_10 (by decide) ?_
    refine lv_istore_n (lv' := [(1, vI 0), (0, .ref mo)]) F.1 F.2.1 dX7_period_14 rfl hl (by decide) rfl (fun ls hl => ?_)
    refine rr_loop1 (fun k => (0 ≤ k) ∧ (k = 0 → a 0 = 0) ∧ (k ≤ a 0 ∨ k = 1) ∧ (a 0 = 0 → k = 0) ∧ (∀ j, 1 ≤ j → j < k → ¬ asr (a 0) (rq a) j 0)) (fun k => (25 - k).toNat) (fun k => [(1, vI k), (0, .ref mo)]) ?_ 0 ⟨by omega, by omega, by omega, by omega, fun j u v => by omega⟩ (lv_sub hl [0, 1] rfl)
    intro k hI ih_15 ls hl
    obtain ⟨k0, kn, k1, k2, kq⟩ := hI
    have hl : lv_has ls 2 [(1, vI k), (0, .ref mo)] := hl
    refine lv_iload_n F.1 F.2.1 dX7_period_15 rfl (lv_at hl 0 rfl) ?_
    refine rr_if_le F (tgt := 44) dX7_period_16 (by decide) ⟨by omega, by omega⟩ (fun c_16 => ?_) (fun c_16 => ?_)
    · refine lv_iload_n F.1 F.2.1 dX7_period_44 rfl (lv_at hl 0 rfl) ?_
      exact rr_iret F hr hlocks dX7_period_45 (by first | exact perd_hit (by omega) (by omega) ((lss_asr (by omega) (fun _ u v => hM.q u v)).mp (by assumption)) kq | (rw [show k = a 0 by omega]; exact perd_miss hn0.1 (fun j u v => kq j u (by omega))) | (rw [show k = 0 by omega]; unfold perd; rw [if_pos (by omega)]))
    · refine lv_iload_n F.1 F.2.1 dX7_period_19 rfl (lv_at hl 0 rfl) ?_
      refine lv_aload_n F.1 F.2.1 dX7_period_20 rfl (lv_at hl 1 rfl) ?_
      refine gf7_1 F hK hP 0 rfl tw875 dX7_period_21 ?_
      refine rr_iconst F dX7_period_24 ?_
      refine rr_iald F hK hP 1 rfl (by omega) (by omega) (by decide) dX7_period_25 ?_
      refine rr_icmp_ge F (tgt := 44) dX7_period_26 (by decide) ⟨by omega, by omega⟩ ⟨by omega, by omega⟩ (fun c_26 => ?_) (fun c_26 => ?_)
      · refine lv_iload_n F.1 F.2.1 dX7_period_44 rfl (lv_at hl 0 rfl) ?_
        exact rr_iret F hr hlocks dX7_period_45 (by first | exact perd_hit (by omega) (by omega) ((lss_asr (by omega) (fun _ u v => hM.q u v)).mp (by assumption)) kq | (rw [show k = a 0 by omega]; exact perd_miss hn0.1 (fun j u v => kq j u (by omega))) | (rw [show k = 0 by omega]; unfold perd; rw [if_pos (by omega)]))
      · refine lv_aload_n F.1 F.2.1 dX7_period_29 rfl (lv_at hl 1 rfl) ?_
        refine rr_iconst F dX7_period_30 ?_
        refine lv_iload_n F.1 F.2.1 dX7_period_31 rfl (lv_at hl 0 rfl) ?_
        refine rr_rdV (rest := []) F hK (c_X7_less l D cy mo no th pa sl sv tx tr ss ty a 0 k (by first | assumption | omega | exact ⟨by omega, by omega⟩) (by first | assumption | omega | exact ⟨by omega, by omega⟩) (by first | assumption | omega | exact ⟨by omega, by omega⟩)) hP sf_X7_less tw958 7 rfl rfl ⟨Nat.le_of_ble_eq_true rfl, Nat.le_of_ble_eq_true rfl⟩ hl rfl (Nat.le_of_ble_eq_true rfl) dX7_period_32 ⟨Nat.zero_le _, Nat.zero_le _⟩ ?_
        have q_32_0 := (lss_rng (q := rq a) (n := a 0) (by omega) (fun j u v => hM.q u v) 0 k)
        refine rr_if_eq F (tgt := 44) dX7_period_35 (by decide) ⟨by omega, by omega⟩ (fun c_35 => ?_) (fun c_35 => ?_)
        · refine lv_iload_n F.1 F.2.1 dX7_period_44 rfl (lv_at hl 0 rfl) ?_
          exact rr_iret F hr hlocks dX7_period_45 (by first | exact perd_hit (by omega) (by omega) ((lss_asr (by omega) (fun _ u v => hM.q u v)).mp (by assumption)) kq | (rw [show k = a 0 by omega]; exact perd_miss hn0.1 (fun j u v => kq j u (by omega))) | (rw [show k = 0 by omega]; unfold perd; rw [if_pos (by omega)]))
        · refine lv_iinc (v := iI (k + 1)) (lv' := [(1, vI (k + 1)), (0, .ref mo)]) F.1 F.2.1 dX7_period_38 hl (k := 0) rfl (iinc_ok (by first | rfl | omega)) (by decide) rfl (fun ls hl => ?_)
          refine lv_goto (tgt := 15) F.1 F.2.1 dX7_period_41 (by decide) ?_
          exact ih_15 (k + 1) ⟨by omega, by omega, by omega, by omega, fun j u v => (if hj : j = k then by subst hj; exact fun h => c_35 ((lss_asr (by omega) (fun _ u v => hM.q u v)).mpr h) else kq j u (by omega))⟩ (show ((25 - (k + 1)).toNat) < ((25 - k).toNat) by omega) ls (lv_sub hl [0, 1] rfl)
set_option maxRecDepth 100000 in
set_option maxHeartbeats 4000000 in
theorem c_X7_isMirrored (l : Launch) (D : va_G) (cy : Nat → ClassId) (mo no th pa sl sv tx : Nat) (tr ss ty : Int) (a : Int → Int) (i : Int) (hM : MR a) (hi : 0 ≤ i ∧ i < a 0) : Rd l yX7_isMirrored cX7_isMirrored 4 (some FieldType.boolean) 1 [.ref mo, vI i] D cy [(mo, .inr (7, [vI tr, .ref no, .ref th, .ref pa, vI ss, .ref sl, .ref sv, .ref tx, vI ty])), (no, .inl (cy 1, 118, .inl (iA a)))] (b2i (pB (asr (a 0) (rq a) i 1))) := by
  refine Rd.of RX7 rfl [(0, .ref mo), (1, vI i)] rfl (by decide +kernel) (Nat.le_of_ble_eq_true rfl) ?_
  intro p e s m args below meth c F hr hlocks hK hP ls hl
  have hn0 := hM.n
  have hw0 := hM.nw
  have hc0 := hM.wc
  refine rr_iconst F dX7_isMirrored_0 ?_
  refine lv_istore_n (lv' := [(2, vI 1), (0, .ref mo), (1, vI i)]) F.1 F.2.1 dX7_isMirrored_1 rfl hl (by decide) rfl (fun ls hl => ?_)
  refine rr_iconst F dX7_isMirrored_2 ?_
  refine lv_istore_n (lv' := [(3, vI 0), (2, vI 1), (0, .ref mo), (1, vI i)]) F.1 F.2.1 dX7_isMirrored_3 rfl hl (by decide) rfl (fun ls hl => ?_)
  refine rr_loop1 (fun k => (0 ≤ k) ∧ (k ≤ a 0)) (fun k => (25 - k).toNat) (fun k => [(3, vI k), (2, vI (b2i (pB (∀ j, 0 ≤ j → j < k → a (1 + j) = a (1 + off (a 0) i 1 j))))), (0, .ref mo), (1, vI i)]) ?_ 0 ⟨by omega, by omega⟩ (lv_cv (lv_sub hl [0, 1, 2, 3] rfl) (by rw [← show (1 : Int) = b2i (pB (∀ j, 0 ≤ j → j < 0 → a (1 + j) = a (1 + off (a 0) i 1 j))) from by exact b2i_t (fun j x y => by omega)]; rfl))
  intro k hI ih_4 ls hl
  obtain ⟨k0, k1⟩ := hI
  have hl : lv_has ls 4 [(3, vI k), (2, vI (b2i (pB (∀ j, 0 ≤ j → j < k → a (1 + j) = a (1 + off (a 0) i 1 j))))), (0, .ref mo), (1, vI i)] := hl
  refine lv_iload_n F.1 F.2.1 dX7_isMirrored_4 rfl (lv_at hl 0 rfl) ?_
  refine lv_aload_n F.1 F.2.1 dX7_isMirrored_5 rfl (lv_at hl 2 rfl) ?_
  refine gf7_1 F hK hP 0 rfl tw875 dX7_isMirrored_6 ?_
  refine rr_iconst F dX7_isMirrored_9 ?_
  refine rr_iald F hK hP 1 rfl (by omega) (by omega) (by decide) dX7_isMirrored_10 ?_
  refine rr_icmp_ge F (tgt := 58) dX7_isMirrored_11 (by decide) ⟨by omega, by omega⟩ ⟨by omega, by omega⟩ (fun c_11 => ?_) (fun c_11 => ?_)
  · refine lv_iload_n F.1 F.2.1 dX7_isMirrored_58 rfl (lv_at hl 1 rfl) ?_
    exact rr_zret F hr hlocks (b := (pB (∀ j, 0 ≤ j → j < k → a (1 + j) = a (1 + off (a 0) i 1 j)))) dX7_isMirrored_59 rfl (congrArg b2i (pB_eq ⟨fun h j x y => h j x (by omega), fun h j x y => h j x (by omega)⟩))
  · refine lv_iload_n F.1 F.2.1 dX7_isMirrored_14 rfl (lv_at hl 1 rfl) ?_
    refine rr_ifP_eq F (tgt := 50) dX7_isMirrored_15 (by decide) (fun c_15 => ?_) (fun c_15 => ?_)
    · refine rr_iconst F dX7_isMirrored_50 ?_
      refine lv_istore_n (lv' := [(2, vI 0), (3, vI k), (0, .ref mo), (1, vI i)]) F.1 F.2.1 dX7_isMirrored_51 rfl hl (by decide) rfl (fun ls hl => ?_)
      refine lv_iinc (v := iI (k + 1)) (lv' := [(3, vI (k + 1)), (2, vI 0), (0, .ref mo), (1, vI i)]) F.1 F.2.1 dX7_isMirrored_52 hl (k := 1) rfl (iinc_ok (by first | rfl | omega)) (by decide) rfl (fun ls hl => ?_)
      refine lv_goto (tgt := 4) F.1 F.2.1 dX7_isMirrored_55 (by decide) ?_
      exact ih_4 (k + 1) ⟨by omega, by omega⟩ (show ((25 - (k + 1)).toNat) < ((25 - k).toNat) by omega) ls (lv_cv (lv_sub hl [0, 1, 2, 3] rfl) (by rw [← show (0 : Int) = b2i (pB (∀ j, 0 ≤ j → j < (k + 1) → a (1 + j) = a (1 + off (a 0) i 1 j))) from by first | exact b2i_t (fun j x y => (if hj : j = k then by subst hj; assumption else c_15 j x (by omega))) | exact b2i_f (fun h => c_15 (fun j x y => h j x (by omega))) | exact b2i_f (fun h => c_43 (h k k0 (by omega)))]; rfl))
    · refine lv_aload_n F.1 F.2.1 dX7_isMirrored_18 rfl (lv_at hl 2 rfl) ?_
      refine gf7_1 F hK hP 0 rfl tw875 dX7_isMirrored_19 ?_
      refine rr_iconst F dX7_isMirrored_22 ?_
      refine lv_iload_n F.1 F.2.1 dX7_isMirrored_23 rfl (lv_at hl 0 rfl) ?_
      refine rr_iadd F (z := 1 + k) dX7_isMirrored_24 (by first | rfl | omega) ?_
      refine rr_iald F hK hP 1 rfl (by omega) (by omega) (by decide) dX7_isMirrored_25 ?_
      refine lv_aload_n F.1 F.2.1 dX7_isMirrored_26 rfl (lv_at hl 2 rfl) ?_
      refine gf7_1 F hK hP 0 rfl tw875 dX7_isMirrored_27 ?_
      refine rr_iconst F dX7_isMirrored_30 ?_
      refine lv_aload_n F.1 F.2.1 dX7_isMirrored_31 rfl (lv_at hl 2 rfl) ?_
      refine gf7_1 F hK hP 0 rfl tw875 dX7_isMirrored_32 ?_
      refine lv_iload_n F.1 F.2.1 dX7_isMirrored_35 rfl (lv_at hl 3 rfl) ?_
      refine rr_iconst F dX7_isMirrored_36 ?_
      refine lv_iload_n F.1 F.2.1 dX7_isMirrored_37 rfl (lv_at hl 0 rfl) ?_
      refine rr_rdS (rest := [vI 1, .ref no, vI (a (1 + k))]) F hK (c_X7_off l D cy no a i 1 k (by first | assumption | omega | exact ⟨by omega, by omega⟩) (by first | assumption | omega | exact ⟨by omega, by omega⟩) (by first | assumption | omega | exact ⟨by omega, by omega⟩) (by first | assumption | omega | exact ⟨by omega, by omega⟩)) (hP.sub [1] rfl) sf_X7_off tw962 ⟨Nat.le_of_ble_eq_true rfl, Nat.le_of_ble_eq_true rfl⟩ hl rfl (Nat.le_of_ble_eq_true rfl) dX7_isMirrored_38 ⟨Nat.zero_le _, Nat.zero_le _⟩ ?_
      have q_38_0 := (off_rng (n := a 0) (by omega) i 1 k)
      refine rr_iadd F (z := 1 + (off (a 0) i 1 k)) dX7_isMirrored_41 (by first | rfl | omega) ?_
      refine rr_iald F hK hP 1 rfl (by omega) (by omega) (by decide) dX7_isMirrored_42 ?_
      have qa := hM.q (j := k) (by omega) (by omega)
      have qb := hM.q q_38_0.1 q_38_0.2
      refine rr_icmp_ne F (tgt := 50) dX7_isMirrored_43 (by decide) ⟨by omega, by omega⟩ ⟨by omega, by omega⟩ (fun c_43 => ?_) (fun c_43 => ?_)
      · refine rr_iconst F dX7_isMirrored_50 ?_
        refine lv_istore_n (lv' := [(2, vI 0), (3, vI k), (0, .ref mo), (1, vI i)]) F.1 F.2.1 dX7_isMirrored_51 rfl hl (by decide) rfl (fun ls hl => ?_)
        refine lv_iinc (v := iI (k + 1)) (lv' := [(3, vI (k + 1)), (2, vI 0), (0, .ref mo), (1, vI i)]) F.1 F.2.1 dX7_isMirrored_52 hl (k := 1) rfl (iinc_ok (by first | rfl | omega)) (by decide) rfl (fun ls hl => ?_)
        refine lv_goto (tgt := 4) F.1 F.2.1 dX7_isMirrored_55 (by decide) ?_
        exact ih_4 (k + 1) ⟨by omega, by omega⟩ (show ((25 - (k + 1)).toNat) < ((25 - k).toNat) by omega) ls (lv_cv (lv_sub hl [0, 1, 2, 3] rfl) (by rw [← show (0 : Int) = b2i (pB (∀ j, 0 ≤ j → j < (k + 1) → a (1 + j) = a (1 + off (a 0) i 1 j))) from by first | exact b2i_t (fun j x y => (if hj : j = k then by subst hj; assumption else c_15 j x (by omega))) | exact b2i_f (fun h => c_15 (fun j x y => h j x (by omega))) | exact b2i_f (fun h => c_43 (h k k0 (by omega)))]; rfl))
      · refine rr_iconst F dX7_isMirrored_46 ?_
        refine lv_goto (tgt := 51) F.1 F.2.1 dX7_isMirrored_47 (by decide) ?_
        refine lv_istore_n (lv' := [(2, vI 1), (3, vI k), (0, .ref mo), (1, vI i)]) F.1 F.2.1 dX7_isMirrored_51 rfl hl (by decide) rfl (fun ls hl => ?_)
        refine lv_iinc (v := iI (k + 1)) (lv' := [(3, vI (k + 1)), (2, vI 1), (0, .ref mo), (1, vI i)]) F.1 F.2.1 dX7_isMirrored_52 hl (k := 1) rfl (iinc_ok (by first | rfl | omega)) (by decide) rfl (fun ls hl => ?_)
        refine lv_goto (tgt := 4) F.1 F.2.1 dX7_isMirrored_55 (by decide) ?_
        exact ih_4 (k + 1) ⟨by omega, by omega⟩ (show ((25 - (k + 1)).toNat) < ((25 - k).toNat) by omega) ls (lv_cv (lv_sub hl [0, 1, 2, 3] rfl) (by rw [← show (1 : Int) = b2i (pB (∀ j, 0 ≤ j → j < (k + 1) → a (1 + j) = a (1 + off (a 0) i 1 j))) from by first | exact b2i_t (fun j x y => (if hj : j = k then by subst hj; assumption else c_15 j x (by omega))) | exact b2i_f (fun h => c_15 (fun j x y => h j x (by omega))) | exact b2i_f (fun h => c_43 (h k k0 (by omega)))]; rfl))
set_option maxRecDepth 100000 in
set_option maxHeartbeats 4000000 in
theorem c_X7_mirrors (l : Launch) (D : va_G) (cy : Nat → ClassId) (mo no th pa sl sv tx : Nat) (tr ss ty : Int) (a : Int → Int) (hM : MR a) : Rd l yX7_mirrors cX7_mirrors 3 (some FieldType.int) 2 [.ref mo] D cy [(mo, .inr (7, [vI tr, .ref no, .ref th, .ref pa, vI ss, .ref sl, .ref sv, .ref tx, vI ty])), (no, .inl (cy 1, 118, .inl (iA a)))] (b2i (pB (mirr (a 0) (rq a)))) := by
  refine Rd.of RX7 rfl [(0, .ref mo)] rfl (by decide +kernel) (Nat.le_of_ble_eq_true rfl) ?_
  intro p e s m args below meth c F hr hlocks hK hP ls hl
  have hn0 := hM.n
  have hw0 := hM.nw
  have hc0 := hM.wc
  refine lv_aload_n F.1 F.2.1 dX7_mirrors_0 rfl (lv_at hl 0 rfl) ?_
  refine gf7_1 F hK hP 0 rfl tw875 dX7_mirrors_1 ?_
  refine rr_iconst F dX7_mirrors_4 ?_
  refine rr_iald F hK hP 1 rfl (by omega) (by omega) (by decide) dX7_mirrors_5 ?_
  refine rr_if_ne F (tgt := 13) dX7_mirrors_6 (by decide) ⟨by omega, by omega⟩ (fun c_6 => ?_) (fun c_6 => ?_)
  · refine rr_iconst F dX7_mirrors_13 ?_
    refine lv_istore_n (lv' := [(1, vI 0), (0, .ref mo)]) F.1 F.2.1 dX7_mirrors_14 rfl hl (by decide) rfl (fun ls hl => ?_)
    refine rr_iconst F dX7_mirrors_15 ?_
    refine lv_istore_n (lv' := [(2, vI 0), (1, vI 0), (0, .ref mo)]) F.1 F.2.1 dX7_mirrors_16 rfl hl (by decide) rfl (fun ls hl => ?_)
    refine rr_loop1 (fun k => (0 ≤ k) ∧ (k ≤ a 0)) (fun k => (25 - k).toNat) (fun k => [(2, vI k), (1, vI (b2i (pB (a 0 = 0 ∨ ∃ i, 0 ≤ i ∧ i < k ∧ asr (a 0) (rq a) i 1)))), (0, .ref mo)]) ?_ 0 ⟨by omega, by omega⟩ (lv_cv (lv_sub hl [0, 1, 2] rfl) (by rw [← show (0 : Int) = b2i (pB (a 0 = 0 ∨ ∃ i, 0 ≤ i ∧ i < 0 ∧ asr (a 0) (rq a) i 1)) from by first | exact b2i_t (Or.inl (by omega)) | exact b2i_f (fun h => h.elim (fun h => by omega) (fun ⟨i, u, v, _⟩ => by omega))]; rfl))
    intro k hI ih_17 ls hl
    obtain ⟨k0, k1⟩ := hI
    have hl : lv_has ls 3 [(2, vI k), (1, vI (b2i (pB (a 0 = 0 ∨ ∃ i, 0 ≤ i ∧ i < k ∧ asr (a 0) (rq a) i 1)))), (0, .ref mo)] := hl
    refine lv_iload_n F.1 F.2.1 dX7_mirrors_17 rfl (lv_at hl 0 rfl) ?_
    refine lv_aload_n F.1 F.2.1 dX7_mirrors_18 rfl (lv_at hl 2 rfl) ?_
    refine gf7_1 F hK hP 0 rfl tw875 dX7_mirrors_19 ?_
    refine rr_iconst F dX7_mirrors_22 ?_
    refine rr_iald F hK hP 1 rfl (by omega) (by omega) (by decide) dX7_mirrors_23 ?_
    refine rr_icmp_ge F (tgt := 51) dX7_mirrors_24 (by decide) ⟨by omega, by omega⟩ ⟨by omega, by omega⟩ (fun c_24 => ?_) (fun c_24 => ?_)
    · refine lv_iload_n F.1 F.2.1 dX7_mirrors_51 rfl (lv_at hl 1 rfl) ?_
      refine rr_ifP_eq F (tgt := 59) dX7_mirrors_52 (by decide) (fun c_52 => ?_) (fun c_52 => ?_)
      · refine rr_iconst F dX7_mirrors_59 ?_
        exact rr_iret F hr hlocks dX7_mirrors_60 (by first | exact b2i_t (c_52.elim Or.inl (fun ⟨i, u, v, w⟩ => Or.inr ⟨i, u, by omega, w⟩)) | exact b2i_f (fun h => c_52 (h.elim Or.inl (fun ⟨i, u, v, w⟩ => Or.inr ⟨i, u, by omega, w⟩))))
      · refine rr_iconst F dX7_mirrors_55 ?_
        refine lv_goto (tgt := 60) F.1 F.2.1 dX7_mirrors_56 (by decide) ?_
        exact rr_iret F hr hlocks dX7_mirrors_60 (by first | exact b2i_t (c_52.elim Or.inl (fun ⟨i, u, v, w⟩ => Or.inr ⟨i, u, by omega, w⟩)) | exact b2i_f (fun h => c_52 (h.elim Or.inl (fun ⟨i, u, v, w⟩ => Or.inr ⟨i, u, by omega, w⟩))))
    · refine lv_iload_n F.1 F.2.1 dX7_mirrors_27 rfl (lv_at hl 1 rfl) ?_
      refine rr_ifP_ne F (tgt := 39) dX7_mirrors_28 (by decide) (fun c_28 => ?_) (fun c_28 => ?_)
      · refine rr_iconst F dX7_mirrors_39 ?_
        refine lv_goto (tgt := 44) F.1 F.2.1 dX7_mirrors_40 (by decide) ?_
        refine lv_istore_n (lv' := [(1, vI 1), (2, vI k), (0, .ref mo)]) F.1 F.2.1 dX7_mirrors_44 rfl hl (by decide) rfl (fun ls hl => ?_)
        refine lv_iinc (v := iI (k + 1)) (lv' := [(2, vI (k + 1)), (1, vI 1), (0, .ref mo)]) F.1 F.2.1 dX7_mirrors_45 hl (k := 1) rfl (iinc_ok (by first | rfl | omega)) (by decide) rfl (fun ls hl => ?_)
        refine lv_goto (tgt := 17) F.1 F.2.1 dX7_mirrors_48 (by decide) ?_
        exact ih_17 (k + 1) ⟨by omega, by omega⟩ (show ((25 - (k + 1)).toNat) < ((25 - k).toNat) by omega) ls (lv_cv (lv_sub hl [0, 1, 2] rfl) (by rw [← show (1 : Int) = b2i (pB (a 0 = 0 ∨ ∃ i, 0 ≤ i ∧ i < (k + 1) ∧ asr (a 0) (rq a) i 1)) from by first | exact b2i_t (c_28.elim Or.inl (fun ⟨i, u, v, w⟩ => Or.inr ⟨i, u, by omega, w⟩)) | exact b2i_t (Or.inr ⟨k, k0, by omega, c_36⟩) | exact b2i_f (fun h => h.elim (fun h => c_28 (Or.inl h)) (fun ⟨i, u, v, w⟩ => if hj : i = k then by subst hj; exact c_36 w else c_28 (Or.inr ⟨i, u, by omega, w⟩)))]; rfl))
      · refine lv_aload_n F.1 F.2.1 dX7_mirrors_31 rfl (lv_at hl 2 rfl) ?_
        refine lv_iload_n F.1 F.2.1 dX7_mirrors_32 rfl (lv_at hl 0 rfl) ?_
        refine rr_rdV (rest := []) F hK (c_X7_isMirrored l D cy mo no th pa sl sv tx tr ss ty a k (by first | assumption | omega | exact ⟨by omega, by omega⟩) (by first | assumption | omega | exact ⟨by omega, by omega⟩)) hP sf_X7_isMirrored tw977 7 rfl rfl ⟨Nat.le_of_ble_eq_true rfl, Nat.le_of_ble_eq_true rfl⟩ hl rfl (Nat.le_of_ble_eq_true rfl) dX7_mirrors_33 ⟨Nat.zero_le _, Nat.zero_le _⟩ ?_
        refine rr_ifP_eq F (tgt := 43) dX7_mirrors_36 (by decide) (fun c_36 => ?_) (fun c_36 => ?_)
        · refine rr_iconst F dX7_mirrors_43 ?_
          refine lv_istore_n (lv' := [(1, vI 0), (2, vI k), (0, .ref mo)]) F.1 F.2.1 dX7_mirrors_44 rfl hl (by decide) rfl (fun ls hl => ?_)
          refine lv_iinc (v := iI (k + 1)) (lv' := [(2, vI (k + 1)), (1, vI 0), (0, .ref mo)]) F.1 F.2.1 dX7_mirrors_45 hl (k := 1) rfl (iinc_ok (by first | rfl | omega)) (by decide) rfl (fun ls hl => ?_)
          refine lv_goto (tgt := 17) F.1 F.2.1 dX7_mirrors_48 (by decide) ?_
          exact ih_17 (k + 1) ⟨by omega, by omega⟩ (show ((25 - (k + 1)).toNat) < ((25 - k).toNat) by omega) ls (lv_cv (lv_sub hl [0, 1, 2] rfl) (by rw [← show (0 : Int) = b2i (pB (a 0 = 0 ∨ ∃ i, 0 ≤ i ∧ i < (k + 1) ∧ asr (a 0) (rq a) i 1)) from by first | exact b2i_t (c_28.elim Or.inl (fun ⟨i, u, v, w⟩ => Or.inr ⟨i, u, by omega, w⟩)) | exact b2i_t (Or.inr ⟨k, k0, by omega, c_36⟩) | exact b2i_f (fun h => h.elim (fun h => c_28 (Or.inl h)) (fun ⟨i, u, v, w⟩ => if hj : i = k then by subst hj; exact c_36 w else c_28 (Or.inr ⟨i, u, by omega, w⟩)))]; rfl))
        · refine rr_iconst F dX7_mirrors_39 ?_
          refine lv_goto (tgt := 44) F.1 F.2.1 dX7_mirrors_40 (by decide) ?_
          refine lv_istore_n (lv' := [(1, vI 1), (2, vI k), (0, .ref mo)]) F.1 F.2.1 dX7_mirrors_44 rfl hl (by decide) rfl (fun ls hl => ?_)
          refine lv_iinc (v := iI (k + 1)) (lv' := [(2, vI (k + 1)), (1, vI 1), (0, .ref mo)]) F.1 F.2.1 dX7_mirrors_45 hl (k := 1) rfl (iinc_ok (by first | rfl | omega)) (by decide) rfl (fun ls hl => ?_)
          refine lv_goto (tgt := 17) F.1 F.2.1 dX7_mirrors_48 (by decide) ?_
          exact ih_17 (k + 1) ⟨by omega, by omega⟩ (show ((25 - (k + 1)).toNat) < ((25 - k).toNat) by omega) ls (lv_cv (lv_sub hl [0, 1, 2] rfl) (by rw [← show (1 : Int) = b2i (pB (a 0 = 0 ∨ ∃ i, 0 ≤ i ∧ i < (k + 1) ∧ asr (a 0) (rq a) i 1)) from by first | exact b2i_t (c_28.elim Or.inl (fun ⟨i, u, v, w⟩ => Or.inr ⟨i, u, by omega, w⟩)) | exact b2i_t (Or.inr ⟨k, k0, by omega, c_36⟩) | exact b2i_f (fun h => h.elim (fun h => c_28 (Or.inl h)) (fun ⟨i, u, v, w⟩ => if hj : i = k then by subst hj; exact c_36 w else c_28 (Or.inr ⟨i, u, by omega, w⟩)))]; rfl))
  · refine rr_iconst F dX7_mirrors_9 ?_
    refine lv_goto (tgt := 14) F.1 F.2.1 dX7_mirrors_10 (by decide) ?_
    refine lv_istore_n (lv' := [(1, vI 1), (0, .ref mo)]) F.1 F.2.1 dX7_mirrors_14 rfl hl (by decide) rfl (fun ls hl => ?_)
    refine rr_iconst F dX7_mirrors_15 ?_
    refine lv_istore_n (lv' := [(2, vI 0), (1, vI 1), (0, .ref mo)]) F.1 F.2.1 dX7_mirrors_16 rfl hl (by decide) rfl (fun ls hl => ?_)
    refine rr_loop1 (fun k => (0 ≤ k) ∧ (k ≤ a 0)) (fun k => (25 - k).toNat) (fun k => [(2, vI k), (1, vI (b2i (pB (a 0 = 0 ∨ ∃ i, 0 ≤ i ∧ i < k ∧ asr (a 0) (rq a) i 1)))), (0, .ref mo)]) ?_ 0 ⟨by omega, by omega⟩ (lv_cv (lv_sub hl [0, 1, 2] rfl) (by rw [← show (1 : Int) = b2i (pB (a 0 = 0 ∨ ∃ i, 0 ≤ i ∧ i < 0 ∧ asr (a 0) (rq a) i 1)) from by first | exact b2i_t (Or.inl (by omega)) | exact b2i_f (fun h => h.elim (fun h => by omega) (fun ⟨i, u, v, _⟩ => by omega))]; rfl))
    intro k hI ih_17 ls hl
    obtain ⟨k0, k1⟩ := hI
    have hl : lv_has ls 3 [(2, vI k), (1, vI (b2i (pB (a 0 = 0 ∨ ∃ i, 0 ≤ i ∧ i < k ∧ asr (a 0) (rq a) i 1)))), (0, .ref mo)] := hl
    refine lv_iload_n F.1 F.2.1 dX7_mirrors_17 rfl (lv_at hl 0 rfl) ?_
    refine lv_aload_n F.1 F.2.1 dX7_mirrors_18 rfl (lv_at hl 2 rfl) ?_
    refine gf7_1 F hK hP 0 rfl tw875 dX7_mirrors_19 ?_
    refine rr_iconst F dX7_mirrors_22 ?_
    refine rr_iald F hK hP 1 rfl (by omega) (by omega) (by decide) dX7_mirrors_23 ?_
    refine rr_icmp_ge F (tgt := 51) dX7_mirrors_24 (by decide) ⟨by omega, by omega⟩ ⟨by omega, by omega⟩ (fun c_24 => ?_) (fun c_24 => ?_)
    · refine lv_iload_n F.1 F.2.1 dX7_mirrors_51 rfl (lv_at hl 1 rfl) ?_
      refine rr_ifP_eq F (tgt := 59) dX7_mirrors_52 (by decide) (fun c_52 => ?_) (fun c_52 => ?_)
      · refine rr_iconst F dX7_mirrors_59 ?_
        exact rr_iret F hr hlocks dX7_mirrors_60 (by first | exact b2i_t (c_52.elim Or.inl (fun ⟨i, u, v, w⟩ => Or.inr ⟨i, u, by omega, w⟩)) | exact b2i_f (fun h => c_52 (h.elim Or.inl (fun ⟨i, u, v, w⟩ => Or.inr ⟨i, u, by omega, w⟩))))
      · refine rr_iconst F dX7_mirrors_55 ?_
        refine lv_goto (tgt := 60) F.1 F.2.1 dX7_mirrors_56 (by decide) ?_
        exact rr_iret F hr hlocks dX7_mirrors_60 (by first | exact b2i_t (c_52.elim Or.inl (fun ⟨i, u, v, w⟩ => Or.inr ⟨i, u, by omega, w⟩)) | exact b2i_f (fun h => c_52 (h.elim Or.inl (fun ⟨i, u, v, w⟩ => Or.inr ⟨i, u, by omega, w⟩))))
    · refine lv_iload_n F.1 F.2.1 dX7_mirrors_27 rfl (lv_at hl 1 rfl) ?_
      refine rr_ifP_ne F (tgt := 39) dX7_mirrors_28 (by decide) (fun c_28 => ?_) (fun c_28 => ?_)
      · refine rr_iconst F dX7_mirrors_39 ?_
        refine lv_goto (tgt := 44) F.1 F.2.1 dX7_mirrors_40 (by decide) ?_
        refine lv_istore_n (lv' := [(1, vI 1), (2, vI k), (0, .ref mo)]) F.1 F.2.1 dX7_mirrors_44 rfl hl (by decide) rfl (fun ls hl => ?_)
        refine lv_iinc (v := iI (k + 1)) (lv' := [(2, vI (k + 1)), (1, vI 1), (0, .ref mo)]) F.1 F.2.1 dX7_mirrors_45 hl (k := 1) rfl (iinc_ok (by first | rfl | omega)) (by decide) rfl (fun ls hl => ?_)
        refine lv_goto (tgt := 17) F.1 F.2.1 dX7_mirrors_48 (by decide) ?_
        exact ih_17 (k + 1) ⟨by omega, by omega⟩ (show ((25 - (k + 1)).toNat) < ((25 - k).toNat) by omega) ls (lv_cv (lv_sub hl [0, 1, 2] rfl) (by rw [← show (1 : Int) = b2i (pB (a 0 = 0 ∨ ∃ i, 0 ≤ i ∧ i < (k + 1) ∧ asr (a 0) (rq a) i 1)) from by first | exact b2i_t (c_28.elim Or.inl (fun ⟨i, u, v, w⟩ => Or.inr ⟨i, u, by omega, w⟩)) | exact b2i_t (Or.inr ⟨k, k0, by omega, c_36⟩) | exact b2i_f (fun h => h.elim (fun h => c_28 (Or.inl h)) (fun ⟨i, u, v, w⟩ => if hj : i = k then by subst hj; exact c_36 w else c_28 (Or.inr ⟨i, u, by omega, w⟩)))]; rfl))
      · refine lv_aload_n F.1 F.2.1 dX7_mirrors_31 rfl (lv_at hl 2 rfl) ?_
        refine lv_iload_n F.1 F.2.1 dX7_mirrors_32 rfl (lv_at hl 0 rfl) ?_
        refine rr_rdV (rest := []) F hK (c_X7_isMirrored l D cy mo no th pa sl sv tx tr ss ty a k (by first | assumption | omega | exact ⟨by omega, by omega⟩) (by first | assumption | omega | exact ⟨by omega, by omega⟩)) hP sf_X7_isMirrored tw977 7 rfl rfl ⟨Nat.le_of_ble_eq_true rfl, Nat.le_of_ble_eq_true rfl⟩ hl rfl (Nat.le_of_ble_eq_true rfl) dX7_mirrors_33 ⟨Nat.zero_le _, Nat.zero_le _⟩ ?_
        refine rr_ifP_eq F (tgt := 43) dX7_mirrors_36 (by decide) (fun c_36 => ?_) (fun c_36 => ?_)
        · refine rr_iconst F dX7_mirrors_43 ?_
          refine lv_istore_n (lv' := [(1, vI 0), (2, vI k), (0, .ref mo)]) F.1 F.2.1 dX7_mirrors_44 rfl hl (by decide) rfl (fun ls hl => ?_)
          refine lv_iinc (v := iI (k + 1)) (lv' := [(2, vI (k + 1)), (1, vI 0), (0, .ref mo)]) F.1 F.2.1 dX7_mirrors_45 hl (k := 1) rfl (iinc_ok (by first | rfl | omega)) (by decide) rfl (fun ls hl => ?_)
          refine lv_goto (tgt := 17) F.1 F.2.1 dX7_mirrors_48 (by decide) ?_
          exact ih_17 (k + 1) ⟨by omega, by omega⟩ (show ((25 - (k + 1)).toNat) < ((25 - k).toNat) by omega) ls (lv_cv (lv_sub hl [0, 1, 2] rfl) (by rw [← show (0 : Int) = b2i (pB (a 0 = 0 ∨ ∃ i, 0 ≤ i ∧ i < (k + 1) ∧ asr (a 0) (rq a) i 1)) from by first | exact b2i_t (c_28.elim Or.inl (fun ⟨i, u, v, w⟩ => Or.inr ⟨i, u, by omega, w⟩)) | exact b2i_t (Or.inr ⟨k, k0, by omega, c_36⟩) | exact b2i_f (fun h => h.elim (fun h => c_28 (Or.inl h)) (fun ⟨i, u, v, w⟩ => if hj : i = k then by subst hj; exact c_36 w else c_28 (Or.inr ⟨i, u, by omega, w⟩)))]; rfl))
        · refine rr_iconst F dX7_mirrors_39 ?_
          refine lv_goto (tgt := 44) F.1 F.2.1 dX7_mirrors_40 (by decide) ?_
          refine lv_istore_n (lv' := [(1, vI 1), (2, vI k), (0, .ref mo)]) F.1 F.2.1 dX7_mirrors_44 rfl hl (by decide) rfl (fun ls hl => ?_)
          refine lv_iinc (v := iI (k + 1)) (lv' := [(2, vI (k + 1)), (1, vI 1), (0, .ref mo)]) F.1 F.2.1 dX7_mirrors_45 hl (k := 1) rfl (iinc_ok (by first | rfl | omega)) (by decide) rfl (fun ls hl => ?_)
          refine lv_goto (tgt := 17) F.1 F.2.1 dX7_mirrors_48 (by decide) ?_
          exact ih_17 (k + 1) ⟨by omega, by omega⟩ (show ((25 - (k + 1)).toNat) < ((25 - k).toNat) by omega) ls (lv_cv (lv_sub hl [0, 1, 2] rfl) (by rw [← show (1 : Int) = b2i (pB (a 0 = 0 ∨ ∃ i, 0 ≤ i ∧ i < (k + 1) ∧ asr (a 0) (rq a) i 1)) from by first | exact b2i_t (c_28.elim Or.inl (fun ⟨i, u, v, w⟩ => Or.inr ⟨i, u, by omega, w⟩)) | exact b2i_t (Or.inr ⟨k, k0, by omega, c_36⟩) | exact b2i_f (fun h => h.elim (fun h => c_28 (Or.inl h)) (fun ⟨i, u, v, w⟩ => if hj : i = k then by subst hj; exact c_36 w else c_28 (Or.inr ⟨i, u, by omega, w⟩)))]; rfl))
set_option maxRecDepth 100000 in
set_option maxHeartbeats 4000000 in
theorem c_X7_dividers (l : Launch) (D : va_G) (cy : Nat → ClassId) (mo no th pa sl sv tx : Nat) (tr ss ty : Int) (a : Int → Int) (hM : MR a) : Rd l yX7_dividers cX7_dividers 3 (some FieldType.int) 1 [.ref mo] D cy [(mo, .inr (7, [vI tr, .ref no, .ref th, .ref pa, vI ss, .ref sl, .ref sv, .ref tx, vI ty])), (no, .inl (cy 1, 118, .inl (iA a)))] (cnt (fun j => a (1 + j) = 0) (a 0)) := by
  refine Rd.of RX7 rfl [(0, .ref mo)] rfl (by decide +kernel) (Nat.le_of_ble_eq_true rfl) ?_
  intro p e s m args below meth c F hr hlocks hK hP ls hl
  have hn0 := hM.n
  have hw0 := hM.nw
  have hc0 := hM.wc
  refine rr_iconst F dX7_dividers_0 ?_
  refine lv_istore_n (lv' := [(1, vI 0), (0, .ref mo)]) F.1 F.2.1 dX7_dividers_1 rfl hl (by decide) rfl (fun ls hl => ?_)
  refine rr_iconst F dX7_dividers_2 ?_
  refine lv_istore_n (lv' := [(2, vI 0), (1, vI 0), (0, .ref mo)]) F.1 F.2.1 dX7_dividers_3 rfl hl (by decide) rfl (fun ls hl => ?_)
  refine rr_loop1 (fun k => (0 ≤ k) ∧ (k ≤ a 0)) (fun k => (25 - k).toNat) (fun k => [(2, vI k), (1, vI (cnt (fun j => a (1 + j) = 0) k)), (0, .ref mo)]) ?_ 0 ⟨by omega, by omega⟩ (lv_sub hl [0, 1, 2] rfl)
  intro k hI ih_4 ls hl
  obtain ⟨k0, k1⟩ := hI
  have hl : lv_has ls 3 [(2, vI k), (1, vI (cnt (fun j => a (1 + j) = 0) k)), (0, .ref mo)] := hl
  have cr := cnt_rng (fun j => a (1 + j) = 0) k0
  refine lv_iload_n F.1 F.2.1 dX7_dividers_4 rfl (lv_at hl 0 rfl) ?_
  refine lv_aload_n F.1 F.2.1 dX7_dividers_5 rfl (lv_at hl 2 rfl) ?_
  refine gf7_1 F hK hP 0 rfl tw875 dX7_dividers_6 ?_
  refine rr_iconst F dX7_dividers_9 ?_
  refine rr_iald F hK hP 1 rfl (by omega) (by omega) (by decide) dX7_dividers_10 ?_
  refine rr_icmp_ge F (tgt := 39) dX7_dividers_11 (by decide) ⟨by omega, by omega⟩ ⟨by omega, by omega⟩ (fun c_11 => ?_) (fun c_11 => ?_)
  · refine lv_iload_n F.1 F.2.1 dX7_dividers_39 rfl (lv_at hl 1 rfl) ?_
    exact rr_iret F hr hlocks dX7_dividers_40 (by rw [show k = a 0 by omega])
  · have qq := hM.q k0 c_11
    refine lv_iload_n F.1 F.2.1 dX7_dividers_14 rfl (lv_at hl 1 rfl) ?_
    refine lv_aload_n F.1 F.2.1 dX7_dividers_15 rfl (lv_at hl 2 rfl) ?_
    refine gf7_1 F hK hP 0 rfl tw875 dX7_dividers_16 ?_
    refine lv_iload_n F.1 F.2.1 dX7_dividers_19 rfl (lv_at hl 0 rfl) ?_
    refine rr_rdS (rest := [vI (cnt (fun j => a (1 + j) = 0) k)]) F hK (c_X7_isDivider l D cy no a k (by first | assumption | omega | exact ⟨by omega, by omega⟩) (by first | assumption | omega | exact ⟨by omega, by omega⟩)) (hP.sub [1] rfl) sf_X7_isDivider tw948 ⟨Nat.le_of_ble_eq_true rfl, Nat.le_of_ble_eq_true rfl⟩ hl rfl (Nat.le_of_ble_eq_true rfl) dX7_dividers_20 ⟨Nat.zero_le _, Nat.zero_le _⟩ ?_
    refine rr_ifP_eq F (tgt := 30) dX7_dividers_23 (by decide) (fun c_23 => ?_) (fun c_23 => ?_)
    · refine rr_iconst F dX7_dividers_30 ?_
      refine rr_iadd F (z := cnt (fun j => a (1 + j) = 0) (k + 1)) dX7_dividers_31 (by first | exact cnt_y (P := fun j => a (1 + j) = 0) k0 (by assumption) | (rw [Int.add_zero]; exact cnt_n (P := fun j => a (1 + j) = 0) k0 (by assumption))) ?_
      refine lv_istore_n (lv' := [(1, vI (cnt (fun j => a (1 + j) = 0) (k + 1))), (2, vI k), (0, .ref mo)]) F.1 F.2.1 dX7_dividers_32 rfl hl (by decide) rfl (fun ls hl => ?_)
      refine lv_iinc (v := iI (k + 1)) (lv' := [(2, vI (k + 1)), (1, vI (cnt (fun j => a (1 + j) = 0) (k + 1))), (0, .ref mo)]) F.1 F.2.1 dX7_dividers_33 hl (k := 1) rfl (iinc_ok (by first | rfl | omega)) (by decide) rfl (fun ls hl => ?_)
      refine lv_goto (tgt := 4) F.1 F.2.1 dX7_dividers_36 (by decide) ?_
      exact ih_4 (k + 1) ⟨by omega, by omega⟩ (show ((25 - (k + 1)).toNat) < ((25 - k).toNat) by omega) ls (lv_sub hl [0, 1, 2] rfl)
    · refine rr_iconst F dX7_dividers_26 ?_
      refine lv_goto (tgt := 31) F.1 F.2.1 dX7_dividers_27 (by decide) ?_
      refine rr_iadd F (z := cnt (fun j => a (1 + j) = 0) (k + 1)) dX7_dividers_31 (by first | exact cnt_y (P := fun j => a (1 + j) = 0) k0 (by assumption) | (rw [Int.add_zero]; exact cnt_n (P := fun j => a (1 + j) = 0) k0 (by assumption))) ?_
      refine lv_istore_n (lv' := [(1, vI (cnt (fun j => a (1 + j) = 0) (k + 1))), (2, vI k), (0, .ref mo)]) F.1 F.2.1 dX7_dividers_32 rfl hl (by decide) rfl (fun ls hl => ?_)
      refine lv_iinc (v := iI (k + 1)) (lv' := [(2, vI (k + 1)), (1, vI (cnt (fun j => a (1 + j) = 0) (k + 1))), (0, .ref mo)]) F.1 F.2.1 dX7_dividers_33 hl (k := 1) rfl (iinc_ok (by first | rfl | omega)) (by decide) rfl (fun ls hl => ?_)
      refine lv_goto (tgt := 4) F.1 F.2.1 dX7_dividers_36 (by decide) ?_
      exact ih_4 (k + 1) ⟨by omega, by omega⟩ (show ((25 - (k + 1)).toNat) < ((25 - k).toNat) by omega) ls (lv_sub hl [0, 1, 2] rfl)
set_option maxRecDepth 100000 in
set_option maxHeartbeats 4000000 in
theorem c_X7_abouts (l : Launch) (D : va_G) (cy : Nat → ClassId) (mo no th pa sl sv tx : Nat) (tr ss ty : Int) (a : Int → Int) (x : Int) (hM : MR a) (hx : 0 ≤ x ∧ x ≤ 8) : Rd l yX7_abouts cX7_abouts 2 (some FieldType.int) 3 [.ref mo, vI x] D cy [(mo, .inr (7, [vI tr, .ref no, .ref th, .ref pa, vI ss, .ref sl, .ref sv, .ref tx, vI ty])), (no, .inl (cy 1, 118, .inl (iA a)))] (abt (a 0) (rq a) (a 25) (a 96) (a 117) x) := by
  refine Rd.of RX7 rfl [(0, .ref mo), (1, vI x)] rfl (by decide +kernel) (Nat.le_of_ble_eq_true rfl) ?_
  intro p e s m args below meth c F hr hlocks hK hP ls hl
  have hn0 := hM.n
  have hw0 := hM.nw
  have hc0 := hM.wc
  refine lv_iload_n F.1 F.2.1 dX7_abouts_0 rfl (lv_at hl 1 rfl) ?_
  rcases (show (x < 0 ∨ 7 < x) ∨ x = 0 ∨ x = 1 ∨ x = 2 ∨ x = 3 ∨ x = 4 ∨ x = 5 ∨ x = 6 ∨ x = 7 by omega) with c_1 | c_1 | c_1 | c_1 | c_1 | c_1 | c_1 | c_1 | c_1
  · refine rr_tabOut F (tgt := 102) dX7_abouts_1 ⟨by omega, by omega⟩ c_1 rfl ?_
    refine lv_aload_n F.1 F.2.1 dX7_abouts_102 rfl (lv_at hl 0 rfl) ?_
    refine rr_rdV (rest := []) F hK (c_X7_mirrors l D cy mo no th pa sl sv tx tr ss ty a (by first | assumption | omega | exact ⟨by omega, by omega⟩)) hP sf_X7_mirrors tw973 7 rfl rfl ⟨Nat.le_of_ble_eq_true rfl, Nat.le_of_ble_eq_true rfl⟩ hl rfl (Nat.le_of_ble_eq_true rfl) dX7_abouts_103 ⟨Nat.zero_le _, Nat.zero_le _⟩ ?_
    have q_103_0 := (inR_b2i (pB (mirr (a 0) (rq a))))
    exact rr_iret F hr hlocks dX7_abouts_106 (by unfold abt; repeat' (first | rfl | split | omega))
  · refine rr_tabIn F (tgt := 48) 0 dX7_abouts_1 ⟨by omega, by omega⟩ (by omega) (by omega) rfl rfl ?_
    refine lv_aload_n F.1 F.2.1 dX7_abouts_48 rfl (lv_at hl 0 rfl) ?_
    refine gf7_1 F hK hP 0 rfl tw875 dX7_abouts_49 ?_
    refine rr_iconst F dX7_abouts_52 ?_
    refine rr_iald F hK hP 1 rfl (by omega) (by omega) (by decide) dX7_abouts_53 ?_
    exact rr_iret F hr hlocks dX7_abouts_54 (by unfold abt; repeat' (first | rfl | split | omega))
  · refine rr_tabIn F (tgt := 55) 1 dX7_abouts_1 ⟨by omega, by omega⟩ (by omega) (by omega) rfl rfl ?_
    refine lv_aload_n F.1 F.2.1 dX7_abouts_55 rfl (lv_at hl 0 rfl) ?_
    refine rr_rdV (rest := []) F hK (c_X7_dividers l D cy mo no th pa sl sv tx tr ss ty a (by first | assumption | omega | exact ⟨by omega, by omega⟩)) hP sf_X7_dividers tw944 7 rfl rfl ⟨Nat.le_of_ble_eq_true rfl, Nat.le_of_ble_eq_true rfl⟩ hl rfl (Nat.le_of_ble_eq_true rfl) dX7_abouts_56 ⟨Nat.zero_le _, Nat.zero_le _⟩ ?_
    exact rr_iret F hr hlocks dX7_abouts_59 (by unfold abt; repeat' (first | rfl | split | omega))
  · refine rr_tabIn F (tgt := 60) 2 dX7_abouts_1 ⟨by omega, by omega⟩ (by omega) (by omega) rfl rfl ?_
    refine lv_aload_n F.1 F.2.1 dX7_abouts_60 rfl (lv_at hl 0 rfl) ?_
    refine gf7_1 F hK hP 0 rfl tw875 dX7_abouts_61 ?_
    refine rr_rdS (rest := []) F hK (c_X7_worn l D cy no a (by first | assumption | omega | exact ⟨by omega, by omega⟩)) (hP.sub [1] rfl) sf_X7_worn tw951 ⟨Nat.le_of_ble_eq_true rfl, Nat.le_of_ble_eq_true rfl⟩ hl rfl (Nat.le_of_ble_eq_true rfl) dX7_abouts_64 ⟨Nat.zero_le _, Nat.zero_le _⟩ ?_
    exact rr_iret F hr hlocks dX7_abouts_67 (by unfold abt; repeat' (first | rfl | split | omega))
  · refine rr_tabIn F (tgt := 68) 3 dX7_abouts_1 ⟨by omega, by omega⟩ (by omega) (by omega) rfl rfl ?_
    refine lv_aload_n F.1 F.2.1 dX7_abouts_68 rfl (lv_at hl 0 rfl) ?_
    refine gf7_1 F hK hP 0 rfl tw875 dX7_abouts_69 ?_
    refine rr_bipush F dX7_abouts_72 (by decide) ?_
    refine rr_iald F hK hP 1 rfl (by omega) (by omega) (by decide) dX7_abouts_74 ?_
    exact rr_iret F hr hlocks dX7_abouts_75 (by unfold abt; repeat' (first | rfl | split | omega))
  · refine rr_tabIn F (tgt := 76) 4 dX7_abouts_1 ⟨by omega, by omega⟩ (by omega) (by omega) rfl rfl ?_
    refine lv_aload_n F.1 F.2.1 dX7_abouts_76 rfl (lv_at hl 0 rfl) ?_
    refine gf7_1 F hK hP 0 rfl tw875 dX7_abouts_77 ?_
    refine rr_bipush F dX7_abouts_80 (by decide) ?_
    refine rr_iald F hK hP 1 rfl (by omega) (by omega) (by decide) dX7_abouts_82 ?_
    exact rr_iret F hr hlocks dX7_abouts_83 (by unfold abt; repeat' (first | rfl | split | omega))
  · refine rr_tabIn F (tgt := 84) 5 dX7_abouts_1 ⟨by omega, by omega⟩ (by omega) (by omega) rfl rfl ?_
    refine lv_aload_n F.1 F.2.1 dX7_abouts_84 rfl (lv_at hl 0 rfl) ?_
    refine gf7_1 F hK hP 0 rfl tw875 dX7_abouts_85 ?_
    refine rr_bipush F dX7_abouts_88 (by decide) ?_
    refine rr_iald F hK hP 1 rfl (by omega) (by omega) (by decide) dX7_abouts_90 ?_
    exact rr_iret F hr hlocks dX7_abouts_91 (by unfold abt; repeat' (first | rfl | split | omega))
  · refine rr_tabIn F (tgt := 92) 6 dX7_abouts_1 ⟨by omega, by omega⟩ (by omega) (by omega) rfl rfl ?_
    refine lv_aload_n F.1 F.2.1 dX7_abouts_92 rfl (lv_at hl 0 rfl) ?_
    refine rr_rdV (rest := []) F hK (c_X7_beginning l D cy mo no th pa sl sv tx tr ss ty a (by first | assumption | omega | exact ⟨by omega, by omega⟩)) hP sf_X7_beginning tw954 7 rfl rfl ⟨Nat.le_of_ble_eq_true rfl, Nat.le_of_ble_eq_true rfl⟩ hl rfl (Nat.le_of_ble_eq_true rfl) dX7_abouts_93 ⟨Nat.zero_le _, Nat.zero_le _⟩ ?_
    have q_93_0 := (bg1_all (n := a 0) (q := rq a) (by omega))
    exact rr_iret F hr hlocks dX7_abouts_96 (by unfold abt; repeat' (first | rfl | split | omega))
  · refine rr_tabIn F (tgt := 97) 7 dX7_abouts_1 ⟨by omega, by omega⟩ (by omega) (by omega) rfl rfl ?_
    refine lv_aload_n F.1 F.2.1 dX7_abouts_97 rfl (lv_at hl 0 rfl) ?_
    refine rr_rdV (rest := []) F hK (c_X7_period l D cy mo no th pa sl sv tx tr ss ty a (by first | assumption | omega | exact ⟨by omega, by omega⟩)) hP sf_X7_period tw969 7 rfl rfl ⟨Nat.le_of_ble_eq_true rfl, Nat.le_of_ble_eq_true rfl⟩ hl rfl (Nat.le_of_ble_eq_true rfl) dX7_abouts_98 ⟨Nat.zero_le _, Nat.zero_le _⟩ ?_
    have q_98_0 := (perd_rng (n := a 0) (rq a) (by omega))
    exact rr_iret F hr hlocks dX7_abouts_101 (by unfold abt; repeat' (first | rfl | split | omega))
