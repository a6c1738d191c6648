set_option maxRecDepth 100000 in
set_option maxHeartbeats 4000000 in
theorem c_X5_countSeen (l : Launch) (D : va_G) (cy : Nat → ClassId) (wa : Nat) (wp wd wq wi we : Int) (hx : 0 ≤ we ∧ we < 16777216) : Rd l yX5_countSeen cX5_countSeen 1 (some FieldType.int) 1 [.ref wa] D cy [(wa, .inr (5, [vI wp, vI wd, vI wq, vI wi, vI we]))] (cnt (bit we) 24) := by
  refine Rd.of RX5 rfl [(0, .ref wa)] rfl (by decide +kernel) (Nat.le_of_ble_eq_true rfl) ?_
  intro p e s m args below meth c F hr hlocks hK hP ls hl
  refine lv_aload_n F.1 F.2.1 dX5_countSeen_0 rfl (lv_at hl 0 rfl) ?_
  refine gf5_4 F hK hP 0 rfl tw104 dX5_countSeen_1 ?_
  refine rr_rdS (rest := []) F hK (c_J6_bitCount_0f7a4 l D cy we (by first | assumption | omega | exact ⟨by omega, by omega⟩)) (hP.sub [] rfl) sf_J6_bitCount_0f7a4 tw509 ⟨Nat.le_of_ble_eq_true rfl, Nat.le_of_ble_eq_true rfl⟩ hl rfl (Nat.le_of_ble_eq_true rfl) dX5_countSeen_4 ⟨Nat.zero_le _, Nat.zero_le _⟩ ?_
  exact rr_iret F hr hlocks dX5_countSeen_7 (by first | rfl | omega)
set_option maxRecDepth 100000 in
set_option maxHeartbeats 4000000 in
theorem c_X5_placeAfter (l : Launch) (D : va_G) (cy : Nat → ClassId) (wa : Nat) (wp wd wq wi we : Int) (r sg : Nat) (n : Int) (g q : Int → Int) (t : Int) (hG : RG n g q) (hW : WK n wp wd wq wi we) (ht : 0 ≤ t ∧ t ≤ 30) : Rd l yX5_placeAfter cX5_placeAfter 3 (some FieldType.int) 1 [.ref wa, vI t, .ref r] D cy [(wa, .inr (5, [vI wp, vI wd, vI wq, vI wi, vI we])), (r, .inr (2, [.ref sg, vI n])), (sg, .inl (cy 0, 24, .inl (iA g)))] (off n wp wd (t * wq)) := by
  refine Rd.of RX5 rfl [(0, .ref wa), (1, vI t), (2, .ref r)] rfl (by decide +kernel) (Nat.le_of_ble_eq_true rfl) ?_
  intro p e s m args below meth c F hr hlocks hK hP ls hl
  have hn0 := hG.1
  have hn1 := hG.2.1
  obtain ⟨v1, v2, v3, v4, v5⟩ := id hW
  have v6 := p2_24 hn0 hn1
  have mr := mulq ht v3
  refine lv_aload_n F.1 F.2.1 dX5_placeAfter_0 rfl (lv_at hl 2 rfl) ?_
  refine lv_aload_n F.1 F.2.1 dX5_placeAfter_1 rfl (lv_at hl 0 rfl) ?_
  refine gf5_0 F hK hP 0 rfl tw92 dX5_placeAfter_2 ?_
  refine lv_aload_n F.1 F.2.1 dX5_placeAfter_5 rfl (lv_at hl 0 rfl) ?_
  refine gf5_1 F hK hP 0 rfl tw95 dX5_placeAfter_6 ?_
  refine lv_iload_n F.1 F.2.1 dX5_placeAfter_9 rfl (lv_at hl 1 rfl) ?_
  refine lv_aload_n F.1 F.2.1 dX5_placeAfter_10 rfl (lv_at hl 0 rfl) ?_
  refine gf5_2 F hK hP 0 rfl tw98 dX5_placeAfter_11 ?_
  refine rr_imul F (z := t * wq) dX5_placeAfter_14 (by first | rfl | omega) ?_
  refine rr_rdV (rest := []) F hK (c_X2_onward l D cy r sg n g q wp wd (t * wq) (by first | assumption | omega | exact ⟨by omega, by omega⟩) (by first | assumption | omega | exact ⟨by omega, by omega⟩) (by first | assumption | omega | exact ⟨by omega, by omega⟩) (by first | assumption | omega | exact ⟨by omega, by omega⟩)) (hP.sub [1, 2] rfl) sf_X2_onward tw525 2 rfl rfl ⟨Nat.le_of_ble_eq_true rfl, Nat.le_of_ble_eq_true rfl⟩ hl rfl (Nat.le_of_ble_eq_true rfl) dX5_placeAfter_15 ⟨Nat.zero_le _, Nat.zero_le _⟩ ?_
  have q_15_0 := (off_rng (n := n) (by omega) wp wd (t * wq))
  exact rr_iret F hr hlocks dX5_placeAfter_18 (by first | rfl | omega)
set_option maxRecDepth 100000 in
set_option maxHeartbeats 4000000 in
theorem c_X5_viewFrom (l : Launch) (D : va_G) (cy : Nat → ClassId) (wa : Nat) (wp wd wq wi we : Int) (r sg : Nat) (n : Int) (g q : Int → Int) (f : Int) (hG : RG n g q) (hW : WK n wp wd wq wi we) (hf : 0 ≤ f ∧ f < n) : Rd l yX5_viewFrom cX5_viewFrom 5 (some FieldType.int) 1 [.ref wa, vI f, .ref r] D cy [(wa, .inr (5, [vI wp, vI wd, vI wq, vI wi, vI we])), (r, .inr (2, [.ref sg, vI n])), (sg, .inl (cy 0, 24, .inl (iA g)))] (vw n f wd wi) := by
  refine Rd.of RX5 rfl [(0, .ref wa), (1, vI f), (2, .ref r)] rfl (by decide +kernel) (Nat.le_of_ble_eq_true rfl) ?_
  intro p e s m args below meth c F hr hlocks hK hP ls hl
  have hn0 := hG.1
  have hn1 := hG.2.1
  obtain ⟨v1, v2, v3, v4, v5⟩ := id hW
  have v6 := p2_24 hn0 hn1
  refine rr_iconst F dX5_viewFrom_0 ?_
  refine lv_istore_n (lv' := [(3, vI 0), (0, .ref wa), (1, vI f), (2, .ref r)]) F.1 F.2.1 dX5_viewFrom_1 rfl hl (by decide) rfl (fun ls hl => ?_)
  refine rr_iconst F dX5_viewFrom_2 ?_
  refine lv_istore (lv' := [(4, vI 0), (3, vI 0), (0, .ref wa), (1, vI f), (2, .ref r)]) F.1 F.2.1 dX5_viewFrom_3 hl (by decide) rfl (fun ls hl => ?_)
  refine rr_loop1 (fun k => (0 ≤ k) ∧ (k ≤ wi)) (fun k => (6 - k).toNat) (fun k => [(4, vI k), (3, vI (vw n f wd k)), (0, .ref wa), (1, vI f), (2, .ref r)]) ?_ 0 ⟨by omega, by omega⟩ (lv_cv (lv_sub hl [0, 1, 2, 3, 4] rfl) (by rw [← show (0 : Int) = vw n f wd 0 from by rfl]; rfl))
  intro k hI ih_5 ls hl
  obtain ⟨k0, k1⟩ := hI
  have hl : lv_has ls 5 [(4, vI k), (3, vI (vw n f wd k)), (0, .ref wa), (1, vI f), (2, .ref r)] := hl
  have vr := vw_lt (n := n) (pl := f) (d := wd) (by omega) k0
  refine lv_iload F.1 F.2.1 dX5_viewFrom_5 (lv_at hl 0 rfl) ?_
  refine lv_aload_n F.1 F.2.1 dX5_viewFrom_7 rfl (lv_at hl 2 rfl) ?_
  refine gf5_3 F hK hP 0 rfl tw101 dX5_viewFrom_8 ?_
  refine rr_icmp_ge F (tgt := 36) dX5_viewFrom_11 (by decide) ⟨by omega, by omega⟩ ⟨by omega, by omega⟩ (fun c_11 => ?_) (fun c_11 => ?_)
  · refine lv_iload_n F.1 F.2.1 dX5_viewFrom_36 rfl (lv_at hl 1 rfl) ?_
    exact rr_iret F hr hlocks dX5_viewFrom_37 (by rw [show k = wi by omega])
  · refine lv_iload_n F.1 F.2.1 dX5_viewFrom_14 rfl (lv_at hl 1 rfl) ?_
    refine rr_iconst F dX5_viewFrom_15 ?_
    refine lv_aload_n F.1 F.2.1 dX5_viewFrom_16 rfl (lv_at hl 4 rfl) ?_
    refine lv_iload_n F.1 F.2.1 dX5_viewFrom_17 rfl (lv_at hl 3 rfl) ?_
    refine lv_aload_n F.1 F.2.1 dX5_viewFrom_18 rfl (lv_at hl 2 rfl) ?_
    refine gf5_1 F hK hP 0 rfl tw95 dX5_viewFrom_19 ?_
    refine lv_iload F.1 F.2.1 dX5_viewFrom_22 (lv_at hl 0 rfl) ?_
    refine rr_rdV (rest := [vI 1, vI (vw n f wd k)]) F hK (c_X2_onward l D cy r sg n g q f wd k (by first | assumption | omega | exact ⟨by omega, by omega⟩) (by first | assumption | omega | exact ⟨by omega, by omega⟩) (by first | assumption | omega | exact ⟨by omega, by omega⟩) (by first | assumption | omega | exact ⟨by omega, by omega⟩)) (hP.sub [1, 2] rfl) sf_X2_onward tw525 2 rfl rfl ⟨Nat.le_of_ble_eq_true rfl, Nat.le_of_ble_eq_true rfl⟩ hl rfl (Nat.le_of_ble_eq_true rfl) dX5_viewFrom_24 ⟨Nat.zero_le _, Nat.zero_le _⟩ ?_
    have q_24_0 := (off_rng (n := n) (by omega) f wd k)
    refine rr_ishl F (z := p2 (off n f wd k)) dX5_viewFrom_27 ⟨rfl, by omega, by omega, rfl⟩ ?_
    refine rr_ior F (z := vw n f wd (k + 1)) dX5_viewFrom_28 ⟨vr.1, by have := p2_rng (k := off n f wd k) (by omega) (by omega); omega, vw_s n f wd k0⟩ ?_
    refine lv_istore_n (lv' := [(3, vI (vw n f wd (k + 1))), (4, vI k), (0, .ref wa), (1, vI f), (2, .ref r)]) F.1 F.2.1 dX5_viewFrom_29 rfl hl (by decide) rfl (fun ls hl => ?_)
    refine lv_iinc (v := iI (k + 1)) (lv' := [(4, vI (k + 1)), (3, vI (vw n f wd (k + 1))), (0, .ref wa), (1, vI f), (2, .ref r)]) F.1 F.2.1 dX5_viewFrom_30 hl (k := 1) rfl (iinc_ok (by first | rfl | omega)) (by decide) rfl (fun ls hl => ?_)
    refine lv_goto (tgt := 5) F.1 F.2.1 dX5_viewFrom_33 (by decide) ?_
    exact ih_5 (k + 1) ⟨by omega, by omega⟩ (show ((6 - (k + 1)).toNat) < ((6 - k).toNat) by omega) ls (lv_sub hl [0, 1, 2, 3, 4] rfl)
set_option maxRecDepth 100000 in
set_option maxHeartbeats 4000000 in
theorem c_X5_stepsToSeeAll (l : Launch) (D : va_G) (cy : Nat → ClassId) (wa : Nat) (wp wd wq wi we : Int) (r sg : Nat) (n : Int) (g q : Int → Int) (hG : RG n g q) (hW : WK n wp wd wq wi we) : Rd l yX5_stepsToSeeAll cX5_stepsToSeeAll 5 (some FieldType.int) 2 [.ref wa, .ref r] D cy [(wa, .inr (5, [vI wp, vI wd, vI wq, vI wi, vI we])), (r, .inr (2, [.ref sg, vI n])), (sg, .inl (cy 0, 24, .inl (iA g)))] (low (fun t => ac n wp wd wq wi we (t + 1) = p2 n - 1) (n + 1)) := by
  refine Rd.of RX5 rfl [(0, .ref wa), (1, .ref r)] rfl (by decide +kernel) (Nat.le_of_ble_eq_true rfl) ?_
  intro p e s m args below meth c F hr hlocks hK hP ls hl
  have hn0 := hG.1
  have hn1 := hG.2.1
  obtain ⟨v1, v2, v3, v4, v5⟩ := id hW
  have v6 := p2_24 hn0 hn1
  refine rr_iconst F dX5_stepsToSeeAll_0 ?_
  refine lv_aload_n F.1 F.2.1 dX5_stepsToSeeAll_1 rfl (lv_at hl 1 rfl) ?_
  refine gf2_1N F hK hP 1 rfl tn60 dX5_stepsToSeeAll_2 ?_
  refine rr_ishl F (z := p2 n) dX5_stepsToSeeAll_5 ⟨rfl, by omega, by omega, rfl⟩ ?_
  refine rr_iconst F dX5_stepsToSeeAll_6 ?_
  refine rr_isub F (z := (p2 n) - 1) dX5_stepsToSeeAll_7 (by first | rfl | omega) ?_
  refine lv_istore_n (lv' := [(2, vI ((p2 n) - 1)), (0, .ref wa), (1, .ref r)]) F.1 F.2.1 dX5_stepsToSeeAll_8 rfl hl (by decide) rfl (fun ls hl => ?_)
  refine lv_aload_n F.1 F.2.1 dX5_stepsToSeeAll_9 rfl (lv_at hl 1 rfl) ?_
  refine gf5_4 F hK hP 0 rfl tw104 dX5_stepsToSeeAll_10 ?_
  refine lv_istore_n (lv' := [(3, vI we), (2, vI ((p2 n) - 1)), (0, .ref wa), (1, .ref r)]) F.1 F.2.1 dX5_stepsToSeeAll_13 rfl hl (by decide) rfl (fun ls hl => ?_)
  refine rr_iconst F dX5_stepsToSeeAll_14 ?_
  refine lv_istore (lv' := [(4, vI 0), (3, vI we), (2, vI ((p2 n) - 1)), (0, .ref wa), (1, .ref r)]) F.1 F.2.1 dX5_stepsToSeeAll_15 hl (by decide) rfl (fun ls hl => ?_)
  refine rr_loop1 (fun k => (0 ≤ k) ∧ (k ≤ n + 1) ∧ (∀ j, 0 ≤ j → j < k → ¬ ac n wp wd wq wi we (j + 1) = p2 n - 1)) (fun k => (26 - k).toNat) (fun k => [(4, vI k), (3, vI (ac n wp wd wq wi we k)), (2, vI (p2 n - 1)), (0, .ref wa), (1, .ref r)]) ?_ 0 ⟨by omega, by omega, fun j x y => by omega⟩ (lv_cv (lv_sub hl [0, 1, 2, 3, 4] rfl) (by rw [← show (we : Int) = ac n wp wd wq wi we 0 from by rfl]; rfl))
  intro k hI ih_17 ls hl
  obtain ⟨k0, k1, kq⟩ := hI
  have hl : lv_has ls 5 [(4, vI k), (3, vI (ac n wp wd wq wi we k)), (2, vI (p2 n - 1)), (0, .ref wa), (1, .ref r)] := hl
  have ar := ac_lt (n := n) (pl := wp) (d := wd) (pa := wq) (by omega) (show 0 ≤ wi by omega) v5 k0
  have ar2 := ac_lt (n := n) (pl := wp) (d := wd) (pa := wq) (by omega) (show 0 ≤ wi by omega) v5 (show 0 ≤ k + 1 by omega)
  refine lv_iload F.1 F.2.1 dX5_stepsToSeeAll_17 (lv_at hl 0 rfl) ?_
  refine lv_aload_n F.1 F.2.1 dX5_stepsToSeeAll_19 rfl (lv_at hl 4 rfl) ?_
  refine gf2_1N F hK hP 1 rfl tn60 dX5_stepsToSeeAll_20 ?_
  refine rr_icmp_gt F (tgt := 55) dX5_stepsToSeeAll_23 (by decide) ⟨by omega, by omega⟩ ⟨by omega, by omega⟩ (fun c_23 => ?_) (fun c_23 => ?_)
  · refine rr_iconst F dX5_stepsToSeeAll_55 ?_
    exact rr_iret F hr hlocks dX5_stepsToSeeAll_56 (low_miss (by omega) (fun j x y => kq j x (by omega)))
  · refine lv_iload_n F.1 F.2.1 dX5_stepsToSeeAll_26 rfl (lv_at hl 1 rfl) ?_
    refine lv_aload_n F.1 F.2.1 dX5_stepsToSeeAll_27 rfl (lv_at hl 3 rfl) ?_
    refine lv_aload_n F.1 F.2.1 dX5_stepsToSeeAll_28 rfl (lv_at hl 3 rfl) ?_
    refine lv_iload F.1 F.2.1 dX5_stepsToSeeAll_29 (lv_at hl 0 rfl) ?_
    refine lv_aload_n F.1 F.2.1 dX5_stepsToSeeAll_31 rfl (lv_at hl 4 rfl) ?_
    refine rr_rdV (rest := [.ref wa, vI (ac n wp wd wq wi we k)]) F hK (c_X5_placeAfter l D cy wa wp wd wq wi we r sg n g q k (by first | assumption | omega | exact ⟨by omega, by omega⟩) (by first | assumption | omega | exact ⟨by omega, by omega⟩) (by first | assumption | omega | exact ⟨by omega, by omega⟩)) hP sf_X5_placeAfter tw737 5 rfl rfl ⟨Nat.le_of_ble_eq_true rfl, Nat.le_of_ble_eq_true rfl⟩ hl rfl (Nat.le_of_ble_eq_true rfl) dX5_stepsToSeeAll_32 ⟨Nat.zero_le _, Nat.zero_le _⟩ ?_
    have q_32_0 := (off_rng (show 0 < n by omega) wp wd (k * wq))
    refine lv_aload_n F.1 F.2.1 dX5_stepsToSeeAll_35 rfl (lv_at hl 4 rfl) ?_
    refine rr_rdV (rest := [vI (ac n wp wd wq wi we k)]) F hK (c_X5_viewFrom l D cy wa wp wd wq wi we r sg n g q (off n wp wd (k * wq)) (by first | assumption | omega | exact ⟨by omega, by omega⟩) (by first | assumption | omega | exact ⟨by omega, by omega⟩) (by first | assumption | omega | exact ⟨by omega, by omega⟩)) hP sf_X5_viewFrom tw702 5 rfl rfl ⟨Nat.le_of_ble_eq_true rfl, Nat.le_of_ble_eq_true rfl⟩ hl rfl (Nat.le_of_ble_eq_true rfl) dX5_stepsToSeeAll_36 ⟨Nat.zero_le _, Nat.zero_le _⟩ ?_
    have q_36_0 := (vw_lt (n := n) (pl := (off n wp wd (k * wq))) (d := wd) (show 0 < n by omega) (show 0 ≤ wi by omega))
    refine rr_ior F (z := ac n wp wd wq wi we (k + 1)) dX5_stepsToSeeAll_39 ⟨ar.1, by omega, ac_s n wp wd wq wi we k0⟩ ?_
    refine lv_istore_n (lv' := [(3, vI (ac n wp wd wq wi we (k + 1))), (4, vI k), (2, vI (p2 n - 1)), (0, .ref wa), (1, .ref r)]) F.1 F.2.1 dX5_stepsToSeeAll_40 rfl hl (by decide) rfl (fun ls hl => ?_)
    refine lv_iload_n F.1 F.2.1 dX5_stepsToSeeAll_41 rfl (lv_at hl 0 rfl) ?_
    refine lv_iload_n F.1 F.2.1 dX5_stepsToSeeAll_42 rfl (lv_at hl 2 rfl) ?_
    refine rr_icmp_ne F (tgt := 49) dX5_stepsToSeeAll_43 (by decide) ⟨by omega, by omega⟩ ⟨by omega, by omega⟩ (fun c_43 => ?_) (fun c_43 => ?_)
    · refine lv_iinc (v := iI (k + 1)) (lv' := [(4, vI (k + 1)), (3, vI (ac n wp wd wq wi we (k + 1))), (2, vI (p2 n - 1)), (0, .ref wa), (1, .ref r)]) F.1 F.2.1 dX5_stepsToSeeAll_49 hl (k := 1) rfl (iinc_ok (by first | rfl | omega)) (by decide) rfl (fun ls hl => ?_)
      refine lv_goto (tgt := 17) F.1 F.2.1 dX5_stepsToSeeAll_52 (by decide) ?_
      exact ih_17 (k + 1) ⟨by omega, by omega, fun j x y => (if hj : j = k then by subst hj; exact c_43 else kq j x (by omega))⟩ (show ((26 - (k + 1)).toNat) < ((26 - k).toNat) by omega) ls (lv_sub hl [0, 1, 2, 3, 4] rfl)
    · refine lv_iload F.1 F.2.1 dX5_stepsToSeeAll_46 (lv_at hl 1 rfl) ?_
      exact rr_iret F hr hlocks dX5_stepsToSeeAll_48 (low_hit k0 (by omega) (by assumption) kq)
set_option maxRecDepth 100000 in
set_option maxHeartbeats 4000000 in
theorem c_X5_knows (l : Launch) (D : va_G) (cy : Nat → ClassId) (wa : Nat) (wp wd wq wi we : Int) (r sg : Nat) (n : Int) (g q : Int → Int) (dv : Int) (hG : RG n g q) (hW : WK n wp wd wq wi we) (hp : 0 ≤ dv ∧ dv < n) : Rd l yX5_knows cX5_knows 5 (some FieldType.boolean) 2 [.ref wa, .ref r, vI dv] D cy [(wa, .inr (5, [vI wp, vI wd, vI wq, vI wi, vI we])), (r, .inr (2, [.ref sg, vI n])), (sg, .inl (cy 0, 24, .inl (iA g)))] (b2i (pB (kn n q dv wd we))) := by
  refine Rd.of RX5 rfl [(0, .ref wa), (1, .ref r), (2, vI dv)] rfl (by decide +kernel) (Nat.le_of_ble_eq_true rfl) ?_
  intro p e s m args below meth c F hr hlocks hK hP ls hl
  have hn0 := hG.1
  have hn1 := hG.2.1
  obtain ⟨v1, v2, v3, v4, v5⟩ := id hW
  have v6 := p2_24 hn0 hn1
  refine lv_aload_n F.1 F.2.1 dX5_knows_0 rfl (lv_at hl 1 rfl) ?_
  refine lv_iload_n F.1 F.2.1 dX5_knows_1 rfl (lv_at hl 2 rfl) ?_
  refine lv_aload_n F.1 F.2.1 dX5_knows_2 rfl (lv_at hl 0 rfl) ?_
  refine gf5_1 F hK hP 0 rfl tw95 dX5_knows_3 ?_
  refine rr_rdV (rest := []) F hK (c_X2_segmentLength l D cy r sg n g q dv wd (by first | assumption | omega | exact ⟨by omega, by omega⟩) (by first | assumption | omega | exact ⟨by omega, by omega⟩) (by first | assumption | omega | exact ⟨by omega, by omega⟩)) (hP.sub [1, 2] rfl) sf_X2_segmentLength tw524 2 rfl rfl ⟨Nat.le_of_ble_eq_true rfl, Nat.le_of_ble_eq_true rfl⟩ hl rfl (Nat.le_of_ble_eq_true rfl) dX5_knows_6 ⟨Nat.zero_le _, Nat.zero_le _⟩ ?_
  have q_6_0 := (seg_rng (n := n) (by omega) q dv wd)
  refine lv_istore_n (lv' := [(3, vI (seg n q dv wd)), (0, .ref wa), (1, .ref r), (2, vI dv)]) F.1 F.2.1 dX5_knows_9 rfl hl (by decide) rfl (fun ls hl => ?_)
  refine lv_iload_n F.1 F.2.1 dX5_knows_10 rfl (lv_at hl 0 rfl) ?_
  refine rr_if_ne F (tgt := 16) dX5_knows_11 (by decide) ⟨by omega, by omega⟩ (fun c_11 => ?_) (fun c_11 => ?_)
  · refine rr_iconst F dX5_knows_16 ?_
    refine lv_istore (lv' := [(4, vI 0), (3, vI (seg n q dv wd)), (0, .ref wa), (1, .ref r), (2, vI dv)]) F.1 F.2.1 dX5_knows_17 hl (by decide) rfl (fun ls hl => ?_)
    refine rr_loop1 (fun k => (0 ≤ k) ∧ (k ≤ seg n q dv wd + 2) ∧ (∀ j, 0 ≤ j → j < k → bit we (off n dv wd j))) (fun k => (30 - k).toNat) (fun k => [(4, vI k), (3, vI (seg n q dv wd)), (0, .ref wa), (1, .ref r), (2, vI dv)]) ?_ 0 ⟨by omega, by omega, fun j x y => by omega⟩ (lv_sub hl [0, 1, 2, 3, 4] rfl)
    intro k hI ih_19 ls hl
    obtain ⟨k0, k1, kq⟩ := hI
    have hl : lv_has ls 5 [(4, vI k), (3, vI (seg n q dv wd)), (0, .ref wa), (1, .ref r), (2, vI dv)] := hl
    refine lv_iload F.1 F.2.1 dX5_knows_19 (lv_at hl 0 rfl) ?_
    refine lv_iload_n F.1 F.2.1 dX5_knows_21 rfl (lv_at hl 1 rfl) ?_
    refine rr_iconst F dX5_knows_22 ?_
    refine rr_iadd F (z := (seg n q dv wd) + 1) dX5_knows_23 (by first | rfl | omega) ?_
    refine rr_icmp_gt F (tgt := 56) dX5_knows_24 (by decide) ⟨by omega, by omega⟩ ⟨by omega, by omega⟩ (fun c_24 => ?_) (fun c_24 => ?_)
    · refine rr_iconst F dX5_knows_56 ?_
      exact rr_zret F hr hlocks (b := true) dX5_knows_57 rfl (b2i_t ⟨by omega, fun j x y => kq j x (by omega)⟩)
    · refine lv_aload_n F.1 F.2.1 dX5_knows_27 rfl (lv_at hl 2 rfl) ?_
      refine gf5_4 F hK hP 0 rfl tw104 dX5_knows_28 ?_
      refine lv_aload_n F.1 F.2.1 dX5_knows_31 rfl (lv_at hl 3 rfl) ?_
      refine lv_iload_n F.1 F.2.1 dX5_knows_32 rfl (lv_at hl 4 rfl) ?_
      refine lv_aload_n F.1 F.2.1 dX5_knows_33 rfl (lv_at hl 2 rfl) ?_
      refine gf5_1 F hK hP 0 rfl tw95 dX5_knows_34 ?_
      refine lv_iload F.1 F.2.1 dX5_knows_37 (lv_at hl 0 rfl) ?_
      refine rr_rdV (rest := [vI we]) F hK (c_X2_onward l D cy r sg n g q dv wd k (by first | assumption | omega | exact ⟨by omega, by omega⟩) (by first | assumption | omega | exact ⟨by omega, by omega⟩) (by first | assumption | omega | exact ⟨by omega, by omega⟩) (by first | assumption | omega | exact ⟨by omega, by omega⟩)) (hP.sub [1, 2] rfl) sf_X2_onward tw525 2 rfl rfl ⟨Nat.le_of_ble_eq_true rfl, Nat.le_of_ble_eq_true rfl⟩ hl rfl (Nat.le_of_ble_eq_true rfl) dX5_knows_39 ⟨Nat.zero_le _, Nat.zero_le _⟩ ?_
      have q_39_0 := (off_rng (n := n) (by omega) dv wd k)
      refine rr_ishr F (z := shr we (off n dv wd k)) dX5_knows_42 ⟨⟨by omega, by omega⟩, by omega, by omega, rfl⟩ ?_
      refine rr_iconst F dX5_knows_43 ?_
      refine rr_ibit F (a := we) (b := (off n dv wd k)) dX5_knows_44 ⟨by omega, by omega⟩ ?_
      refine rr_ifP_ne F (tgt := 50) dX5_knows_45 (by decide) (fun c_45 => ?_) (fun c_45 => ?_)
      · refine lv_iinc (v := iI (k + 1)) (lv' := [(4, vI (k + 1)), (3, vI (seg n q dv wd)), (0, .ref wa), (1, .ref r), (2, vI dv)]) F.1 F.2.1 dX5_knows_50 hl (k := 0) rfl (iinc_ok (by first | rfl | omega)) (by decide) rfl (fun ls hl => ?_)
        refine lv_goto (tgt := 19) F.1 F.2.1 dX5_knows_53 (by decide) ?_
        exact ih_19 (k + 1) ⟨by omega, by omega, fun j x y => (if hj : j = k then by subst hj; exact c_45 else kq j x (by omega))⟩ (show ((30 - (k + 1)).toNat) < ((30 - k).toNat) by omega) ls (lv_sub hl [0, 1, 2, 3, 4] rfl)
      · refine rr_iconst F dX5_knows_48 ?_
        exact rr_zret F hr hlocks (b := false) dX5_knows_49 rfl (b2i_f (fun h => c_45 (h.2 k k0 (by omega))))
  · refine rr_iconst F dX5_knows_14 ?_
    exact rr_zret F hr hlocks (b := false) dX5_knows_15 rfl (b2i_f (fun h => by have := h.1; omega))
