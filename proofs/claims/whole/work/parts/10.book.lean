set_option maxRecDepth 100000 in
set_option maxHeartbeats 4000000 in
theorem c_X0_isFull (l : Launch) (D : va_G) (cy : Nat → ClassId) (bk la na : Nat) (nw : Int) (lt ln : Int → Int) (bl : Int → Int) (bc : Int → Int → Int) (hB : BK nw lt ln bl bc) : Rd l yX0_isFull cX0_isFull 1 (some FieldType.boolean) 0 [.ref bk] D cy [(bk, .inr (0, [.ref la, .ref na, vI nw])), (la, .inl (cy 0, 60, .inl (iA lt))), (na, .inl (cy 1, 10, .inl (iA ln)))] (b2i (pB (10 ≤ nw))) := by
  refine Rd.of RX0 rfl [(0, .ref bk)] rfl (by decide +kernel) (Nat.le_of_ble_eq_true rfl) ?_
  intro p e s m args below meth c F hr hlocks hK hP ls hl
  have hw0 := hB.1
  have hw1 := hB.2.1
  refine lv_aload_n F.1 F.2.1 dX0_isFull_0 rfl (lv_at hl 0 rfl) ?_
  refine gf0_2 F hK hP 0 rfl tw75 dX0_isFull_1 ?_
  refine rr_bipush F dX0_isFull_4 (by decide) ?_
  refine rr_icmp_lt F (tgt := 13) dX0_isFull_6 (by decide) ⟨by omega, by omega⟩ ⟨by omega, by omega⟩ (fun c_6 => ?_) (fun c_6 => ?_)
  · refine rr_iconst F dX0_isFull_13 ?_
    exact rr_zret F hr hlocks (b := false) dX0_isFull_14 rfl (b2i_f (by omega))
  · refine rr_iconst F dX0_isFull_9 ?_
    refine lv_goto (tgt := 14) F.1 F.2.1 dX0_isFull_10 (by decide) ?_
    exact rr_zret F hr hlocks (b := true) dX0_isFull_14 rfl (b2i_t (by omega))
set_option maxRecDepth 100000 in
set_option maxHeartbeats 4000000 in
theorem c_X0_hasWord (l : Launch) (D : va_G) (cy : Nat → ClassId) (bk la na : Nat) (nw : Int) (lt ln : Int → Int) (bl : Int → Int) (bc : Int → Int → Int) (w : Int) (hB : BK nw lt ln bl bc) (hi : inR w) : Rd l yX0_hasWord cX0_hasWord 2 (some FieldType.boolean) 0 [.ref bk, vI w] D cy [(bk, .inr (0, [.ref la, .ref na, vI nw])), (la, .inl (cy 0, 60, .inl (iA lt))), (na, .inl (cy 1, 10, .inl (iA ln)))] (b2i (pB (0 ≤ w ∧ w < nw))) := by
  refine Rd.of RX0 rfl [(0, .ref bk), (1, vI w)] rfl (by decide +kernel) (Nat.le_of_ble_eq_true rfl) ?_
  intro p e s m args below meth c F hr hlocks hK hP ls hl
  have hw0 := hB.1
  have hw1 := hB.2.1
  refine lv_iload_n F.1 F.2.1 dX0_hasWord_0 rfl (lv_at hl 1 rfl) ?_
  refine rr_if_lt F (tgt := 16) dX0_hasWord_1 (by decide) hi (fun c_1 => ?_) (fun c_1 => ?_)
  · refine rr_iconst F dX0_hasWord_16 ?_
    exact rr_zret F hr hlocks (b := false) dX0_hasWord_17 rfl (b2i_f (by omega))
  · refine lv_iload_n F.1 F.2.1 dX0_hasWord_4 rfl (lv_at hl 1 rfl) ?_
    refine lv_aload_n F.1 F.2.1 dX0_hasWord_5 rfl (lv_at hl 0 rfl) ?_
    refine gf0_2 F hK hP 0 rfl tw75 dX0_hasWord_6 ?_
    refine rr_icmp_ge F (tgt := 16) dX0_hasWord_9 (by decide) hi ⟨by omega, by omega⟩ (fun c_9 => ?_) (fun c_9 => ?_)
    · refine rr_iconst F dX0_hasWord_16 ?_
      exact rr_zret F hr hlocks (b := false) dX0_hasWord_17 rfl (b2i_f (by omega))
    · refine rr_iconst F dX0_hasWord_12 ?_
      refine lv_goto (tgt := 17) F.1 F.2.1 dX0_hasWord_13 (by decide) ?_
      exact rr_zret F hr hlocks (b := true) dX0_hasWord_17 rfl (b2i_t (by omega))
set_option maxRecDepth 100000 in
set_option maxHeartbeats 4000000 in
theorem c_X0_lengthOf (l : Launch) (D : va_G) (cy : Nat → ClassId) (bk la na : Nat) (nw : Int) (lt ln : Int → Int) (bl : Int → Int) (bc : Int → Int → Int) (w : Int) (hB : BK nw lt ln bl bc) (h0 : 0 ≤ w) (h1 : w < nw) : Rd l yX0_lengthOf cX0_lengthOf 2 (some FieldType.int) 0 [.ref bk, vI w] D cy [(bk, .inr (0, [.ref la, .ref na, vI nw])), (la, .inl (cy 0, 60, .inl (iA lt))), (na, .inl (cy 1, 10, .inl (iA ln)))] (bl w) := by
  refine Rd.of RX0 rfl [(0, .ref bk), (1, vI w)] rfl (by decide +kernel) (Nat.le_of_ble_eq_true rfl) ?_
  intro p e s m args below meth c F hr hlocks hK hP ls hl
  have hw0 := hB.1
  have hw1 := hB.2.1
  have hi := hB.at h0 h1
  refine lv_iload_n F.1 F.2.1 dX0_lengthOf_0 rfl (lv_at hl 1 rfl) ?_
  refine rr_if_lt F (tgt := 21) dX0_lengthOf_1 (by decide) ⟨by omega, by omega⟩ (fun c_1 => ?_) (fun c_1 => ?_)
  · exfalso; omega
  · refine lv_iload_n F.1 F.2.1 dX0_lengthOf_4 rfl (lv_at hl 1 rfl) ?_
    refine lv_aload_n F.1 F.2.1 dX0_lengthOf_5 rfl (lv_at hl 0 rfl) ?_
    refine gf0_2 F hK hP 0 rfl tw75 dX0_lengthOf_6 ?_
    refine rr_icmp_ge F (tgt := 21) dX0_lengthOf_9 (by decide) ⟨by omega, by omega⟩ ⟨by omega, by omega⟩ (fun c_9 => ?_) (fun c_9 => ?_)
    · exfalso; omega
    · refine lv_aload_n F.1 F.2.1 dX0_lengthOf_12 rfl (lv_at hl 0 rfl) ?_
      refine gf0_1 F hK hP 0 rfl tw74 dX0_lengthOf_13 ?_
      refine lv_iload_n F.1 F.2.1 dX0_lengthOf_16 rfl (lv_at hl 1 rfl) ?_
      refine rr_iald F hK hP 2 rfl (by omega) (by omega) (by decide) dX0_lengthOf_17 ?_
      refine lv_goto (tgt := 22) F.1 F.2.1 dX0_lengthOf_18 (by decide) ?_
      exact rr_iret F hr hlocks dX0_lengthOf_22 (hi.1)
set_option maxRecDepth 100000 in
set_option maxHeartbeats 4000000 in
theorem c_X0_letterOf (l : Launch) (D : va_G) (cy : Nat → ClassId) (bk la na : Nat) (nw : Int) (lt ln : Int → Int) (bl : Int → Int) (bc : Int → Int → Int) (w i : Int) (hB : BK nw lt ln bl bc) (h0 : 0 ≤ w) (h1 : w < nw) (h2 : 0 ≤ i) (h3 : i < bl w) : Rd l yX0_letterOf cX0_letterOf 3 (some FieldType.char) 0 [.ref bk, vI w, vI i] D cy [(bk, .inr (0, [.ref la, .ref na, vI nw])), (la, .inl (cy 0, 60, .inl (iA lt))), (na, .inl (cy 1, 10, .inl (iA ln)))] (96 + bc w i) := by
  refine Rd.of RX0 rfl [(0, .ref bk), (1, vI w), (2, vI i)] rfl (by decide +kernel) (Nat.le_of_ble_eq_true rfl) ?_
  intro p e s m args below meth c F hr hlocks hK hP ls hl
  have hw0 := hB.1
  have hw1 := hB.2.1
  have hi := hB.at h0 h1
  have hj := hi.2.2 i h2 h3
  refine lv_iload_n F.1 F.2.1 dX0_letterOf_0 rfl (lv_at hl 1 rfl) ?_
  refine rr_if_lt F (tgt := 26) dX0_letterOf_1 (by decide) ⟨by omega, by omega⟩ (fun c_1 => ?_) (fun c_1 => ?_)
  · exfalso; omega
  · refine lv_iload_n F.1 F.2.1 dX0_letterOf_4 rfl (lv_at hl 1 rfl) ?_
    refine lv_aload_n F.1 F.2.1 dX0_letterOf_5 rfl (lv_at hl 0 rfl) ?_
    refine gf0_2 F hK hP 0 rfl tw75 dX0_letterOf_6 ?_
    refine rr_icmp_ge F (tgt := 26) dX0_letterOf_9 (by decide) ⟨by omega, by omega⟩ ⟨by omega, by omega⟩ (fun c_9 => ?_) (fun c_9 => ?_)
    · exfalso; omega
    · refine lv_iload_n F.1 F.2.1 dX0_letterOf_12 rfl (lv_at hl 2 rfl) ?_
      refine rr_if_lt F (tgt := 26) dX0_letterOf_13 (by decide) ⟨by omega, by omega⟩ (fun c_13 => ?_) (fun c_13 => ?_)
      · exfalso; omega
      · refine lv_iload_n F.1 F.2.1 dX0_letterOf_16 rfl (lv_at hl 2 rfl) ?_
        refine lv_aload_n F.1 F.2.1 dX0_letterOf_17 rfl (lv_at hl 0 rfl) ?_
        refine gf0_1 F hK hP 0 rfl tw74 dX0_letterOf_18 ?_
        refine lv_iload_n F.1 F.2.1 dX0_letterOf_21 rfl (lv_at hl 1 rfl) ?_
        refine rr_iald F hK hP 2 rfl (by omega) (by omega) (by decide) dX0_letterOf_22 ?_
        refine rr_icmp_lt F (tgt := 29) dX0_letterOf_23 (by decide) ⟨by omega, by omega⟩ ⟨by omega, by omega⟩ (fun c_23 => ?_) (fun c_23 => ?_)
        · refine lv_aload_n F.1 F.2.1 dX0_letterOf_29 rfl (lv_at hl 0 rfl) ?_
          refine gf0_0 F hK hP 0 rfl tw73 dX0_letterOf_30 ?_
          refine lv_iload_n F.1 F.2.1 dX0_letterOf_33 rfl (lv_at hl 1 rfl) ?_
          refine rr_bipush F dX0_letterOf_34 (by decide) ?_
          refine rr_imul F (z := w * 6) dX0_letterOf_36 (by first | rfl | omega) ?_
          refine lv_iload_n F.1 F.2.1 dX0_letterOf_37 rfl (lv_at hl 2 rfl) ?_
          refine rr_iadd F (z := (w * 6) + i) dX0_letterOf_38 (by first | rfl | omega) ?_
          refine rr_cald F hK hP 1 rfl (by omega) (by omega) (by decide) dX0_letterOf_39 ?_
          exact rr_cret F hr hlocks dX0_letterOf_40 ⟨by omega, by omega⟩ (hj.1)
        · exfalso; omega
set_option maxRecDepth 100000 in
set_option maxHeartbeats 4000000 in
theorem c_X0_standsFrom (l : Launch) (D : va_G) (cy : Nat → ClassId) (bk la na : Nat) (nw : Int) (lt ln : Int → Int) (bl : Int → Int) (bc : Int → Int → Int) (r sg : Nat) (n : Int) (g q : Int → Int) (w pl d : Int) (hB : BK nw lt ln bl bc) (hG : RG n g q) (h0 : 0 ≤ w) (h1 : w < nw) (hp : 0 ≤ pl ∧ pl < n) (hd : 0 ≤ d ∧ d ≤ 1) : Rd l yX0_standsFrom cX0_standsFrom 8 (some FieldType.boolean) 1 [.ref bk, vI w, .ref r, vI pl, vI d] D cy [(bk, .inr (0, [.ref la, .ref na, vI nw])), (la, .inl (cy 0, 60, .inl (iA lt))), (na, .inl (cy 1, 10, .inl (iA ln))), (r, .inr (2, [.ref sg, vI n])), (sg, .inl (cy 0, 24, .inl (iA g)))] (b2i (pB (bl w ≤ n ∧ stn n q (bl w) (bc w) pl d))) := by
  refine Rd.of RX0 rfl [(0, .ref bk), (1, vI w), (2, .ref r), (3, vI pl), (4, vI d)] rfl (by decide +kernel) (Nat.le_of_ble_eq_true rfl) ?_
  intro p e s m args below meth c F hr hlocks hK hP ls hl
  have hw0 := hB.1
  have hw1 := hB.2.1
  have hn0 := hG.1
  have hn1 := hG.2.1
  have hi := hB.at h0 h1
  refine lv_aload_n F.1 F.2.1 dX0_standsFrom_0 rfl (lv_at hl 0 rfl) ?_
  refine lv_iload_n F.1 F.2.1 dX0_standsFrom_1 rfl (lv_at hl 1 rfl) ?_
  refine rr_rdV (rest := []) F hK (c_X0_lengthOf l D cy bk la na nw lt ln bl bc w (by first | assumption | omega | exact ⟨by omega, by omega⟩) (by first | assumption | omega | exact ⟨by omega, by omega⟩) (by first | assumption | omega | exact ⟨by omega, by omega⟩)) (hP.sub [0, 1, 2] rfl) sf_X0_lengthOf tw215 0 rfl rfl ⟨Nat.le_of_ble_eq_true rfl, Nat.le_of_ble_eq_true rfl⟩ hl rfl (Nat.le_of_ble_eq_true rfl) dX0_standsFrom_2 ⟨Nat.zero_le _, Nat.zero_le _⟩ ?_
  have q_2_0 := (hB.at (show 0 ≤ w by first | assumption | omega) (by first | assumption | omega))
  refine lv_istore (lv' := [(5, vI (bl w)), (0, .ref bk), (1, vI w), (2, .ref r), (3, vI pl), (4, vI d)]) F.1 F.2.1 dX0_standsFrom_5 hl (by decide) rfl (fun ls hl => ?_)
  refine lv_iload F.1 F.2.1 dX0_standsFrom_7 (lv_at hl 0 rfl) ?_
  refine lv_aload_n F.1 F.2.1 dX0_standsFrom_9 rfl (lv_at hl 3 rfl) ?_
  refine gf2_1N F hK hP 3 rfl tn61 dX0_standsFrom_10 ?_
  refine rr_icmp_le F (tgt := 18) dX0_standsFrom_13 (by decide) ⟨by omega, by omega⟩ ⟨by omega, by omega⟩ (fun c_13 => ?_) (fun c_13 => ?_)
  · refine rr_iconst F dX0_standsFrom_18 ?_
    refine lv_istore (lv' := [(6, vI 0), (5, vI (bl w)), (0, .ref bk), (1, vI w), (2, .ref r), (3, vI pl), (4, vI d)]) F.1 F.2.1 dX0_standsFrom_19 hl (by decide) rfl (fun ls hl => ?_)
    refine rr_loop1 (fun k => (0 ≤ k) ∧ (k ≤ bl w) ∧ (∀ j, 0 ≤ j → j < k → q (off n pl d j) = 9 ∨ q (off n pl d j) = bc w j)) (fun k => (7 - k).toNat) (fun k => [(6, vI k), (5, vI (bl w)), (0, .ref bk), (1, vI w), (2, .ref r), (3, vI pl), (4, vI d)]) ?_ 0 ⟨by omega, by omega, fun j x y => by omega⟩ (lv_sub hl [0, 1, 2, 3, 4, 5, 6] rfl)
    intro k hI ih_21 ls hl
    obtain ⟨k0, k1, kq⟩ := hI
    have hl : lv_has ls 8 [(6, vI k), (5, vI (bl w)), (0, .ref bk), (1, vI w), (2, .ref r), (3, vI pl), (4, vI d)] := hl
    refine lv_iload F.1 F.2.1 dX0_standsFrom_21 (lv_at hl 0 rfl) ?_
    refine lv_iload F.1 F.2.1 dX0_standsFrom_23 (lv_at hl 1 rfl) ?_
    refine rr_icmp_ge F (tgt := 70) dX0_standsFrom_25 (by decide) ⟨by omega, by omega⟩ ⟨by omega, by omega⟩ (fun c_25 => ?_) (fun c_25 => ?_)
    · refine rr_iconst F dX0_standsFrom_70 ?_
      exact rr_zret F hr hlocks (b := true) dX0_standsFrom_71 rfl (b2i_t ⟨by omega, fun j x y => kq j x (by omega)⟩)
    · refine lv_aload_n F.1 F.2.1 dX0_standsFrom_28 rfl (lv_at hl 4 rfl) ?_
      refine lv_aload_n F.1 F.2.1 dX0_standsFrom_29 rfl (lv_at hl 4 rfl) ?_
      refine lv_iload_n F.1 F.2.1 dX0_standsFrom_30 rfl (lv_at hl 5 rfl) ?_
      refine lv_iload F.1 F.2.1 dX0_standsFrom_31 (lv_at hl 6 rfl) ?_
      refine lv_iload F.1 F.2.1 dX0_standsFrom_33 (lv_at hl 0 rfl) ?_
      refine rr_rdV (rest := [.ref r]) F hK (c_X2_onward l D cy r sg n g q pl d k (by first | assumption | omega | exact ⟨by omega, by omega⟩) (by first | assumption | omega | exact ⟨by omega, by omega⟩) (by first | assumption | omega | exact ⟨by omega, by omega⟩) (by first | assumption | omega | exact ⟨by omega, by omega⟩)) (hP.sub [3, 4] rfl) sf_X2_onward tw234 2 rfl rfl ⟨Nat.le_of_ble_eq_true rfl, Nat.le_of_ble_eq_true rfl⟩ hl rfl (Nat.le_of_ble_eq_true rfl) dX0_standsFrom_35 ⟨Nat.zero_le _, Nat.zero_le _⟩ ?_
      have q_35_0 := (off_rng (n := n) (by omega) pl d k)
      refine rr_rdV (rest := []) F hK (c_X2_signAt l D cy r sg n g q (off n pl d k) (by first | assumption | omega | exact ⟨by omega, by omega⟩) (by first | assumption | omega | exact ⟨by omega, by omega⟩) (by first | assumption | omega | exact ⟨by omega, by omega⟩)) (hP.sub [3, 4] rfl) sf_X2_signAt tw239 2 rfl rfl ⟨Nat.le_of_ble_eq_true rfl, Nat.le_of_ble_eq_true rfl⟩ hl rfl (Nat.le_of_ble_eq_true rfl) dX0_standsFrom_38 ⟨Nat.zero_le _, Nat.zero_le _⟩ ?_
      have q_38_0 := (RG.at hG (j := (off n pl d k)) (by first | assumption | omega) (by first | assumption | omega))
      refine lv_istore (lv' := [(7, vI (sc (q (off n pl d k)))), (6, vI k), (5, vI (bl w)), (0, .ref bk), (1, vI w), (2, .ref r), (3, vI pl), (4, vI d)]) F.1 F.2.1 dX0_standsFrom_41 hl (by decide) rfl (fun ls hl => ?_)
      refine lv_iload F.1 F.2.1 dX0_standsFrom_43 (lv_at hl 0 rfl) ?_
      refine rr_bipush F dX0_standsFrom_45 (by decide) ?_
      have oo := off_rng (n := n) (by omega) pl d k
      have io := hG.at oo.1 oo.2
      have s9 := sc_9 io.2.1
      refine rr_icmp_eq F (tgt := 64) dX0_standsFrom_47 (by decide) ⟨by omega, by omega⟩ ⟨by omega, by omega⟩ (fun c_47 => ?_) (fun c_47 => ?_)
      · refine lv_iinc (v := iI (k + 1)) (lv' := [(6, vI (k + 1)), (7, vI (sc (q (off n pl d k)))), (5, vI (bl w)), (0, .ref bk), (1, vI w), (2, .ref r), (3, vI pl), (4, vI d)]) F.1 F.2.1 dX0_standsFrom_64 hl (k := 1) rfl (iinc_ok (by first | rfl | omega)) (by decide) rfl (fun ls hl => ?_)
        refine lv_goto (tgt := 21) F.1 F.2.1 dX0_standsFrom_67 (by decide) ?_
        exact ih_21 (k + 1) ⟨by omega, by omega, fun j x y => (if hj : j = k then by subst hj; first | exact Or.inl (s9.mp (by omega)) | exact Or.inr ((sc_inj io.2.1 ⟨by omega, by omega⟩).mp (by rw [sl]; omega)) else kq j x (by omega))⟩ (show ((7 - (k + 1)).toNat) < ((7 - k).toNat) by omega) ls (lv_sub hl [0, 2, 3, 4, 5, 6, 7] rfl)
      · refine lv_iload F.1 F.2.1 dX0_standsFrom_50 (lv_at hl 0 rfl) ?_
        refine lv_aload_n F.1 F.2.1 dX0_standsFrom_52 rfl (lv_at hl 3 rfl) ?_
        refine lv_iload_n F.1 F.2.1 dX0_standsFrom_53 rfl (lv_at hl 4 rfl) ?_
        refine lv_iload F.1 F.2.1 dX0_standsFrom_54 (lv_at hl 1 rfl) ?_
        refine rr_rdV (rest := [vI (sc (q (off n pl d k)))]) F hK (c_X0_letterOf l D cy bk la na nw lt ln bl bc w k (by first | assumption | omega | exact ⟨by omega, by omega⟩) (by first | assumption | omega | exact ⟨by omega, by omega⟩) (by first | assumption | omega | exact ⟨by omega, by omega⟩) (by first | assumption | omega | exact ⟨by omega, by omega⟩) (by first | assumption | omega | exact ⟨by omega, by omega⟩)) (hP.sub [0, 1, 2] rfl) sf_X0_letterOf tw243 0 rfl rfl ⟨Nat.le_of_ble_eq_true rfl, Nat.le_of_ble_eq_true rfl⟩ hl rfl (Nat.le_of_ble_eq_true rfl) dX0_standsFrom_56 ⟨Nat.zero_le _, Nat.zero_le _⟩ ?_
        have q_56_0 := ((hB.at (show 0 ≤ w by first | assumption | omega) (by first | assumption | omega)).2.2 k (by first | assumption | omega) (by first | assumption | omega))
        have sl : sc (bc w k) = 96 + bc w k := by unfold sc; rw [if_neg (by omega), if_neg (by omega)]
        refine rr_icmp_eq F (tgt := 64) dX0_standsFrom_59 (by decide) ⟨by omega, by omega⟩ ⟨by omega, by omega⟩ (fun c_59 => ?_) (fun c_59 => ?_)
        · refine lv_iinc (v := iI (k + 1)) (lv' := [(6, vI (k + 1)), (7, vI (sc (q (off n pl d k)))), (5, vI (bl w)), (0, .ref bk), (1, vI w), (2, .ref r), (3, vI pl), (4, vI d)]) F.1 F.2.1 dX0_standsFrom_64 hl (k := 1) rfl (iinc_ok (by first | rfl | omega)) (by decide) rfl (fun ls hl => ?_)
          refine lv_goto (tgt := 21) F.1 F.2.1 dX0_standsFrom_67 (by decide) ?_
          exact ih_21 (k + 1) ⟨by omega, by omega, fun j x y => (if hj : j = k then by subst hj; first | exact Or.inl (s9.mp (by omega)) | exact Or.inr ((sc_inj io.2.1 ⟨by omega, by omega⟩).mp (by rw [sl]; omega)) else kq j x (by omega))⟩ (show ((7 - (k + 1)).toNat) < ((7 - k).toNat) by omega) ls (lv_sub hl [0, 2, 3, 4, 5, 6, 7] rfl)
        · refine rr_iconst F dX0_standsFrom_62 ?_
          exact rr_zret F hr hlocks (b := false) dX0_standsFrom_63 rfl (b2i_f (fun h => (h.2 k k0 (by omega)).elim (fun h => c_47 (s9.mpr h)) (fun h => c_59 (by rw [h, sl]))))
  · refine rr_iconst F dX0_standsFrom_16 ?_
    exact rr_zret F hr hlocks (b := false) dX0_standsFrom_17 rfl (b2i_f (fun h => by omega))
set_option maxRecDepth 100000 in
set_option maxHeartbeats 4000000 in
theorem c_X0_placeOf (l : Launch) (D : va_G) (cy : Nat → ClassId) (bk la na : Nat) (nw : Int) (lt ln : Int → Int) (bl : Int → Int) (bc : Int → Int → Int) (r sg : Nat) (n : Int) (g q : Int → Int) (w d kk : Int) (hB : BK nw lt ln bl bc) (hG : RG n g q) (h0 : 0 ≤ w) (h1 : w < nw) (hd : 0 ≤ d ∧ d ≤ 1) (hk : inR kk) : Rd l yX0_placeOf cX0_placeOf 7 (some FieldType.int) 2 [.ref bk, vI w, .ref r, vI d, vI kk] D cy [(bk, .inr (0, [.ref la, .ref na, vI nw])), (la, .inl (cy 0, 60, .inl (iA lt))), (na, .inl (cy 1, 10, .inl (iA ln))), (r, .inr (2, [.ref sg, vI n])), (sg, .inl (cy 0, 24, .inl (iA g)))] (kpl (fun j => bl w ≤ n ∧ stn n q (bl w) (bc w) j d) kk n) := by
  refine Rd.of RX0 rfl [(0, .ref bk), (1, vI w), (2, .ref r), (3, vI d), (4, vI kk)] rfl (by decide +kernel) (Nat.le_of_ble_eq_true rfl) ?_
  intro p e s m args below meth c F hr hlocks hK hP ls hl
  have hw0 := hB.1
  have hw1 := hB.2.1
  have hn0 := hG.1
  have hn1 := hG.2.1
  refine rr_iconst F dX0_placeOf_0 ?_
  refine lv_istore (lv' := [(5, vI 0), (0, .ref bk), (1, vI w), (2, .ref r), (3, vI d), (4, vI kk)]) F.1 F.2.1 dX0_placeOf_1 hl (by decide) rfl (fun ls hl => ?_)
  refine rr_iconst F dX0_placeOf_3 ?_
  refine lv_istore (lv' := [(6, vI 0), (5, vI 0), (0, .ref bk), (1, vI w), (2, .ref r), (3, vI d), (4, vI kk)]) F.1 F.2.1 dX0_placeOf_4 hl (by decide) rfl (fun ls hl => ?_)
  refine rr_loop1 (fun k => (0 ≤ k) ∧ (k ≤ n) ∧ (∀ j, 0 ≤ j → j < k → ¬ ((bl w ≤ n ∧ stn n q (bl w) (bc w) j d) ∧ cnt (fun j => bl w ≤ n ∧ stn n q (bl w) (bc w) j d) j = kk))) (fun k => (n - k).toNat) (fun k => [(6, vI k), (5, vI (cnt (fun j => bl w ≤ n ∧ stn n q (bl w) (bc w) j d) k)), (0, .ref bk), (1, vI w), (2, .ref r), (3, vI d), (4, vI kk)]) ?_ 0 ⟨by omega, by omega, fun j x y => by omega⟩ (lv_sub hl [0, 1, 2, 3, 4, 5, 6] rfl)
  intro k hI ih_6 ls hl
  obtain ⟨k0, k1, kq⟩ := hI
  have hl : lv_has ls 7 [(6, vI k), (5, vI (cnt (fun j => bl w ≤ n ∧ stn n q (bl w) (bc w) j d) k)), (0, .ref bk), (1, vI w), (2, .ref r), (3, vI d), (4, vI kk)] := hl
  have cr := cnt_rng (fun j => bl w ≤ n ∧ stn n q (bl w) (bc w) j d) k0
  refine lv_iload F.1 F.2.1 dX0_placeOf_6 (lv_at hl 0 rfl) ?_
  refine lv_aload_n F.1 F.2.1 dX0_placeOf_8 rfl (lv_at hl 4 rfl) ?_
  refine gf2_1N F hK hP 3 rfl tn61 dX0_placeOf_9 ?_
  refine rr_icmp_ge F (tgt := 46) dX0_placeOf_12 (by decide) ⟨by omega, by omega⟩ ⟨by omega, by omega⟩ (fun c_12 => ?_) (fun c_12 => ?_)
  · refine rr_iconst F dX0_placeOf_46 ?_
    exact rr_iret F hr hlocks dX0_placeOf_47 (kpl_miss hn0 (fun j x y => kq j x (by omega)))
  · refine lv_aload_n F.1 F.2.1 dX0_placeOf_15 rfl (lv_at hl 2 rfl) ?_
    refine lv_iload_n F.1 F.2.1 dX0_placeOf_16 rfl (lv_at hl 3 rfl) ?_
    refine lv_aload_n F.1 F.2.1 dX0_placeOf_17 rfl (lv_at hl 4 rfl) ?_
    refine lv_iload F.1 F.2.1 dX0_placeOf_18 (lv_at hl 0 rfl) ?_
    refine lv_iload_n F.1 F.2.1 dX0_placeOf_20 rfl (lv_at hl 5 rfl) ?_
    refine rr_rdV (rest := []) F hK (c_X0_standsFrom l D cy bk la na nw lt ln bl bc r sg n g q w k d (by first | assumption | omega | exact ⟨by omega, by omega⟩) (by first | assumption | omega | exact ⟨by omega, by omega⟩) (by first | assumption | omega | exact ⟨by omega, by omega⟩) (by first | assumption | omega | exact ⟨by omega, by omega⟩) (by first | assumption | omega | exact ⟨by omega, by omega⟩) (by first | assumption | omega | exact ⟨by omega, by omega⟩)) hP sf_X0_standsFrom tw235 0 rfl rfl ⟨Nat.le_of_ble_eq_true rfl, Nat.le_of_ble_eq_true rfl⟩ hl rfl (Nat.le_of_ble_eq_true rfl) dX0_placeOf_21 ⟨Nat.zero_le _, Nat.zero_le _⟩ ?_
    refine rr_ifP_eq F (tgt := 40) dX0_placeOf_24 (by decide) (fun c_24 => ?_) (fun c_24 => ?_)
    · refine lv_iinc (v := iI (k + 1)) (lv' := [(6, vI (k + 1)), (5, vI (cnt (fun j => bl w ≤ n ∧ stn n q (bl w) (bc w) j d) k)), (0, .ref bk), (1, vI w), (2, .ref r), (3, vI d), (4, vI kk)]) F.1 F.2.1 dX0_placeOf_40 hl (k := 0) rfl (iinc_ok (by first | rfl | omega)) (by decide) rfl (fun ls hl => ?_)
      refine lv_goto (tgt := 6) F.1 F.2.1 dX0_placeOf_43 (by decide) ?_
      exact ih_6 (k + 1) ⟨by omega, by omega, fun j x y => (if hj : j = k then by subst hj; intro h; first | exact c_31 h.2 | exact c_24 h.1 else kq j x (by omega))⟩ (show ((n - (k + 1)).toNat) < ((n - k).toNat) by omega) ls (lv_cv (lv_sub hl [0, 1, 2, 3, 4, 5, 6] rfl) (by rw [← show (cnt (fun j => bl w ≤ n ∧ stn n q (bl w) (bc w) j d) k : Int) = cnt (fun u_j => bl w ≤ n ∧ stn n q (bl w) (bc w) u_j d) (k + 1) from by first | exact cnt_n (P := fun j => bl w ≤ n ∧ stn n q (bl w) (bc w) j d) k0 (by assumption) | exact cnt_y (P := fun j => bl w ≤ n ∧ stn n q (bl w) (bc w) j d) k0 (by assumption)]; rfl))
    · refine lv_iload F.1 F.2.1 dX0_placeOf_27 (lv_at hl 1 rfl) ?_
      refine lv_iload F.1 F.2.1 dX0_placeOf_29 (lv_at hl 6 rfl) ?_
      refine rr_icmp_ne F (tgt := 37) dX0_placeOf_31 (by decide) ⟨by omega, by omega⟩ hk (fun c_31 => ?_) (fun c_31 => ?_)
      · refine lv_iinc (v := iI ((cnt (fun j => bl w ≤ n ∧ stn n q (bl w) (bc w) j d) k) + 1)) (lv' := [(5, vI ((cnt (fun j => bl w ≤ n ∧ stn n q (bl w) (bc w) j d) k) + 1)), (6, vI k), (0, .ref bk), (1, vI w), (2, .ref r), (3, vI d), (4, vI kk)]) F.1 F.2.1 dX0_placeOf_37 hl (k := 1) rfl (iinc_ok (by first | rfl | omega)) (by decide) rfl (fun ls hl => ?_)
        refine lv_iinc (v := iI (k + 1)) (lv' := [(6, vI (k + 1)), (5, vI ((cnt (fun j => bl w ≤ n ∧ stn n q (bl w) (bc w) j d) k) + 1)), (0, .ref bk), (1, vI w), (2, .ref r), (3, vI d), (4, vI kk)]) F.1 F.2.1 dX0_placeOf_40 hl (k := 1) rfl (iinc_ok (by first | rfl | omega)) (by decide) rfl (fun ls hl => ?_)
        refine lv_goto (tgt := 6) F.1 F.2.1 dX0_placeOf_43 (by decide) ?_
        exact ih_6 (k + 1) ⟨by omega, by omega, fun j x y => (if hj : j = k then by subst hj; intro h; first | exact c_31 h.2 | exact c_24 h.1 else kq j x (by omega))⟩ (show ((n - (k + 1)).toNat) < ((n - k).toNat) by omega) ls (lv_cv (lv_sub hl [0, 1, 2, 3, 4, 5, 6] rfl) (by rw [← show ((cnt (fun j => bl w ≤ n ∧ stn n q (bl w) (bc w) j d) k) + 1 : Int) = cnt (fun u_j => bl w ≤ n ∧ stn n q (bl w) (bc w) u_j d) (k + 1) from by first | exact cnt_n (P := fun j => bl w ≤ n ∧ stn n q (bl w) (bc w) j d) k0 (by assumption) | exact cnt_y (P := fun j => bl w ≤ n ∧ stn n q (bl w) (bc w) j d) k0 (by assumption)]; rfl))
      · refine lv_iload F.1 F.2.1 dX0_placeOf_34 (lv_at hl 0 rfl) ?_
        exact rr_iret F hr hlocks dX0_placeOf_36 (kpl_hit k0 (by omega) (by assumption) (by assumption) kq)
set_option maxRecDepth 100000 in
set_option maxHeartbeats 4000000 in
theorem c_X0_fits (l : Launch) (D : va_G) (cy : Nat → ClassId) (bk la na : Nat) (nw : Int) (lt ln : Int → Int) (bl : Int → Int) (bc : Int → Int → Int) (r sg : Nat) (n : Int) (g q : Int → Int) (w dv d : Int) (hB : BK nw lt ln bl bc) (hG : RG n g q) (h0 : 0 ≤ w) (h1 : w < nw) (hp : 0 ≤ dv ∧ dv < n) (hd : 0 ≤ d ∧ d ≤ 1) : Rd l yX0_fits cX0_fits 5 (some FieldType.boolean) 2 [.ref bk, vI w, .ref r, vI dv, vI d] D cy [(bk, .inr (0, [.ref la, .ref na, vI nw])), (la, .inl (cy 0, 60, .inl (iA lt))), (na, .inl (cy 1, 10, .inl (iA ln))), (r, .inr (2, [.ref sg, vI n])), (sg, .inl (cy 0, 24, .inl (iA g)))] (b2i (pB (ft n q (bl w) (bc w) dv d))) := by
  refine Rd.of RX0 rfl [(0, .ref bk), (1, vI w), (2, .ref r), (3, vI dv), (4, vI d)] rfl (by decide +kernel) (Nat.le_of_ble_eq_true rfl) ?_
  intro p e s m args below meth c F hr hlocks hK hP ls hl
  have hw0 := hB.1
  have hw1 := hB.2.1
  have hn0 := hG.1
  have hn1 := hG.2.1
  have hi := hB.at h0 h1
  refine lv_aload_n F.1 F.2.1 dX0_fits_0 rfl (lv_at hl 0 rfl) ?_
  refine lv_iload_n F.1 F.2.1 dX0_fits_1 rfl (lv_at hl 1 rfl) ?_
  refine rr_rdV (rest := []) F hK (c_X0_lengthOf l D cy bk la na nw lt ln bl bc w (by first | assumption | omega | exact ⟨by omega, by omega⟩) (by first | assumption | omega | exact ⟨by omega, by omega⟩) (by first | assumption | omega | exact ⟨by omega, by omega⟩)) (hP.sub [0, 1, 2] rfl) sf_X0_lengthOf tw215 0 rfl rfl ⟨Nat.le_of_ble_eq_true rfl, Nat.le_of_ble_eq_true rfl⟩ hl rfl (Nat.le_of_ble_eq_true rfl) dX0_fits_2 ⟨Nat.zero_le _, Nat.zero_le _⟩ ?_
  have q_2_0 := (hB.at (show 0 ≤ w by first | assumption | omega) (by first | assumption | omega))
  refine lv_aload_n F.1 F.2.1 dX0_fits_5 rfl (lv_at hl 2 rfl) ?_
  refine lv_iload_n F.1 F.2.1 dX0_fits_6 rfl (lv_at hl 3 rfl) ?_
  refine lv_iload F.1 F.2.1 dX0_fits_7 (lv_at hl 4 rfl) ?_
  refine rr_rdV (rest := [vI (bl w)]) F hK (c_X2_segmentLength l D cy r sg n g q dv d (by first | assumption | omega | exact ⟨by omega, by omega⟩) (by first | assumption | omega | exact ⟨by omega, by omega⟩) (by first | assumption | omega | exact ⟨by omega, by omega⟩)) (hP.sub [3, 4] rfl) sf_X2_segmentLength tw219 2 rfl rfl ⟨Nat.le_of_ble_eq_true rfl, Nat.le_of_ble_eq_true rfl⟩ hl rfl (Nat.le_of_ble_eq_true rfl) dX0_fits_9 ⟨Nat.zero_le _, Nat.zero_le _⟩ ?_
  have q_9_0 := (seg_rng (n := n) (by omega) q dv d)
  refine rr_icmp_ne F (tgt := 38) dX0_fits_12 (by decide) ⟨by omega, by omega⟩ ⟨by omega, by omega⟩ (fun c_12 => ?_) (fun c_12 => ?_)
  · refine rr_iconst F dX0_fits_38 ?_
    exact rr_zret F hr hlocks (b := false) dX0_fits_39 rfl (b2i_f (fun h => by first | exact c_12 h.1 | exact c_31 ⟨by omega, h.2⟩))
  · refine lv_aload_n F.1 F.2.1 dX0_fits_15 rfl (lv_at hl 0 rfl) ?_
    refine lv_iload_n F.1 F.2.1 dX0_fits_16 rfl (lv_at hl 1 rfl) ?_
    refine lv_aload_n F.1 F.2.1 dX0_fits_17 rfl (lv_at hl 2 rfl) ?_
    refine lv_aload_n F.1 F.2.1 dX0_fits_18 rfl (lv_at hl 2 rfl) ?_
    refine lv_iload_n F.1 F.2.1 dX0_fits_19 rfl (lv_at hl 3 rfl) ?_
    refine lv_iload F.1 F.2.1 dX0_fits_20 (lv_at hl 4 rfl) ?_
    refine rr_iconst F dX0_fits_22 ?_
    refine rr_rdV (rest := [.ref r, vI w, .ref bk]) F hK (c_X2_onward l D cy r sg n g q dv d 1 (by first | assumption | omega | exact ⟨by omega, by omega⟩) (by first | assumption | omega | exact ⟨by omega, by omega⟩) (by first | assumption | omega | exact ⟨by omega, by omega⟩) (by first | assumption | omega | exact ⟨by omega, by omega⟩)) (hP.sub [3, 4] rfl) sf_X2_onward tw234 2 rfl rfl ⟨Nat.le_of_ble_eq_true rfl, Nat.le_of_ble_eq_true rfl⟩ hl rfl (Nat.le_of_ble_eq_true rfl) dX0_fits_23 ⟨Nat.zero_le _, Nat.zero_le _⟩ ?_
    have q_23_0 := (off_rng (n := n) (by omega) dv d 1)
    refine lv_iload F.1 F.2.1 dX0_fits_26 (lv_at hl 4 rfl) ?_
    refine rr_rdV (rest := []) F hK (c_X0_standsFrom l D cy bk la na nw lt ln bl bc r sg n g q w (off n dv d 1) d (by first | assumption | omega | exact ⟨by omega, by omega⟩) (by first | assumption | omega | exact ⟨by omega, by omega⟩) (by first | assumption | omega | exact ⟨by omega, by omega⟩) (by first | assumption | omega | exact ⟨by omega, by omega⟩) (by first | assumption | omega | exact ⟨by omega, by omega⟩) (by first | assumption | omega | exact ⟨by omega, by omega⟩)) hP sf_X0_standsFrom tw235 0 rfl rfl ⟨Nat.le_of_ble_eq_true rfl, Nat.le_of_ble_eq_true rfl⟩ hl rfl (Nat.le_of_ble_eq_true rfl) dX0_fits_28 ⟨Nat.zero_le _, Nat.zero_le _⟩ ?_
    refine rr_ifP_eq F (tgt := 38) dX0_fits_31 (by decide) (fun c_31 => ?_) (fun c_31 => ?_)
    · refine rr_iconst F dX0_fits_38 ?_
      exact rr_zret F hr hlocks (b := false) dX0_fits_39 rfl (b2i_f (fun h => by first | exact c_12 h.1 | exact c_31 ⟨by omega, h.2⟩))
    · refine rr_iconst F dX0_fits_34 ?_
      refine lv_goto (tgt := 39) F.1 F.2.1 dX0_fits_35 (by decide) ?_
      exact rr_zret F hr hlocks (b := true) dX0_fits_39 rfl (b2i_t ⟨c_12, c_31.2⟩)
set_option maxRecDepth 100000 in
set_option maxHeartbeats 4000000 in
theorem c_X0_countFitting (l : Launch) (D : va_G) (cy : Nat → ClassId) (bk la na : Nat) (nw : Int) (lt ln : Int → Int) (bl : Int → Int) (bc : Int → Int → Int) (r sg : Nat) (n : Int) (g q : Int → Int) (dv d : Int) (hB : BK nw lt ln bl bc) (hG : RG n g q) (hp : 0 ≤ dv ∧ dv < n) (hd : 0 ≤ d ∧ d ≤ 1) : Rd l yX0_countFitting cX0_countFitting 6 (some FieldType.int) 3 [.ref bk, .ref r, vI dv, vI d] D cy [(bk, .inr (0, [.ref la, .ref na, vI nw])), (la, .inl (cy 0, 60, .inl (iA lt))), (na, .inl (cy 1, 10, .inl (iA ln))), (r, .inr (2, [.ref sg, vI n])), (sg, .inl (cy 0, 24, .inl (iA g)))] (cnt (fun w => ft n q (bl w) (bc w) dv d) nw) := by
  refine Rd.of RX0 rfl [(0, .ref bk), (1, .ref r), (2, vI dv), (3, vI d)] rfl (by decide +kernel) (Nat.le_of_ble_eq_true rfl) ?_
  intro p e s m args below meth c F hr hlocks hK hP ls hl
  have hw0 := hB.1
  have hw1 := hB.2.1
  have hn0 := hG.1
  have hn1 := hG.2.1
  refine rr_iconst F dX0_countFitting_0 ?_
  refine lv_istore (lv' := [(4, vI 0), (0, .ref bk), (1, .ref r), (2, vI dv), (3, vI d)]) F.1 F.2.1 dX0_countFitting_1 hl (by decide) rfl (fun ls hl => ?_)
  refine rr_iconst F dX0_countFitting_3 ?_
  refine lv_istore (lv' := [(5, vI 0), (4, vI 0), (0, .ref bk), (1, .ref r), (2, vI dv), (3, vI d)]) F.1 F.2.1 dX0_countFitting_4 hl (by decide) rfl (fun ls hl => ?_)
  refine rr_loop1 (fun k => (0 ≤ k) ∧ (k ≤ nw)) (fun k => (nw - k).toNat) (fun k => [(5, vI k), (4, vI (cnt (fun w => ft n q (bl w) (bc w) dv d) k)), (0, .ref bk), (1, .ref r), (2, vI dv), (3, vI d)]) ?_ 0 ⟨by omega, by omega⟩ (lv_sub hl [0, 1, 2, 3, 4, 5] rfl)
  intro k hI ih_6 ls hl
  obtain ⟨k0, k1⟩ := hI
  have hl : lv_has ls 6 [(5, vI k), (4, vI (cnt (fun w => ft n q (bl w) (bc w) dv d) k)), (0, .ref bk), (1, .ref r), (2, vI dv), (3, vI d)] := hl
  refine lv_iload F.1 F.2.1 dX0_countFitting_6 (lv_at hl 0 rfl) ?_
  refine lv_aload_n F.1 F.2.1 dX0_countFitting_8 rfl (lv_at hl 2 rfl) ?_
  refine gf0_2 F hK hP 0 rfl tw75 dX0_countFitting_9 ?_
  refine rr_icmp_ge F (tgt := 36) dX0_countFitting_12 (by decide) ⟨by omega, by omega⟩ ⟨by omega, by omega⟩ (fun c_12 => ?_) (fun c_12 => ?_)
  · refine lv_iload F.1 F.2.1 dX0_countFitting_36 (lv_at hl 1 rfl) ?_
    exact rr_iret F hr hlocks dX0_countFitting_38 (by rw [show k = nw by omega])
  · refine lv_aload_n F.1 F.2.1 dX0_countFitting_15 rfl (lv_at hl 2 rfl) ?_
    refine lv_iload F.1 F.2.1 dX0_countFitting_16 (lv_at hl 0 rfl) ?_
    refine lv_aload_n F.1 F.2.1 dX0_countFitting_18 rfl (lv_at hl 3 rfl) ?_
    refine lv_iload_n F.1 F.2.1 dX0_countFitting_19 rfl (lv_at hl 4 rfl) ?_
    refine lv_iload_n F.1 F.2.1 dX0_countFitting_20 rfl (lv_at hl 5 rfl) ?_
    refine rr_rdV (rest := []) F hK (c_X0_fits l D cy bk la na nw lt ln bl bc r sg n g q k dv d (by first | assumption | omega | exact ⟨by omega, by omega⟩) (by first | assumption | omega | exact ⟨by omega, by omega⟩) (by first | assumption | omega | exact ⟨by omega, by omega⟩) (by first | assumption | omega | exact ⟨by omega, by omega⟩) (by first | assumption | omega | exact ⟨by omega, by omega⟩) (by first | assumption | omega | exact ⟨by omega, by omega⟩)) hP sf_X0_fits tw211 0 rfl rfl ⟨Nat.le_of_ble_eq_true rfl, Nat.le_of_ble_eq_true rfl⟩ hl rfl (Nat.le_of_ble_eq_true rfl) dX0_countFitting_21 ⟨Nat.zero_le _, Nat.zero_le _⟩ ?_
    refine rr_ifP_eq F (tgt := 30) dX0_countFitting_24 (by decide) (fun c_24 => ?_) (fun c_24 => ?_)
    · refine lv_iinc (v := iI (k + 1)) (lv' := [(5, vI (k + 1)), (4, vI (cnt (fun w => ft n q (bl w) (bc w) dv d) k)), (0, .ref bk), (1, .ref r), (2, vI dv), (3, vI d)]) F.1 F.2.1 dX0_countFitting_30 hl (k := 0) rfl (iinc_ok (by first | rfl | omega)) (by decide) rfl (fun ls hl => ?_)
      refine lv_goto (tgt := 6) F.1 F.2.1 dX0_countFitting_33 (by decide) ?_
      exact ih_6 (k + 1) ⟨by omega, by omega⟩ (show ((nw - (k + 1)).toNat) < ((nw - k).toNat) by omega) ls (lv_cv (lv_sub hl [0, 1, 2, 3, 4, 5] rfl) (by rw [← show (cnt (fun w => ft n q (bl w) (bc w) dv d) k : Int) = cnt (fun u_w => ft n q (bl u_w) (bc u_w) dv d) (k + 1) from by first | exact cnt_n (P := fun w => ft n q (bl w) (bc w) dv d) k0 (by assumption) | exact cnt_y (P := fun w => ft n q (bl w) (bc w) dv d) k0 (by assumption)]; rfl))
    · refine lv_iinc (v := iI ((cnt (fun w => ft n q (bl w) (bc w) dv d) k) + 1)) (lv' := [(4, vI ((cnt (fun w => ft n q (bl w) (bc w) dv d) k) + 1)), (5, vI k), (0, .ref bk), (1, .ref r), (2, vI dv), (3, vI d)]) F.1 F.2.1 dX0_countFitting_27 hl (k := 1) rfl (iinc_ok (by first | rfl | omega)) (by decide) rfl (fun ls hl => ?_)
      refine lv_iinc (v := iI (k + 1)) (lv' := [(5, vI (k + 1)), (4, vI ((cnt (fun w => ft n q (bl w) (bc w) dv d) k) + 1)), (0, .ref bk), (1, .ref r), (2, vI dv), (3, vI d)]) F.1 F.2.1 dX0_countFitting_30 hl (k := 1) rfl (iinc_ok (by first | rfl | omega)) (by decide) rfl (fun ls hl => ?_)
      refine lv_goto (tgt := 6) F.1 F.2.1 dX0_countFitting_33 (by decide) ?_
      exact ih_6 (k + 1) ⟨by omega, by omega⟩ (show ((nw - (k + 1)).toNat) < ((nw - k).toNat) by omega) ls (lv_cv (lv_sub hl [0, 1, 2, 3, 4, 5] rfl) (by rw [← show ((cnt (fun w => ft n q (bl w) (bc w) dv d) k) + 1 : Int) = cnt (fun u_w => ft n q (bl u_w) (bc u_w) dv d) (k + 1) from by first | exact cnt_n (P := fun w => ft n q (bl w) (bc w) dv d) k0 (by assumption) | exact cnt_y (P := fun w => ft n q (bl w) (bc w) dv d) k0 (by assumption)]; rfl))
set_option maxRecDepth 100000 in
set_option maxHeartbeats 4000000 in
theorem c_X0_lowestFitting (l : Launch) (D : va_G) (cy : Nat → ClassId) (bk la na : Nat) (nw : Int) (lt ln : Int → Int) (bl : Int → Int) (bc : Int → Int → Int) (r sg : Nat) (n : Int) (g q : Int → Int) (dv d : Int) (hB : BK nw lt ln bl bc) (hG : RG n g q) (hp : 0 ≤ dv ∧ dv < n) (hd : 0 ≤ d ∧ d ≤ 1) : Rd l yX0_lowestFitting cX0_lowestFitting 5 (some FieldType.int) 3 [.ref bk, .ref r, vI dv, vI d] D cy [(bk, .inr (0, [.ref la, .ref na, vI nw])), (la, .inl (cy 0, 60, .inl (iA lt))), (na, .inl (cy 1, 10, .inl (iA ln))), (r, .inr (2, [.ref sg, vI n])), (sg, .inl (cy 0, 24, .inl (iA g)))] (low (fun w => ft n q (bl w) (bc w) dv d) nw) := by
  refine Rd.of RX0 rfl [(0, .ref bk), (1, .ref r), (2, vI dv), (3, vI d)] rfl (by decide +kernel) (Nat.le_of_ble_eq_true rfl) ?_
  intro p e s m args below meth c F hr hlocks hK hP ls hl
  have hw0 := hB.1
  have hw1 := hB.2.1
  have hn0 := hG.1
  have hn1 := hG.2.1
  refine rr_iconst F dX0_lowestFitting_0 ?_
  refine lv_istore (lv' := [(4, vI 0), (0, .ref bk), (1, .ref r), (2, vI dv), (3, vI d)]) F.1 F.2.1 dX0_lowestFitting_1 hl (by decide) rfl (fun ls hl => ?_)
  refine rr_loop1 (fun k => (0 ≤ k) ∧ (k ≤ nw) ∧ (∀ j, 0 ≤ j → j < k → ¬ ft n q (bl j) (bc j) dv d)) (fun k => (nw - k).toNat) (fun k => [(4, vI k), (0, .ref bk), (1, .ref r), (2, vI dv), (3, vI d)]) ?_ 0 ⟨by omega, by omega, fun j x y => by omega⟩ (lv_sub hl [0, 1, 2, 3, 4] rfl)
  intro k hI ih_3 ls hl
  obtain ⟨k0, k1, kq⟩ := hI
  have hl : lv_has ls 5 [(4, vI k), (0, .ref bk), (1, .ref r), (2, vI dv), (3, vI d)] := hl
  refine lv_iload F.1 F.2.1 dX0_lowestFitting_3 (lv_at hl 0 rfl) ?_
  refine lv_aload_n F.1 F.2.1 dX0_lowestFitting_5 rfl (lv_at hl 1 rfl) ?_
  refine gf0_2 F hK hP 0 rfl tw75 dX0_lowestFitting_6 ?_
  refine rr_icmp_ge F (tgt := 33) dX0_lowestFitting_9 (by decide) ⟨by omega, by omega⟩ ⟨by omega, by omega⟩ (fun c_9 => ?_) (fun c_9 => ?_)
  · refine rr_iconst F dX0_lowestFitting_33 ?_
    exact rr_iret F hr hlocks dX0_lowestFitting_34 (low_miss hw0 (fun j x y => kq j x (by omega)))
  · refine lv_aload_n F.1 F.2.1 dX0_lowestFitting_12 rfl (lv_at hl 1 rfl) ?_
    refine lv_iload F.1 F.2.1 dX0_lowestFitting_13 (lv_at hl 0 rfl) ?_
    refine lv_aload_n F.1 F.2.1 dX0_lowestFitting_15 rfl (lv_at hl 2 rfl) ?_
    refine lv_iload_n F.1 F.2.1 dX0_lowestFitting_16 rfl (lv_at hl 3 rfl) ?_
    refine lv_iload_n F.1 F.2.1 dX0_lowestFitting_17 rfl (lv_at hl 4 rfl) ?_
    refine rr_rdV (rest := []) F hK (c_X0_fits l D cy bk la na nw lt ln bl bc r sg n g q k dv d (by first | assumption | omega | exact ⟨by omega, by omega⟩) (by first | assumption | omega | exact ⟨by omega, by omega⟩) (by first | assumption | omega | exact ⟨by omega, by omega⟩) (by first | assumption | omega | exact ⟨by omega, by omega⟩) (by first | assumption | omega | exact ⟨by omega, by omega⟩) (by first | assumption | omega | exact ⟨by omega, by omega⟩)) hP sf_X0_fits tw211 0 rfl rfl ⟨Nat.le_of_ble_eq_true rfl, Nat.le_of_ble_eq_true rfl⟩ hl rfl (Nat.le_of_ble_eq_true rfl) dX0_lowestFitting_18 ⟨Nat.zero_le _, Nat.zero_le _⟩ ?_
    refine rr_ifP_eq F (tgt := 27) dX0_lowestFitting_21 (by decide) (fun c_21 => ?_) (fun c_21 => ?_)
    · refine lv_iinc (v := iI (k + 1)) (lv' := [(4, vI (k + 1)), (0, .ref bk), (1, .ref r), (2, vI dv), (3, vI d)]) F.1 F.2.1 dX0_lowestFitting_27 hl (k := 0) rfl (iinc_ok (by first | rfl | omega)) (by decide) rfl (fun ls hl => ?_)
      refine lv_goto (tgt := 3) F.1 F.2.1 dX0_lowestFitting_30 (by decide) ?_
      exact ih_3 (k + 1) ⟨by omega, by omega, fun j x y => (if hj : j = k then by subst hj; exact c_21 else kq j x (by omega))⟩ (show ((nw - (k + 1)).toNat) < ((nw - k).toNat) by omega) ls (lv_sub hl [0, 1, 2, 3, 4] rfl)
    · refine lv_iload F.1 F.2.1 dX0_lowestFitting_24 (lv_at hl 0 rfl) ?_
      exact rr_iret F hr hlocks dX0_lowestFitting_26 (low_hit k0 (by omega) (by assumption) kq)
set_option maxRecDepth 100000 in
set_option maxHeartbeats 4000000 in
theorem c_X0_lettersFitting (l : Launch) (D : va_G) (cy : Nat → ClassId) (bk la na : Nat) (nw : Int) (lt ln : Int → Int) (bl : Int → Int) (bc : Int → Int → Int) (r sg : Nat) (n : Int) (g q : Int → Int) (dv d ix : Int) (hB : BK nw lt ln bl bc) (hG : RG n g q) (hp : 0 ≤ dv ∧ dv < n) (hd : 0 ≤ d ∧ d ≤ 1) (hx : 0 ≤ ix ∧ ix < 100) : Rd l yX0_lettersFitting cX0_lettersFitting 7 (some FieldType.int) 3 [.ref bk, .ref r, vI dv, vI d, vI ix] D cy [(bk, .inr (0, [.ref la, .ref na, vI nw])), (la, .inl (cy 0, 60, .inl (iA lt))), (na, .inl (cy 1, 10, .inl (iA ln))), (r, .inr (2, [.ref sg, vI n])), (sg, .inl (cy 0, 24, .inl (iA g)))] (lts (fun w => ix < bl w ∧ ft n q (bl w) (bc w) dv d) (fun w => bc w ix - 1) nw) := by
  refine Rd.of RX0 rfl [(0, .ref bk), (1, .ref r), (2, vI dv), (3, vI d), (4, vI ix)] rfl (by decide +kernel) (Nat.le_of_ble_eq_true rfl) ?_
  intro p e s m args below meth c F hr hlocks hK hP ls hl
  have hw0 := hB.1
  have hw1 := hB.2.1
  have hn0 := hG.1
  have hn1 := hG.2.1
  refine rr_iconst F dX0_lettersFitting_0 ?_
  refine lv_istore (lv' := [(5, vI 0), (0, .ref bk), (1, .ref r), (2, vI dv), (3, vI d), (4, vI ix)]) F.1 F.2.1 dX0_lettersFitting_1 hl (by decide) rfl (fun ls hl => ?_)
  refine rr_iconst F dX0_lettersFitting_3 ?_
  refine lv_istore (lv' := [(6, vI 0), (5, vI 0), (0, .ref bk), (1, .ref r), (2, vI dv), (3, vI d), (4, vI ix)]) F.1 F.2.1 dX0_lettersFitting_4 hl (by decide) rfl (fun ls hl => ?_)
  refine rr_loop1 (fun k => (0 ≤ k) ∧ (k ≤ nw)) (fun k => (nw - k).toNat) (fun k => [(6, vI k), (5, vI (lts (fun w => ix < bl w ∧ ft n q (bl w) (bc w) dv d) (fun w => bc w ix - 1) k)), (0, .ref bk), (1, .ref r), (2, vI dv), (3, vI d), (4, vI ix)]) ?_ 0 ⟨by omega, by omega⟩ (lv_sub hl [0, 1, 2, 3, 4, 5, 6] rfl)
  intro k hI ih_6 ls hl
  obtain ⟨k0, k1⟩ := hI
  have hl : lv_has ls 7 [(6, vI k), (5, vI (lts (fun w => ix < bl w ∧ ft n q (bl w) (bc w) dv d) (fun w => bc w ix - 1) k)), (0, .ref bk), (1, .ref r), (2, vI dv), (3, vI d), (4, vI ix)] := hl
  have lr := lts_rng (C := fun w => ix < bl w ∧ ft n q (bl w) (bc w) dv d) (f := fun w => bc w ix - 1) k0 (fun j x y hc => by have h := (hB.at x (by omega)).2.2 ix hx.1 hc.1; omega)
  refine lv_iload F.1 F.2.1 dX0_lettersFitting_6 (lv_at hl 0 rfl) ?_
  refine lv_aload_n F.1 F.2.1 dX0_lettersFitting_8 rfl (lv_at hl 2 rfl) ?_
  refine gf0_2 F hK hP 0 rfl tw75 dX0_lettersFitting_9 ?_
  refine rr_icmp_ge F (tgt := 62) dX0_lettersFitting_12 (by decide) ⟨by omega, by omega⟩ ⟨by omega, by omega⟩ (fun c_12 => ?_) (fun c_12 => ?_)
  · refine lv_iload F.1 F.2.1 dX0_lettersFitting_62 (lv_at hl 1 rfl) ?_
    exact rr_iret F hr hlocks dX0_lettersFitting_64 (by rw [show k = nw by omega])
  · refine lv_iload F.1 F.2.1 dX0_lettersFitting_15 (lv_at hl 6 rfl) ?_
    refine lv_aload_n F.1 F.2.1 dX0_lettersFitting_17 rfl (lv_at hl 2 rfl) ?_
    refine lv_iload F.1 F.2.1 dX0_lettersFitting_18 (lv_at hl 0 rfl) ?_
    refine rr_rdV (rest := [vI ix]) F hK (c_X0_lengthOf l D cy bk la na nw lt ln bl bc k (by first | assumption | omega | exact ⟨by omega, by omega⟩) (by first | assumption | omega | exact ⟨by omega, by omega⟩) (by first | assumption | omega | exact ⟨by omega, by omega⟩)) (hP.sub [0, 1, 2] rfl) sf_X0_lengthOf tw215 0 rfl rfl ⟨Nat.le_of_ble_eq_true rfl, Nat.le_of_ble_eq_true rfl⟩ hl rfl (Nat.le_of_ble_eq_true rfl) dX0_lettersFitting_20 ⟨Nat.zero_le _, Nat.zero_le _⟩ ?_
    have q_20_0 := (hB.at (show 0 ≤ k by first | assumption | omega) (by first | assumption | omega))
    refine rr_icmp_ge F (tgt := 56) dX0_lettersFitting_23 (by decide) ⟨by omega, by omega⟩ ⟨by omega, by omega⟩ (fun c_23 => ?_) (fun c_23 => ?_)
    · refine lv_iinc (v := iI (k + 1)) (lv' := [(6, vI (k + 1)), (5, vI (lts (fun w => ix < bl w ∧ ft n q (bl w) (bc w) dv d) (fun w => bc w ix - 1) k)), (0, .ref bk), (1, .ref r), (2, vI dv), (3, vI d), (4, vI ix)]) F.1 F.2.1 dX0_lettersFitting_56 hl (k := 0) rfl (iinc_ok (by first | rfl | omega)) (by decide) rfl (fun ls hl => ?_)
      refine lv_goto (tgt := 6) F.1 F.2.1 dX0_lettersFitting_59 (by decide) ?_
      exact ih_6 (k + 1) ⟨by omega, by omega⟩ (show ((nw - (k + 1)).toNat) < ((nw - k).toNat) by omega) ls (lv_cv (lv_sub hl [0, 1, 2, 3, 4, 5, 6] rfl) (by rw [← show (lts (fun w => ix < bl w ∧ ft n q (bl w) (bc w) dv d) (fun w => bc w ix - 1) k : Int) = lts (fun u_w => ix < bl u_w ∧ ft n q (bl u_w) (bc u_w) dv d) (fun u_w => bc u_w ix - 1) (k + 1) from by first | exact lts_n (C := fun w => ix < bl w ∧ ft n q (bl w) (bc w) dv d) (f := fun w => bc w ix - 1) k0 (fun h => by first | exact c_35 h.2 | (have := h.1; omega)) | exact lts_y (C := fun w => ix < bl w ∧ ft n q (bl w) (bc w) dv d) (f := fun w => bc w ix - 1) k0 ⟨by assumption, by assumption⟩]; rfl))
    · refine lv_aload_n F.1 F.2.1 dX0_lettersFitting_26 rfl (lv_at hl 2 rfl) ?_
      refine lv_iload F.1 F.2.1 dX0_lettersFitting_27 (lv_at hl 0 rfl) ?_
      refine lv_aload_n F.1 F.2.1 dX0_lettersFitting_29 rfl (lv_at hl 3 rfl) ?_
      refine lv_iload_n F.1 F.2.1 dX0_lettersFitting_30 rfl (lv_at hl 4 rfl) ?_
      refine lv_iload_n F.1 F.2.1 dX0_lettersFitting_31 rfl (lv_at hl 5 rfl) ?_
      refine rr_rdV (rest := []) F hK (c_X0_fits l D cy bk la na nw lt ln bl bc r sg n g q k dv d (by first | assumption | omega | exact ⟨by omega, by omega⟩) (by first | assumption | omega | exact ⟨by omega, by omega⟩) (by first | assumption | omega | exact ⟨by omega, by omega⟩) (by first | assumption | omega | exact ⟨by omega, by omega⟩) (by first | assumption | omega | exact ⟨by omega, by omega⟩) (by first | assumption | omega | exact ⟨by omega, by omega⟩)) hP sf_X0_fits tw211 0 rfl rfl ⟨Nat.le_of_ble_eq_true rfl, Nat.le_of_ble_eq_true rfl⟩ hl rfl (Nat.le_of_ble_eq_true rfl) dX0_lettersFitting_32 ⟨Nat.zero_le _, Nat.zero_le _⟩ ?_
      refine rr_ifP_eq F (tgt := 56) dX0_lettersFitting_35 (by decide) (fun c_35 => ?_) (fun c_35 => ?_)
      · refine lv_iinc (v := iI (k + 1)) (lv' := [(6, vI (k + 1)), (5, vI (lts (fun w => ix < bl w ∧ ft n q (bl w) (bc w) dv d) (fun w => bc w ix - 1) k)), (0, .ref bk), (1, .ref r), (2, vI dv), (3, vI d), (4, vI ix)]) F.1 F.2.1 dX0_lettersFitting_56 hl (k := 0) rfl (iinc_ok (by first | rfl | omega)) (by decide) rfl (fun ls hl => ?_)
        refine lv_goto (tgt := 6) F.1 F.2.1 dX0_lettersFitting_59 (by decide) ?_
        exact ih_6 (k + 1) ⟨by omega, by omega⟩ (show ((nw - (k + 1)).toNat) < ((nw - k).toNat) by omega) ls (lv_cv (lv_sub hl [0, 1, 2, 3, 4, 5, 6] rfl) (by rw [← show (lts (fun w => ix < bl w ∧ ft n q (bl w) (bc w) dv d) (fun w => bc w ix - 1) k : Int) = lts (fun u_w => ix < bl u_w ∧ ft n q (bl u_w) (bc u_w) dv d) (fun u_w => bc u_w ix - 1) (k + 1) from by first | exact lts_n (C := fun w => ix < bl w ∧ ft n q (bl w) (bc w) dv d) (f := fun w => bc w ix - 1) k0 (fun h => by first | exact c_35 h.2 | (have := h.1; omega)) | exact lts_y (C := fun w => ix < bl w ∧ ft n q (bl w) (bc w) dv d) (f := fun w => bc w ix - 1) k0 ⟨by assumption, by assumption⟩]; rfl))
      · refine lv_iload F.1 F.2.1 dX0_lettersFitting_38 (lv_at hl 1 rfl) ?_
        refine rr_iconst F dX0_lettersFitting_40 ?_
        refine lv_aload_n F.1 F.2.1 dX0_lettersFitting_41 rfl (lv_at hl 2 rfl) ?_
        refine lv_iload F.1 F.2.1 dX0_lettersFitting_42 (lv_at hl 0 rfl) ?_
        refine lv_iload F.1 F.2.1 dX0_lettersFitting_44 (lv_at hl 6 rfl) ?_
        refine rr_rdV (rest := [vI 1, vI (lts (fun w => ix < bl w ∧ ft n q (bl w) (bc w) dv d) (fun w => bc w ix - 1) k)]) F hK (c_X0_letterOf l D cy bk la na nw lt ln bl bc k ix (by first | assumption | omega | exact ⟨by omega, by omega⟩) (by first | assumption | omega | exact ⟨by omega, by omega⟩) (by first | assumption | omega | exact ⟨by omega, by omega⟩) (by first | assumption | omega | exact ⟨by omega, by omega⟩) (by first | assumption | omega | exact ⟨by omega, by omega⟩)) (hP.sub [0, 1, 2] rfl) sf_X0_letterOf tw243 0 rfl rfl ⟨Nat.le_of_ble_eq_true rfl, Nat.le_of_ble_eq_true rfl⟩ hl rfl (Nat.le_of_ble_eq_true rfl) dX0_lettersFitting_46 ⟨Nat.zero_le _, Nat.zero_le _⟩ ?_
        have q_46_0 := ((hB.at (show 0 ≤ k by first | assumption | omega) (by first | assumption | omega)).2.2 ix (by first | assumption | omega) (by first | assumption | omega))
        refine rr_bipush F dX0_lettersFitting_49 (by decide) ?_
        refine rr_isub F (z := bc k ix - 1) dX0_lettersFitting_51 (by omega) ?_
        refine rr_ishl F (z := p2 (bc k ix - 1)) dX0_lettersFitting_52 ⟨rfl, by omega, by omega, rfl⟩ ?_
        refine rr_ior F (z := bor (lts (fun w => ix < bl w ∧ ft n q (bl w) (bc w) dv d) (fun w => bc w ix - 1) k) (p2 (bc k ix - 1))) dX0_lettersFitting_53 ⟨lr.1, by have := p2_rng (k := bc k ix - 1) (by omega) (by omega); omega, rfl⟩ ?_
        refine lv_istore (lv' := [(5, vI (bor (lts (fun w => ix < bl w ∧ ft n q (bl w) (bc w) dv d) (fun w => bc w ix - 1) k) (p2 (bc k ix - 1)))), (6, vI k), (0, .ref bk), (1, .ref r), (2, vI dv), (3, vI d), (4, vI ix)]) F.1 F.2.1 dX0_lettersFitting_54 hl (by decide) rfl (fun ls hl => ?_)
        refine lv_iinc (v := iI (k + 1)) (lv' := [(6, vI (k + 1)), (5, vI (bor (lts (fun w => ix < bl w ∧ ft n q (bl w) (bc w) dv d) (fun w => bc w ix - 1) k) (p2 (bc k ix - 1)))), (0, .ref bk), (1, .ref r), (2, vI dv), (3, vI d), (4, vI ix)]) F.1 F.2.1 dX0_lettersFitting_56 hl (k := 1) rfl (iinc_ok (by first | rfl | omega)) (by decide) rfl (fun ls hl => ?_)
        refine lv_goto (tgt := 6) F.1 F.2.1 dX0_lettersFitting_59 (by decide) ?_
        exact ih_6 (k + 1) ⟨by omega, by omega⟩ (show ((nw - (k + 1)).toNat) < ((nw - k).toNat) by omega) ls (lv_cv (lv_sub hl [0, 1, 2, 3, 4, 5, 6] rfl) (by rw [← show (bor (lts (fun w => ix < bl w ∧ ft n q (bl w) (bc w) dv d) (fun w => bc w ix - 1) k) (p2 (bc k ix - 1)) : Int) = lts (fun u_w => ix < bl u_w ∧ ft n q (bl u_w) (bc u_w) dv d) (fun u_w => bc u_w ix - 1) (k + 1) from by first | exact lts_n (C := fun w => ix < bl w ∧ ft n q (bl w) (bc w) dv d) (f := fun w => bc w ix - 1) k0 (fun h => by first | exact c_35 h.2 | (have := h.1; omega)) | exact lts_y (C := fun w => ix < bl w ∧ ft n q (bl w) (bc w) dv d) (f := fun w => bc w ix - 1) k0 ⟨by assumption, by assumption⟩]; rfl))
