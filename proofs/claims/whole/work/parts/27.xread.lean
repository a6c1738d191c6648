set_option maxRecDepth 100000 in
set_option maxHeartbeats 4000000 in
theorem c_J6_compare_7cf53 (l : Launch) (D : va_G) (cy : Nat → ClassId) (u v : Int) (h0 : inR u) (h1 : inR v) : Rd l yJ6_compare_7cf53 cJ6_compare_7cf53 2 (some FieldType.int) 0 [vI u, vI v] D cy [] (lcm u v) := by
  refine Rd.of RJ6 rfl [(0, vI u), (1, vI v)] rfl (by decide +kernel) (Nat.le_of_ble_eq_true rfl) ?_
  intro p e s m args below meth c F hr hlocks hK hP ls hl
  refine lv_iload_n F.1 F.2.1 dJ6_compare_7cf53_0 rfl (lv_at hl 0 rfl) ?_
  refine lv_iload_n F.1 F.2.1 dJ6_compare_7cf53_1 rfl (lv_at hl 1 rfl) ?_
  refine rr_icmp_ge F (tgt := 9) dJ6_compare_7cf53_2 (by decide) h0 h1 (fun c_2 => ?_) (fun c_2 => ?_)
  · refine lv_iload_n F.1 F.2.1 dJ6_compare_7cf53_9 rfl (lv_at hl 0 rfl) ?_
    refine lv_iload_n F.1 F.2.1 dJ6_compare_7cf53_10 rfl (lv_at hl 1 rfl) ?_
    refine rr_icmp_ne F (tgt := 18) dJ6_compare_7cf53_11 (by decide) h0 h1 (fun c_11 => ?_) (fun c_11 => ?_)
    · refine rr_iconst F dJ6_compare_7cf53_18 ?_
      exact rr_iret F hr hlocks dJ6_compare_7cf53_19 (by have := lcm_spec u v; omega)
    · refine rr_iconst F dJ6_compare_7cf53_14 ?_
      refine lv_goto (tgt := 19) F.1 F.2.1 dJ6_compare_7cf53_15 (by decide) ?_
      exact rr_iret F hr hlocks dJ6_compare_7cf53_19 (by have := lcm_spec u v; omega)
  · refine rr_iconst F dJ6_compare_7cf53_5 ?_
    refine lv_goto (tgt := 19) F.1 F.2.1 dJ6_compare_7cf53_6 (by decide) ?_
    exact rr_iret F hr hlocks dJ6_compare_7cf53_19 (by have := lcm_spec u v; omega)
set_option maxRecDepth 100000 in
set_option maxHeartbeats 4000000 in
theorem c_X6_errorPosition (l : Launch) (D : va_G) (cy : Nat → ClassId) (x st sk hi sl fi : Nat) (tx ta : Nat) (tl : Int) (tc : Int → Int) (fb : Int) (hT : (0 ≤ tl ∧ tl ≤ 40) ∧ CH 40 tc) (hf : fb = 0 ∨ fb = 1) : Rd l yX6_errorPosition cX6_errorPosition 2 (some FieldType.int) 3 [.ref x, vI fb] D cy [(x, .inr (6, [.ref tx, .ref st, .ref sk, .ref hi, .ref sl, .ref fi])), (tx, .inr (4, [.ref ta, vI tl])), (ta, .inl (cy 0, 40, .inl (iA tc)))] (ferr tl tc fb) := by
  refine Rd.of RX6 rfl [(0, .ref x), (1, vI fb)] rfl (by decide +kernel) (Nat.le_of_ble_eq_true rfl) ?_
  intro p e s m args below meth c F hr hlocks hK hP ls hl
  refine lv_aload_n F.1 F.2.1 dX6_errorPosition_0 rfl (lv_at hl 0 rfl) ?_
  refine gf6_0 F hK hP 0 rfl tw157 dX6_errorPosition_1 ?_
  refine lv_iload_n F.1 F.2.1 dX6_errorPosition_4 rfl (lv_at hl 1 rfl) ?_
  refine rr_rdV (rest := []) F hK (c_X4_firstError l D cy tx ta tl tc fb (by first | assumption | omega | exact ⟨by omega, by omega⟩) (by first | assumption | omega | exact ⟨by omega, by omega⟩)) (hP.sub [1, 2] rfl) sf_X4_firstError tw189 4 rfl rfl ⟨Nat.le_of_ble_eq_true rfl, Nat.le_of_ble_eq_true rfl⟩ hl rfl (Nat.le_of_ble_eq_true rfl) dX6_errorPosition_5 ⟨Nat.zero_le _, Nat.zero_le _⟩ ?_
  exact rr_iret F hr hlocks dX6_errorPosition_8 (by first | rfl | omega)
set_option maxRecDepth 100000 in
set_option maxHeartbeats 4000000 in
theorem c_X6_clearText (l : Launch) (D : va_G) (cy : Nat → ClassId) (x st sk hi sl fi : Nat) (tx ta : Nat) (tl : Int) (tc : Int → Int) (hT : (0 ≤ tl ∧ tl ≤ 40) ∧ CH 40 tc) : Wr l yX6_clearText cX6_clearText 1 (some FieldType.int) 1 [.ref x] D cy [(x, .inr (6, [.ref tx, .ref st, .ref sk, .ref hi, .ref sl, .ref fi])), (tx, .inr (4, [.ref ta, vI tl])), (ta, .inl (cy 0, 40, .inl (iA tc)))] [(x, .inr (6, [.ref tx, .ref st, .ref sk, .ref hi, .ref sl, .ref fi])), (tx, .inr (4, [.ref ta, vI 0])), (ta, .inl (cy 0, 40, .inl (iA tc)))] (some (vI tl)) := by
  refine Wr.of RX6 rfl [(0, .ref x)] rfl (by decide +kernel) (Nat.le_of_ble_eq_true rfl) ?_
  intro p e s m args below meth c F hr hlocks hK hP hD hS hA ls hl
  refine lv_aload_n F.1 F.2.1 dX6_clearText_0 rfl (lv_at hl 0 rfl) ?_
  refine gf6_0 F hK hP 0 rfl tw157 dX6_clearText_1 ?_
  refine rr_wrV (rest := []) (wr := [(x, .inr (6, [.ref tx, .ref st, .ref sk, .ref hi, .ref sl, .ref fi]))]) (ws2 := [(x, .inr (6, [.ref tx, .ref st, .ref sk, .ref hi, .ref sl, .ref fi])), (tx, .inr (4, [.ref ta, vI 0])), (ta, .inl (cy 0, 40, .inl (iA tc)))]) F hK (c_X4_empty l D cy tx ta tl tc (by first | assumption | omega | exact ⟨by omega, by omega⟩)) hP hD hS hA sf_X4_empty tw181 4 rfl rfl ⟨Nat.le_of_ble_eq_true rfl, Nat.le_of_ble_eq_true rfl⟩ hl rfl (Nat.le_of_ble_eq_true rfl) dX6_clearText_4 ⟨Nat.zero_le _, Nat.zero_le _⟩ [1, 2] [0] [0, 1, 2] rfl rfl (by decide) (by decide) (by decide) rfl rfl (by decide) (fun H locs hP hD hS => ?_)
  have hP : va_P D vwCl [(x, .inr (6, [.ref tx, .ref st, .ref sk, .ref hi, .ref sl, .ref fi])), (tx, .inr (4, [.ref ta, vI 0])), (ta, .inl (cy 0, 40, .inl (iA tc)))] H := hP
  have hD : va_D _ [(x, .inr (6, [.ref tx, .ref st, .ref sk, .ref hi, .ref sl, .ref fi])), (tx, .inr (4, [.ref ta, vI 0])), (ta, .inl (cy 0, 40, .inl (iA tc)))] := hD
  exact rr_wiret F hr hlocks dX6_clearText_7 hP hS (rfl) (by first | rfl | omega)
set_option maxRecDepth 100000 in
set_option maxHeartbeats 4000000 in
theorem c_X6_append (l : Launch) (D : va_G) (cy : Nat → ClassId) (x st sk hi sl fi : Nat) (tx ta : Nat) (tl : Int) (tc : Int → Int) (c0 : Int) (hT : (0 ≤ tl ∧ tl ≤ 40) ∧ CH 40 tc) (h1 : 0 ≤ c0 ∧ c0 ≤ 255) (h2 : tl < 40) : Wr l yX6_append cX6_append 2 (some FieldType.int) 1 [.ref x, vI c0] D cy [(x, .inr (6, [.ref tx, .ref st, .ref sk, .ref hi, .ref sl, .ref fi])), (tx, .inr (4, [.ref ta, vI tl])), (ta, .inl (cy 0, 40, .inl (iA tc)))] [(x, .inr (6, [.ref tx, .ref st, .ref sk, .ref hi, .ref sl, .ref fi])), (tx, .inr (4, [.ref ta, vI (tl + 1)])), (ta, .inl (cy 0, 40, .inl (iA (updZ tc tl c0))))] (some (vI (tl + 1))) := by
  refine Wr.of RX6 rfl [(0, .ref x), (1, vI c0)] rfl (by decide +kernel) (Nat.le_of_ble_eq_true rfl) ?_
  intro p e s m args below meth c F hr hlocks hK hP hD hS hA ls hl
  obtain ⟨ht0, ht1⟩ := id hT
  refine lv_iload_n F.1 F.2.1 dX6_append_0 rfl (lv_at hl 1 rfl) ?_
  refine rr_if_lt F (tgt := 11) dX6_append_1 (by decide) ⟨by omega, by omega⟩ (fun c_1 => ?_) (fun c_1 => ?_)
  · exfalso; omega
  · refine lv_iload_n F.1 F.2.1 dX6_append_4 rfl (lv_at hl 1 rfl) ?_
    refine rr_sipush F dX6_append_5 (by decide) ?_
    refine rr_icmp_le F (tgt := 21) dX6_append_8 (by decide) ⟨by omega, by omega⟩ ⟨by omega, by omega⟩ (fun c_8 => ?_) (fun c_8 => ?_)
    · refine lv_aload_n F.1 F.2.1 dX6_append_21 rfl (lv_at hl 0 rfl) ?_
      refine gf6_0 F hK hP 0 rfl tw157 dX6_append_22 ?_
      refine rr_rdV (rest := []) F hK (c_X4_isFull l D cy tx ta tl tc (by first | assumption | omega | exact ⟨by omega, by omega⟩)) (hP.sub [1, 2] rfl) sf_X4_isFull tw340 4 rfl rfl ⟨Nat.le_of_ble_eq_true rfl, Nat.le_of_ble_eq_true rfl⟩ hl rfl (Nat.le_of_ble_eq_true rfl) dX6_append_25 ⟨Nat.zero_le _, Nat.zero_le _⟩ ?_
      refine rr_ifP_eq F (tgt := 41) dX6_append_28 (by decide) (fun c_28 => ?_) (fun c_28 => ?_)
      · refine lv_aload_n F.1 F.2.1 dX6_append_41 rfl (lv_at hl 0 rfl) ?_
        refine gf6_0 F hK hP 0 rfl tw157 dX6_append_42 ?_
        refine lv_iload_n F.1 F.2.1 dX6_append_45 rfl (lv_at hl 1 rfl) ?_
        refine rr_i2c F dX6_append_46 ⟨by omega, by omega⟩ ?_
        refine rr_wrV (rest := []) (wr := [(x, .inr (6, [.ref tx, .ref st, .ref sk, .ref hi, .ref sl, .ref fi]))]) (ws2 := [(x, .inr (6, [.ref tx, .ref st, .ref sk, .ref hi, .ref sl, .ref fi])), (tx, .inr (4, [.ref ta, vI (tl + 1)])), (ta, .inl (cy 0, 40, .inl (iA (updZ tc tl c0))))]) F hK (c_X4_addCharacter l D cy tx ta tl tc c0 (by first | assumption | omega | exact ⟨by omega, by omega⟩) (by first | assumption | omega | exact ⟨by omega, by omega⟩) (by first | assumption | omega | exact ⟨by omega, by omega⟩)) hP hD hS hA sf_X4_addCharacter tw360 4 rfl rfl ⟨Nat.le_of_ble_eq_true rfl, Nat.le_of_ble_eq_true rfl⟩ hl rfl (Nat.le_of_ble_eq_true rfl) dX6_append_47 ⟨Nat.zero_le _, Nat.zero_le _⟩ [1, 2] [0] [0, 1, 2] rfl rfl (by decide) (by decide) (by decide) rfl rfl (by decide) (fun H locs hP hD hS => ?_)
        have hP : va_P D vwCl [(x, .inr (6, [.ref tx, .ref st, .ref sk, .ref hi, .ref sl, .ref fi])), (tx, .inr (4, [.ref ta, vI (tl + 1)])), (ta, .inl (cy 0, 40, .inl (iA (updZ tc tl c0))))] H := hP
        have hD : va_D _ [(x, .inr (6, [.ref tx, .ref st, .ref sk, .ref hi, .ref sl, .ref fi])), (tx, .inr (4, [.ref ta, vI (tl + 1)])), (ta, .inl (cy 0, 40, .inl (iA (updZ tc tl c0))))] := hD
        exact rr_wiret F hr hlocks dX6_append_50 hP hS (rfl) (by first | rfl | omega)
      · exfalso; omega
    · exfalso; omega
set_option maxRecDepth 100000 in
set_option maxHeartbeats 4000000 in
theorem c_X6_about (l : Launch) (D : va_G) (cy : Nat → ClassId) (x tx sk hi sl fi : Nat) (st ws : Nat) (wc sp : Int) (r sg : Nat) (n : Int) (g q : Int → Int) (bk la na : Nat) (nw : Int) (lt ln : Int → Int) (bl : Int → Int) (bc : Int → Int → Int) (i : Int) (hG : RG n g q) (hB : BK nw lt ln bl bc) (h1 : 0 ≤ i ∧ i ≤ 8) : Rd l yX6_about cX6_about 2 (some FieldType.int) 3 [.ref x, vI i] D cy [(x, .inr (6, [.ref tx, .ref st, .ref sk, .ref hi, .ref sl, .ref fi])), (st, .inr (3, [.ref r, .ref bk, .ref ws, vI wc, vI sp])), (r, .inr (2, [.ref sg, vI n])), (sg, .inl (cy 0, 24, .inl (iA g))), (bk, .inr (0, [.ref la, .ref na, vI nw])), (la, .inl (cy 0, 60, .inl (iA lt))), (na, .inl (cy 1, 10, .inl (iA ln)))] (abt n q nw wc sp i) := by
  refine Rd.of RX6 rfl [(0, .ref x), (1, vI i)] rfl (by decide +kernel) (Nat.le_of_ble_eq_true rfl) ?_
  intro p e s m args below meth c F hr hlocks hK hP ls hl
  have hn0 := hG.1
  have hn1 := hG.2.1
  have hw0 := hB.1
  have hw1 := hB.2.1
  refine lv_iload_n F.1 F.2.1 dX6_about_0 rfl (lv_at hl 1 rfl) ?_
  refine rr_if_lt F (tgt := 10) dX6_about_1 (by decide) ⟨by omega, by omega⟩ (fun c_1 => ?_) (fun c_1 => ?_)
  · exfalso; omega
  · refine lv_iload_n F.1 F.2.1 dX6_about_4 rfl (lv_at hl 1 rfl) ?_
    refine rr_bipush F dX6_about_5 (by decide) ?_
    refine rr_icmp_le F (tgt := 20) dX6_about_7 (by decide) ⟨by omega, by omega⟩ ⟨by omega, by omega⟩ (fun c_7 => ?_) (fun c_7 => ?_)
    · refine lv_iload_n F.1 F.2.1 dX6_about_20 rfl (lv_at hl 1 rfl) ?_
      rcases (show (i < 0 ∨ 7 < i) ∨ i = 0 ∨ i = 1 ∨ i = 2 ∨ i = 3 ∨ i = 4 ∨ i = 5 ∨ i = 6 ∨ i = 7 by omega) with c_21 | c_21 | c_21 | c_21 | c_21 | c_21 | c_21 | c_21 | c_21
      · refine rr_tabOut F (tgt := 154) dX6_about_21 ⟨by omega, by omega⟩ c_21 rfl ?_
        refine lv_aload_n F.1 F.2.1 dX6_about_154 rfl (lv_at hl 0 rfl) ?_
        refine gf6_1 F hK hP 0 rfl tw158 dX6_about_155 ?_
        refine gf3_0N F hK hP 1 rfl tn118 dX6_about_158 ?_
        refine rr_rdV (rest := []) F hK (c_X2_isAsReadBackwards l D cy r sg n g q (by first | assumption | omega | exact ⟨by omega, by omega⟩)) (hP.sub [2, 3] rfl) sf_X2_isAsReadBackwards tw393 2 rfl rfl ⟨Nat.le_of_ble_eq_true rfl, Nat.le_of_ble_eq_true rfl⟩ hl rfl (Nat.le_of_ble_eq_true rfl) dX6_about_161 ⟨Nat.zero_le _, Nat.zero_le _⟩ ?_
        refine rr_ifP_eq F (tgt := 171) dX6_about_164 (by decide) (fun c_164 => ?_) (fun c_164 => ?_)
        · refine rr_iconst F dX6_about_171 ?_
          exact rr_iret F hr hlocks dX6_about_172 (by unfold abt; rw [if_neg (by omega), if_neg (by omega), if_neg (by omega), if_neg (by omega), if_neg (by omega), if_neg (by omega), if_neg (by omega), if_neg (by omega)]; first | rw [pB_t (by assumption)]; rfl | rw [pB_f (by assumption)]; rfl)
        · refine rr_iconst F dX6_about_167 ?_
          refine lv_goto (tgt := 172) F.1 F.2.1 dX6_about_168 (by decide) ?_
          exact rr_iret F hr hlocks dX6_about_172 (by unfold abt; rw [if_neg (by omega), if_neg (by omega), if_neg (by omega), if_neg (by omega), if_neg (by omega), if_neg (by omega), if_neg (by omega), if_neg (by omega)]; first | rw [pB_t (by assumption)]; rfl | rw [pB_f (by assumption)]; rfl)
      · refine rr_tabIn F (tgt := 68) 0 dX6_about_21 ⟨by omega, by omega⟩ (by omega) (by omega) rfl rfl ?_
        refine lv_aload_n F.1 F.2.1 dX6_about_68 rfl (lv_at hl 0 rfl) ?_
        refine gf6_1 F hK hP 0 rfl tw158 dX6_about_69 ?_
        refine gf3_0N F hK hP 1 rfl tn118 dX6_about_72 ?_
        refine gf2_1N F hK hP 2 rfl tn59 dX6_about_75 ?_
        exact rr_iret F hr hlocks dX6_about_78 (by unfold abt; rw [if_pos (by omega)])
      · refine rr_tabIn F (tgt := 79) 1 dX6_about_21 ⟨by omega, by omega⟩ (by omega) (by omega) rfl rfl ?_
        refine lv_aload_n F.1 F.2.1 dX6_about_79 rfl (lv_at hl 0 rfl) ?_
        refine gf6_1 F hK hP 0 rfl tw158 dX6_about_80 ?_
        refine gf3_0N F hK hP 1 rfl tn118 dX6_about_83 ?_
        refine rr_bipush F dX6_about_86 (by decide) ?_
        refine rr_rdV (rest := []) F hK (c_X2_countOf l D cy r sg n g q 46 (by first | assumption | omega | exact ⟨by omega, by omega⟩) (by first | assumption | omega | exact ⟨by omega, by omega⟩)) (hP.sub [2, 3] rfl) sf_X2_countOf tw372 2 rfl rfl ⟨Nat.le_of_ble_eq_true rfl, Nat.le_of_ble_eq_true rfl⟩ hl rfl (Nat.le_of_ble_eq_true rfl) dX6_about_88 ⟨Nat.zero_le _, Nat.zero_le _⟩ ?_
        exact rr_iret F hr hlocks dX6_about_91 (by unfold abt; rw [if_neg (by omega), if_pos (by omega)]; exact cnt_congr (fun j y z => by have := hG.at y z; rw [this.1]; exact sc_0 this.2.1))
      · refine rr_tabIn F (tgt := 92) 2 dX6_about_21 ⟨by omega, by omega⟩ (by omega) (by omega) rfl rfl ?_
        refine lv_aload_n F.1 F.2.1 dX6_about_92 rfl (lv_at hl 0 rfl) ?_
        refine gf6_1 F hK hP 0 rfl tw158 dX6_about_93 ?_
        refine gf3_0N F hK hP 1 rfl tn118 dX6_about_96 ?_
        refine rr_bipush F dX6_about_99 (by decide) ?_
        refine rr_rdV (rest := []) F hK (c_X2_countOf l D cy r sg n g q 63 (by first | assumption | omega | exact ⟨by omega, by omega⟩) (by first | assumption | omega | exact ⟨by omega, by omega⟩)) (hP.sub [2, 3] rfl) sf_X2_countOf tw372 2 rfl rfl ⟨Nat.le_of_ble_eq_true rfl, Nat.le_of_ble_eq_true rfl⟩ hl rfl (Nat.le_of_ble_eq_true rfl) dX6_about_101 ⟨Nat.zero_le _, Nat.zero_le _⟩ ?_
        exact rr_iret F hr hlocks dX6_about_104 (by unfold abt; rw [if_neg (by omega), if_neg (by omega), if_pos (by omega)]; exact cnt_congr (fun j y z => by have := hG.at y z; rw [this.1]; exact sc_9 this.2.1))
      · refine rr_tabIn F (tgt := 105) 3 dX6_about_21 ⟨by omega, by omega⟩ (by omega) (by omega) rfl rfl ?_
        refine lv_aload_n F.1 F.2.1 dX6_about_105 rfl (lv_at hl 0 rfl) ?_
        refine gf6_1 F hK hP 0 rfl tw158 dX6_about_106 ?_
        refine gf3_1N F hK hP 1 rfl tn120 dX6_about_109 ?_
        refine gf0_2N F hK hP 4 rfl tn76 dX6_about_112 ?_
        exact rr_iret F hr hlocks dX6_about_115 (by unfold abt bg1; (repeat' (first | rfl | split)) <;> omega)
      · refine rr_tabIn F (tgt := 116) 4 dX6_about_21 ⟨by omega, by omega⟩ (by omega) (by omega) rfl rfl ?_
        refine lv_aload_n F.1 F.2.1 dX6_about_116 rfl (lv_at hl 0 rfl) ?_
        refine gf6_1 F hK hP 0 rfl tw158 dX6_about_117 ?_
        refine gf3_3N F hK hP 1 rfl tn124 dX6_about_120 ?_
        exact rr_iret F hr hlocks dX6_about_123 (by unfold abt bg1; (repeat' (first | rfl | split)) <;> omega)
      · refine rr_tabIn F (tgt := 124) 5 dX6_about_21 ⟨by omega, by omega⟩ (by omega) (by omega) rfl rfl ?_
        refine lv_aload_n F.1 F.2.1 dX6_about_124 rfl (lv_at hl 0 rfl) ?_
        refine gf6_1 F hK hP 0 rfl tw158 dX6_about_125 ?_
        refine gf3_4N F hK hP 1 rfl tn126 dX6_about_128 ?_
        exact rr_iret F hr hlocks dX6_about_131 (by unfold abt bg1; (repeat' (first | rfl | split)) <;> omega)
      · refine rr_tabIn F (tgt := 132) 6 dX6_about_21 ⟨by omega, by omega⟩ (by omega) (by omega) rfl rfl ?_
        refine lv_aload_n F.1 F.2.1 dX6_about_132 rfl (lv_at hl 0 rfl) ?_
        refine gf6_1 F hK hP 0 rfl tw158 dX6_about_133 ?_
        refine gf3_0N F hK hP 1 rfl tn118 dX6_about_136 ?_
        refine rr_rdV (rest := []) F hK (c_X2_beginning l D cy r sg n g q (by first | assumption | omega | exact ⟨by omega, by omega⟩)) (hP.sub [2, 3] rfl) sf_X2_beginning tw376 2 rfl rfl ⟨Nat.le_of_ble_eq_true rfl, Nat.le_of_ble_eq_true rfl⟩ hl rfl (Nat.le_of_ble_eq_true rfl) dX6_about_139 ⟨Nat.zero_le _, Nat.zero_le _⟩ ?_
        exact rr_iret F hr hlocks dX6_about_142 (by unfold abt bg1; (repeat' (first | rfl | split)) <;> omega)
      · refine rr_tabIn F (tgt := 143) 7 dX6_about_21 ⟨by omega, by omega⟩ (by omega) (by omega) rfl rfl ?_
        refine lv_aload_n F.1 F.2.1 dX6_about_143 rfl (lv_at hl 0 rfl) ?_
        refine gf6_1 F hK hP 0 rfl tw158 dX6_about_144 ?_
        refine gf3_0N F hK hP 1 rfl tn118 dX6_about_147 ?_
        refine rr_rdV (rest := []) F hK (c_X2_period l D cy r sg n g q (by first | assumption | omega | exact ⟨by omega, by omega⟩)) (hP.sub [2, 3] rfl) sf_X2_period tw385 2 rfl rfl ⟨Nat.le_of_ble_eq_true rfl, Nat.le_of_ble_eq_true rfl⟩ hl rfl (Nat.le_of_ble_eq_true rfl) dX6_about_150 ⟨Nat.zero_le _, Nat.zero_le _⟩ ?_
        exact rr_iret F hr hlocks dX6_about_153 (by unfold abt bg1; (repeat' (first | rfl | split)) <;> omega)
    · exfalso; omega
set_option maxRecDepth 100000 in
set_option maxHeartbeats 4000000 in
theorem c_X6_at (l : Launch) (D : va_G) (cy : Nat → ClassId) (x tx sk hi sl fi : Nat) (st ws : Nat) (wc sp : Int) (r sg : Nat) (n : Int) (g q : Int → Int) (bk la na : Nat) (nw : Int) (lt ln : Int → Int) (bl : Int → Int) (bc : Int → Int → Int) (i : Int) (hG : RG n g q) (hB : BK nw lt ln bl bc) (h1 : 0 ≤ i ∧ i < n) : Rd l yX6_at cX6_at 2 (some FieldType.int) 1 [.ref x, vI i] D cy [(x, .inr (6, [.ref tx, .ref st, .ref sk, .ref hi, .ref sl, .ref fi])), (st, .inr (3, [.ref r, .ref bk, .ref ws, vI wc, vI sp])), (r, .inr (2, [.ref sg, vI n])), (sg, .inl (cy 0, 24, .inl (iA g))), (bk, .inr (0, [.ref la, .ref na, vI nw])), (la, .inl (cy 0, 60, .inl (iA lt))), (na, .inl (cy 1, 10, .inl (iA ln)))] (sc (q i)) := by
  refine Rd.of RX6 rfl [(0, .ref x), (1, vI i)] rfl (by decide +kernel) (Nat.le_of_ble_eq_true rfl) ?_
  intro p e s m args below meth c F hr hlocks hK hP ls hl
  have hn0 := hG.1
  have hn1 := hG.2.1
  have hw0 := hB.1
  have hw1 := hB.2.1
  refine lv_aload_n F.1 F.2.1 dX6_at_0 rfl (lv_at hl 0 rfl) ?_
  refine gf6_1 F hK hP 0 rfl tw158 dX6_at_1 ?_
  refine gf3_0N F hK hP 1 rfl tn118 dX6_at_4 ?_
  refine lv_iload_n F.1 F.2.1 dX6_at_7 rfl (lv_at hl 1 rfl) ?_
  refine rr_rdV (rest := []) F hK (c_X2_hasPlace l D cy r sg n g q i (by first | assumption | omega | exact ⟨by omega, by omega⟩) (by first | assumption | omega | exact ⟨by omega, by omega⟩)) (hP.sub [2, 3] rfl) sf_X2_hasPlace tw405 2 rfl rfl ⟨Nat.le_of_ble_eq_true rfl, Nat.le_of_ble_eq_true rfl⟩ hl rfl (Nat.le_of_ble_eq_true rfl) dX6_at_8 ⟨Nat.zero_le _, Nat.zero_le _⟩ ?_
  refine rr_ifP_ne F (tgt := 24) dX6_at_11 (by decide) (fun c_11 => ?_) (fun c_11 => ?_)
  · refine lv_aload_n F.1 F.2.1 dX6_at_24 rfl (lv_at hl 0 rfl) ?_
    refine gf6_1 F hK hP 0 rfl tw158 dX6_at_25 ?_
    refine gf3_0N F hK hP 1 rfl tn118 dX6_at_28 ?_
    refine lv_iload_n F.1 F.2.1 dX6_at_31 rfl (lv_at hl 1 rfl) ?_
    refine rr_rdV (rest := []) F hK (c_X2_signAt l D cy r sg n g q i (by first | assumption | omega | exact ⟨by omega, by omega⟩) (by first | assumption | omega | exact ⟨by omega, by omega⟩) (by first | assumption | omega | exact ⟨by omega, by omega⟩)) (hP.sub [2, 3] rfl) sf_X2_signAt tw425 2 rfl rfl ⟨Nat.le_of_ble_eq_true rfl, Nat.le_of_ble_eq_true rfl⟩ hl rfl (Nat.le_of_ble_eq_true rfl) dX6_at_32 ⟨Nat.zero_le _, Nat.zero_le _⟩ ?_
    have q_32_0 := (RG.at hG (j := i) (by first | assumption | omega) (by first | assumption | omega))
    exact rr_iret F hr hlocks dX6_at_35 (by first | rfl | omega)
  · exfalso; omega
set_option maxRecDepth 100000 in
set_option maxHeartbeats 4000000 in
theorem c_X6_letter (l : Launch) (D : va_G) (cy : Nat → ClassId) (x tx sk hi sl fi : Nat) (st ws : Nat) (wc sp : Int) (r sg : Nat) (n : Int) (g q : Int → Int) (bk la na : Nat) (nw : Int) (lt ln : Int → Int) (bl : Int → Int) (bc : Int → Int → Int) (w i : Int) (hG : RG n g q) (hB : BK nw lt ln bl bc) (h1 : 0 ≤ w ∧ w < nw) (h2 : 0 ≤ i ∧ i < 2147483648) : Rd l yX6_letter cX6_letter 3 (some FieldType.int) 1 [.ref x, vI w, vI i] D cy [(x, .inr (6, [.ref tx, .ref st, .ref sk, .ref hi, .ref sl, .ref fi])), (st, .inr (3, [.ref r, .ref bk, .ref ws, vI wc, vI sp])), (r, .inr (2, [.ref sg, vI n])), (sg, .inl (cy 0, 24, .inl (iA g))), (bk, .inr (0, [.ref la, .ref na, vI nw])), (la, .inl (cy 0, 60, .inl (iA lt))), (na, .inl (cy 1, 10, .inl (iA ln)))] (if i < bl w then 96 + bc w i else -1) := by
  refine Rd.of RX6 rfl [(0, .ref x), (1, vI w), (2, vI i)] rfl (by decide +kernel) (Nat.le_of_ble_eq_true rfl) ?_
  intro p e s m args below meth c F hr hlocks hK hP ls hl
  have hn0 := hG.1
  have hn1 := hG.2.1
  have hw0 := hB.1
  have hw1 := hB.2.1
  refine lv_aload_n F.1 F.2.1 dX6_letter_0 rfl (lv_at hl 0 rfl) ?_
  refine gf6_1 F hK hP 0 rfl tw158 dX6_letter_1 ?_
  refine gf3_1N F hK hP 1 rfl tn120 dX6_letter_4 ?_
  refine lv_iload_n F.1 F.2.1 dX6_letter_7 rfl (lv_at hl 1 rfl) ?_
  refine rr_rdV (rest := []) F hK (c_X0_hasWord l D cy bk la na nw lt ln bl bc w (by first | assumption | omega | exact ⟨by omega, by omega⟩) (by first | assumption | omega | exact ⟨by omega, by omega⟩)) (hP.sub [4, 5, 6] rfl) sf_X0_hasWord tw433 0 rfl rfl ⟨Nat.le_of_ble_eq_true rfl, Nat.le_of_ble_eq_true rfl⟩ hl rfl (Nat.le_of_ble_eq_true rfl) dX6_letter_8 ⟨Nat.zero_le _, Nat.zero_le _⟩ ?_
  refine rr_ifP_ne F (tgt := 24) dX6_letter_11 (by decide) (fun c_11 => ?_) (fun c_11 => ?_)
  · refine lv_iload_n F.1 F.2.1 dX6_letter_24 rfl (lv_at hl 2 rfl) ?_
    refine rr_if_ge F (tgt := 38) dX6_letter_25 (by decide) ⟨by omega, by omega⟩ (fun c_25 => ?_) (fun c_25 => ?_)
    · refine lv_iload_n F.1 F.2.1 dX6_letter_38 rfl (lv_at hl 2 rfl) ?_
      refine lv_aload_n F.1 F.2.1 dX6_letter_39 rfl (lv_at hl 0 rfl) ?_
      refine gf6_1 F hK hP 0 rfl tw158 dX6_letter_40 ?_
      refine gf3_1N F hK hP 1 rfl tn120 dX6_letter_43 ?_
      refine lv_iload_n F.1 F.2.1 dX6_letter_46 rfl (lv_at hl 1 rfl) ?_
      refine rr_rdV (rest := [vI i]) F hK (c_X0_lengthOf l D cy bk la na nw lt ln bl bc w (by first | assumption | omega | exact ⟨by omega, by omega⟩) (by first | assumption | omega | exact ⟨by omega, by omega⟩) (by first | assumption | omega | exact ⟨by omega, by omega⟩)) (hP.sub [4, 5, 6] rfl) sf_X0_lengthOf tw439 0 rfl rfl ⟨Nat.le_of_ble_eq_true rfl, Nat.le_of_ble_eq_true rfl⟩ hl rfl (Nat.le_of_ble_eq_true rfl) dX6_letter_47 ⟨Nat.zero_le _, Nat.zero_le _⟩ ?_
      have q_47_0 := (hB.at (show 0 ≤ w by first | assumption | omega) (by first | assumption | omega))
      refine rr_icmp_ge F (tgt := 68) dX6_letter_50 (by decide) ⟨by omega, by omega⟩ ⟨by omega, by omega⟩ (fun c_50 => ?_) (fun c_50 => ?_)
      · refine rr_iconst F dX6_letter_68 ?_
        exact rr_iret F hr hlocks dX6_letter_69 (by first | rw [if_pos (by assumption)] | rw [if_neg (by omega)])
      · refine lv_aload_n F.1 F.2.1 dX6_letter_53 rfl (lv_at hl 0 rfl) ?_
        refine gf6_1 F hK hP 0 rfl tw158 dX6_letter_54 ?_
        refine gf3_1N F hK hP 1 rfl tn120 dX6_letter_57 ?_
        refine lv_iload_n F.1 F.2.1 dX6_letter_60 rfl (lv_at hl 1 rfl) ?_
        refine lv_iload_n F.1 F.2.1 dX6_letter_61 rfl (lv_at hl 2 rfl) ?_
        refine rr_rdV (rest := []) F hK (c_X0_letterOf l D cy bk la na nw lt ln bl bc w i (by first | assumption | omega | exact ⟨by omega, by omega⟩) (by first | assumption | omega | exact ⟨by omega, by omega⟩) (by first | assumption | omega | exact ⟨by omega, by omega⟩) (by first | assumption | omega | exact ⟨by omega, by omega⟩) (by first | assumption | omega | exact ⟨by omega, by omega⟩)) (hP.sub [4, 5, 6] rfl) sf_X0_letterOf tw440 0 rfl rfl ⟨Nat.le_of_ble_eq_true rfl, Nat.le_of_ble_eq_true rfl⟩ hl rfl (Nat.le_of_ble_eq_true rfl) dX6_letter_62 ⟨Nat.zero_le _, Nat.zero_le _⟩ ?_
        have q_62_0 := ((hB.at (show 0 ≤ w by first | assumption | omega) (by first | assumption | omega)).2.2 i (by first | assumption | omega) (by first | assumption | omega))
        refine lv_goto (tgt := 69) F.1 F.2.1 dX6_letter_65 (by decide) ?_
        exact rr_iret F hr hlocks dX6_letter_69 (by first | rw [if_pos (by assumption)] | rw [if_neg (by omega)])
    · exfalso; omega
  · exfalso; omega
set_option maxRecDepth 100000 in
set_option maxHeartbeats 4000000 in
theorem c_X6_reading (l : Launch) (D : va_G) (cy : Nat → ClassId) (x tx sk hi sl fi : Nat) (st ws : Nat) (wc sp : Int) (r sg : Nat) (n : Int) (g q : Int → Int) (bk la na : Nat) (nw : Int) (lt ln : Int → Int) (bl : Int → Int) (bc : Int → Int → Int) (d i : Int) (hG : RG n g q) (hB : BK nw lt ln bl bc) (h1 : 0 ≤ d ∧ d ≤ 1) (h2 : 0 ≤ i ∧ i ≤ 3) : Rd l yX6_reading cX6_reading 3 (some FieldType.int) 5 [.ref x, vI d, vI i] D cy [(x, .inr (6, [.ref tx, .ref st, .ref sk, .ref hi, .ref sl, .ref fi])), (st, .inr (3, [.ref r, .ref bk, .ref ws, vI wc, vI sp])), (r, .inr (2, [.ref sg, vI n])), (sg, .inl (cy 0, 24, .inl (iA g))), (bk, .inr (0, [.ref la, .ref na, vI nw])), (la, .inl (cy 0, 60, .inl (iA lt))), (na, .inl (cy 1, 10, .inl (iA ln)))] (rdv n q nw bl bc d i) := by
  refine Rd.of RX6 rfl [(0, .ref x), (1, vI d), (2, vI i)] rfl (by decide +kernel) (Nat.le_of_ble_eq_true rfl) ?_
  intro p e s m args below meth c F hr hlocks hK hP ls hl
  have hn0 := hG.1
  have hn1 := hG.2.1
  have hw0 := hB.1
  have hw1 := hB.2.1
  refine lv_iload_n F.1 F.2.1 dX6_reading_0 rfl (lv_at hl 1 rfl) ?_
  refine rr_rdS (rest := []) F hK (c_X6_isDirection l D cy d (by first | assumption | omega | exact ⟨by omega, by omega⟩)) (hP.sub [] rfl) sf_X6_isDirection tw448 ⟨Nat.le_of_ble_eq_true rfl, Nat.le_of_ble_eq_true rfl⟩ hl rfl (Nat.le_of_ble_eq_true rfl) dX6_reading_1 ⟨Nat.zero_le _, Nat.zero_le _⟩ ?_
  refine rr_ifP_ne F (tgt := 17) dX6_reading_4 (by decide) (fun c_4 => ?_) (fun c_4 => ?_)
  · refine lv_iload_n F.1 F.2.1 dX6_reading_17 rfl (lv_at hl 2 rfl) ?_
    refine rr_if_lt F (tgt := 26) dX6_reading_18 (by decide) ⟨by omega, by omega⟩ (fun c_18 => ?_) (fun c_18 => ?_)
    · exfalso; omega
    · refine lv_iload_n F.1 F.2.1 dX6_reading_21 rfl (lv_at hl 2 rfl) ?_
      refine rr_iconst F dX6_reading_22 ?_
      refine rr_icmp_le F (tgt := 36) dX6_reading_23 (by decide) ⟨by omega, by omega⟩ ⟨by omega, by omega⟩ (fun c_23 => ?_) (fun c_23 => ?_)
      · refine lv_iload_n F.1 F.2.1 dX6_reading_36 rfl (lv_at hl 2 rfl) ?_
        rcases (show (i < 0 ∨ 2 < i) ∨ i = 0 ∨ i = 1 ∨ i = 2 by omega) with c_37 | c_37 | c_37 | c_37
        · refine rr_tabOut F (tgt := 94) dX6_reading_37 ⟨by omega, by omega⟩ c_37 rfl ?_
          refine lv_aload_n F.1 F.2.1 dX6_reading_94 rfl (lv_at hl 0 rfl) ?_
          refine gf6_1 F hK hP 0 rfl tw158 dX6_reading_95 ?_
          refine gf3_0N F hK hP 1 rfl tn118 dX6_reading_98 ?_
          refine lv_iload_n F.1 F.2.1 dX6_reading_101 rfl (lv_at hl 1 rfl) ?_
          refine rr_rdV (rest := []) F hK (c_X2_longestSegment l D cy r sg n g q d (by first | assumption | omega | exact ⟨by omega, by omega⟩) (by first | assumption | omega | exact ⟨by omega, by omega⟩)) (hP.sub [2, 3] rfl) sf_X2_longestSegment tw457 2 rfl rfl ⟨Nat.le_of_ble_eq_true rfl, Nat.le_of_ble_eq_true rfl⟩ hl rfl (Nat.le_of_ble_eq_true rfl) dX6_reading_102 ⟨Nat.zero_le _, Nat.zero_le _⟩ ?_
          exact rr_iret F hr hlocks dX6_reading_105 (by unfold rdv; (repeat' (first | rfl | split)) <;> omega)
        · refine rr_tabIn F (tgt := 64) 0 dX6_reading_37 ⟨by omega, by omega⟩ (by omega) (by omega) rfl rfl ?_
          refine lv_aload_n F.1 F.2.1 dX6_reading_64 rfl (lv_at hl 0 rfl) ?_
          refine gf6_1 F hK hP 0 rfl tw158 dX6_reading_65 ?_
          refine gf3_0N F hK hP 1 rfl tn118 dX6_reading_68 ?_
          refine lv_iload_n F.1 F.2.1 dX6_reading_71 rfl (lv_at hl 1 rfl) ?_
          refine rr_rdV (rest := []) F hK (c_X2_countSegments l D cy r sg n g q d (by first | assumption | omega | exact ⟨by omega, by omega⟩) (by first | assumption | omega | exact ⟨by omega, by omega⟩)) (hP.sub [2, 3] rfl) sf_X2_countSegments tw452 2 rfl rfl ⟨Nat.le_of_ble_eq_true rfl, Nat.le_of_ble_eq_true rfl⟩ hl rfl (Nat.le_of_ble_eq_true rfl) dX6_reading_72 ⟨Nat.zero_le _, Nat.zero_le _⟩ ?_
          exact rr_iret F hr hlocks dX6_reading_75 (by unfold rdv; (repeat' (first | rfl | split)) <;> omega)
        · refine rr_tabIn F (tgt := 76) 1 dX6_reading_37 ⟨by omega, by omega⟩ (by omega) (by omega) rfl rfl ?_
          refine lv_aload_n F.1 F.2.1 dX6_reading_76 rfl (lv_at hl 0 rfl) ?_
          refine gf6_1 F hK hP 0 rfl tw158 dX6_reading_77 ?_
          refine lv_iload_n F.1 F.2.1 dX6_reading_80 rfl (lv_at hl 1 rfl) ?_
          refine rr_rdV (rest := []) F hK (c_X3_sense l D cy st ws wc sp r sg n g q bk la na nw lt ln bl bc d (by first | assumption | omega | exact ⟨by omega, by omega⟩) (by first | assumption | omega | exact ⟨by omega, by omega⟩) (by first | assumption | omega | exact ⟨by omega, by omega⟩)) (hP.sub [1, 2, 3, 4, 5, 6] rfl) sf_X3_sense tw203 3 rfl rfl ⟨Nat.le_of_ble_eq_true rfl, Nat.le_of_ble_eq_true rfl⟩ hl rfl (Nat.le_of_ble_eq_true rfl) dX6_reading_81 ⟨Nat.zero_le _, Nat.zero_le _⟩ ?_
          have q_81_0 := (show 0 ≤ sns n q nw bl bc d ∧ sns n q nw bl bc d ≤ n from cnt_rng _ (by omega))
          exact rr_iret F hr hlocks dX6_reading_84 (by unfold rdv; (repeat' (first | rfl | split)) <;> omega)
        · refine rr_tabIn F (tgt := 85) 2 dX6_reading_37 ⟨by omega, by omega⟩ (by omega) (by omega) rfl rfl ?_
          refine lv_aload_n F.1 F.2.1 dX6_reading_85 rfl (lv_at hl 0 rfl) ?_
          refine gf6_1 F hK hP 0 rfl tw158 dX6_reading_86 ?_
          refine lv_iload_n F.1 F.2.1 dX6_reading_89 rfl (lv_at hl 1 rfl) ?_
          refine rr_rdV (rest := []) F hK (c_X3_readings l D cy st ws wc sp r sg n g q bk la na nw lt ln bl bc d (by first | assumption | omega | exact ⟨by omega, by omega⟩) (by first | assumption | omega | exact ⟨by omega, by omega⟩) (by first | assumption | omega | exact ⟨by omega, by omega⟩)) (hP.sub [1, 2, 3, 4, 5, 6] rfl) sf_X3_readings tw250 3 rfl rfl ⟨Nat.le_of_ble_eq_true rfl, Nat.le_of_ble_eq_true rfl⟩ hl rfl (Nat.le_of_ble_eq_true rfl) dX6_reading_90 ⟨Nat.zero_le _, Nat.zero_le _⟩ ?_
          have q_90_0 := (show 0 ≤ rdg n q nw bl bc d ∧ rdg n q nw bl bc d ≤ 1000000 by have pf := prd_fit (q := q) (bl := bl) (bc := bc) (d := d) (n := n) (nw := nw) ⟨by omega, by omega⟩ ⟨by omega, by omega⟩ (show 0 ≤ n by omega) (Int.le_refl n); unfold rdg; split <;> (try split) <;> omega)
          exact rr_iret F hr hlocks dX6_reading_93 (by unfold rdv; (repeat' (first | rfl | split)) <;> omega)
      · exfalso; omega
  · exfalso; omega
set_option maxRecDepth 100000 in
set_option maxHeartbeats 4000000 in
theorem c_X6_segment (l : Launch) (D : va_G) (cy : Nat → ClassId) (x tx sk hi sl fi : Nat) (st ws : Nat) (wc sp : Int) (r sg : Nat) (n : Int) (g q : Int → Int) (bk la na : Nat) (nw : Int) (lt ln : Int → Int) (bl : Int → Int) (bc : Int → Int → Int) (d s0 i : Int) (hG : RG n g q) (hB : BK nw lt ln bl bc) (h1 : 0 ≤ d ∧ d ≤ 1) (h2 : 0 ≤ s0 ∧ s0 < cnt (fun p => 0 < seg n q p d) n) (h3 : 0 ≤ i ∧ i ≤ 4) : Rd l yX6_segment cX6_segment 5 (some FieldType.int) 4 [.ref x, vI d, vI s0, vI i] D cy [(x, .inr (6, [.ref tx, .ref st, .ref sk, .ref hi, .ref sl, .ref fi])), (st, .inr (3, [.ref r, .ref bk, .ref ws, vI wc, vI sp])), (r, .inr (2, [.ref sg, vI n])), (sg, .inl (cy 0, 24, .inl (iA g))), (bk, .inr (0, [.ref la, .ref na, vI nw])), (la, .inl (cy 0, 60, .inl (iA lt))), (na, .inl (cy 1, 10, .inl (iA ln)))] (sgv n q nw bl bc (dva n q d s0) d i) := by
  refine Rd.of RX6 rfl [(0, .ref x), (1, vI d), (2, vI s0), (3, vI i)] rfl (by decide +kernel) (Nat.le_of_ble_eq_true rfl) ?_
  intro p e s m args below meth c F hr hlocks hK hP ls hl
  have hn0 := hG.1
  have hn1 := hG.2.1
  have hw0 := hB.1
  have hw1 := hB.2.1
  have cr := cnt_rng (fun p => 0 < seg n q p d) (n := n) hn0
  have dv := dva_ok (q := q) hn0 h1 h2
  refine lv_iload_n F.1 F.2.1 dX6_segment_0 rfl (lv_at hl 1 rfl) ?_
  refine rr_rdS (rest := []) F hK (c_X6_isDirection l D cy d (by first | assumption | omega | exact ⟨by omega, by omega⟩)) (hP.sub [] rfl) sf_X6_isDirection tw448 ⟨Nat.le_of_ble_eq_true rfl, Nat.le_of_ble_eq_true rfl⟩ hl rfl (Nat.le_of_ble_eq_true rfl) dX6_segment_1 ⟨Nat.zero_le _, Nat.zero_le _⟩ ?_
  refine rr_ifP_ne F (tgt := 17) dX6_segment_4 (by decide) (fun c_4 => ?_) (fun c_4 => ?_)
  · refine lv_aload_n F.1 F.2.1 dX6_segment_17 rfl (lv_at hl 0 rfl) ?_
    refine gf6_1 F hK hP 0 rfl tw158 dX6_segment_18 ?_
    refine gf3_0N F hK hP 1 rfl tn118 dX6_segment_21 ?_
    refine lv_iload_n F.1 F.2.1 dX6_segment_24 rfl (lv_at hl 1 rfl) ?_
    refine lv_iload_n F.1 F.2.1 dX6_segment_25 rfl (lv_at hl 2 rfl) ?_
    refine rr_rdV (rest := []) F hK (c_X2_dividerAheadOf l D cy r sg n g q d s0 (by first | assumption | omega | exact ⟨by omega, by omega⟩) (by first | assumption | omega | exact ⟨by omega, by omega⟩) (by first | assumption | omega | exact ⟨by omega, by omega⟩)) (hP.sub [2, 3] rfl) sf_X2_dividerAheadOf tw468 2 rfl rfl ⟨Nat.le_of_ble_eq_true rfl, Nat.le_of_ble_eq_true rfl⟩ hl rfl (Nat.le_of_ble_eq_true rfl) dX6_segment_26 ⟨Nat.zero_le _, Nat.zero_le _⟩ ?_
    refine lv_istore (lv' := [(4, vI (dva n q d s0)), (0, .ref x), (1, vI d), (2, vI s0), (3, vI i)]) F.1 F.2.1 dX6_segment_29 hl (by decide) rfl (fun ls hl => ?_)
    refine lv_iload F.1 F.2.1 dX6_segment_31 (lv_at hl 0 rfl) ?_
    refine rr_iconst F dX6_segment_33 ?_
    refine rr_icmp_ne F (tgt := 47) dX6_segment_34 (by decide) ⟨by omega, by omega⟩ ⟨by omega, by omega⟩ (fun c_34 => ?_) (fun c_34 => ?_)
    · refine lv_iload_n F.1 F.2.1 dX6_segment_47 rfl (lv_at hl 4 rfl) ?_
      refine rr_if_lt F (tgt := 56) dX6_segment_48 (by decide) ⟨by omega, by omega⟩ (fun c_48 => ?_) (fun c_48 => ?_)
      · exfalso; omega
      · refine lv_iload_n F.1 F.2.1 dX6_segment_51 rfl (lv_at hl 4 rfl) ?_
        refine rr_iconst F dX6_segment_52 ?_
        refine rr_icmp_le F (tgt := 66) dX6_segment_53 (by decide) ⟨by omega, by omega⟩ ⟨by omega, by omega⟩ (fun c_53 => ?_) (fun c_53 => ?_)
        · refine lv_iload_n F.1 F.2.1 dX6_segment_66 rfl (lv_at hl 4 rfl) ?_
          rcases (show (i < 0 ∨ 3 < i) ∨ i = 0 ∨ i = 1 ∨ i = 2 ∨ i = 3 by omega) with c_67 | c_67 | c_67 | c_67 | c_67
          · refine rr_tabOut F (tgt := 155) dX6_segment_67 ⟨by omega, by omega⟩ c_67 rfl ?_
            refine lv_aload_n F.1 F.2.1 dX6_segment_155 rfl (lv_at hl 1 rfl) ?_
            refine gf6_1 F hK hP 0 rfl tw158 dX6_segment_156 ?_
            refine gf3_0N F hK hP 1 rfl tn118 dX6_segment_159 ?_
            refine lv_iload F.1 F.2.1 dX6_segment_162 (lv_at hl 0 rfl) ?_
            refine lv_iload_n F.1 F.2.1 dX6_segment_164 rfl (lv_at hl 2 rfl) ?_
            refine rr_rdV (rest := []) F hK (c_X2_wornInSegment l D cy r sg n g q (dva n q d s0) d (by first | assumption | omega | exact ⟨by omega, by omega⟩) (by first | assumption | omega | exact ⟨by omega, by omega⟩) (by first | assumption | omega | exact ⟨by omega, by omega⟩)) (hP.sub [2, 3] rfl) sf_X2_wornInSegment tw476 2 rfl rfl ⟨Nat.le_of_ble_eq_true rfl, Nat.le_of_ble_eq_true rfl⟩ hl rfl (Nat.le_of_ble_eq_true rfl) dX6_segment_165 ⟨Nat.zero_le _, Nat.zero_le _⟩ ?_
            exact rr_iret F hr hlocks dX6_segment_168 (by unfold sgv; (repeat' (first | rfl | split)) <;> omega)
          · refine rr_tabIn F (tgt := 96) 0 dX6_segment_67 ⟨by omega, by omega⟩ (by omega) (by omega) rfl rfl ?_
            refine lv_iload F.1 F.2.1 dX6_segment_96 (lv_at hl 0 rfl) ?_
            exact rr_iret F hr hlocks dX6_segment_98 (by unfold sgv; (repeat' (first | rfl | split)) <;> omega)
          · refine rr_tabIn F (tgt := 99) 1 dX6_segment_67 ⟨by omega, by omega⟩ (by omega) (by omega) rfl rfl ?_
            refine lv_aload_n F.1 F.2.1 dX6_segment_99 rfl (lv_at hl 1 rfl) ?_
            refine gf6_1 F hK hP 0 rfl tw158 dX6_segment_100 ?_
            refine gf3_0N F hK hP 1 rfl tn118 dX6_segment_103 ?_
            refine lv_iload F.1 F.2.1 dX6_segment_106 (lv_at hl 0 rfl) ?_
            refine lv_iload_n F.1 F.2.1 dX6_segment_108 rfl (lv_at hl 2 rfl) ?_
            refine rr_rdV (rest := []) F hK (c_X2_segmentLength l D cy r sg n g q (dva n q d s0) d (by first | assumption | omega | exact ⟨by omega, by omega⟩) (by first | assumption | omega | exact ⟨by omega, by omega⟩) (by first | assumption | omega | exact ⟨by omega, by omega⟩)) (hP.sub [2, 3] rfl) sf_X2_segmentLength tw473 2 rfl rfl ⟨Nat.le_of_ble_eq_true rfl, Nat.le_of_ble_eq_true rfl⟩ hl rfl (Nat.le_of_ble_eq_true rfl) dX6_segment_109 ⟨Nat.zero_le _, Nat.zero_le _⟩ ?_
            have q_109_0 := (seg_rng (n := n) (by omega) q (dva n q d s0) d)
            exact rr_iret F hr hlocks dX6_segment_112 (by unfold sgv; (repeat' (first | rfl | split)) <;> omega)
          · refine rr_tabIn F (tgt := 113) 2 dX6_segment_67 ⟨by omega, by omega⟩ (by omega) (by omega) rfl rfl ?_
            refine lv_aload_n F.1 F.2.1 dX6_segment_113 rfl (lv_at hl 1 rfl) ?_
            refine gf6_1 F hK hP 0 rfl tw158 dX6_segment_114 ?_
            refine gf3_1N F hK hP 1 rfl tn120 dX6_segment_117 ?_
            refine lv_aload_n F.1 F.2.1 dX6_segment_120 rfl (lv_at hl 1 rfl) ?_
            refine gf6_1 F hK hP 0 rfl tw158 dX6_segment_121 ?_
            refine gf3_0N F hK hP 1 rfl tn118 dX6_segment_124 ?_
            refine lv_iload F.1 F.2.1 dX6_segment_127 (lv_at hl 0 rfl) ?_
            refine lv_iload_n F.1 F.2.1 dX6_segment_129 rfl (lv_at hl 2 rfl) ?_
            refine rr_rdV (rest := []) F hK (c_X0_countFitting l D cy bk la na nw lt ln bl bc r sg n g q (dva n q d s0) d (by first | assumption | omega | exact ⟨by omega, by omega⟩) (by first | assumption | omega | exact ⟨by omega, by omega⟩) (by first | assumption | omega | exact ⟨by omega, by omega⟩) (by first | assumption | omega | exact ⟨by omega, by omega⟩)) (hP.sub [4, 5, 6, 2, 3] rfl) sf_X0_countFitting tw474 0 rfl rfl ⟨Nat.le_of_ble_eq_true rfl, Nat.le_of_ble_eq_true rfl⟩ hl rfl (Nat.le_of_ble_eq_true rfl) dX6_segment_130 ⟨Nat.zero_le _, Nat.zero_le _⟩ ?_
            have q_130_0 := (cnt_rng (fun u_w => ft n q (bl u_w) (bc u_w) (dva n q d s0) d) (n := nw) (by omega))
            exact rr_iret F hr hlocks dX6_segment_133 (by unfold sgv; (repeat' (first | rfl | split)) <;> omega)
          · refine rr_tabIn F (tgt := 134) 3 dX6_segment_67 ⟨by omega, by omega⟩ (by omega) (by omega) rfl rfl ?_
            refine lv_aload_n F.1 F.2.1 dX6_segment_134 rfl (lv_at hl 1 rfl) ?_
            refine gf6_1 F hK hP 0 rfl tw158 dX6_segment_135 ?_
            refine gf3_1N F hK hP 1 rfl tn120 dX6_segment_138 ?_
            refine lv_aload_n F.1 F.2.1 dX6_segment_141 rfl (lv_at hl 1 rfl) ?_
            refine gf6_1 F hK hP 0 rfl tw158 dX6_segment_142 ?_
            refine gf3_0N F hK hP 1 rfl tn118 dX6_segment_145 ?_
            refine lv_iload F.1 F.2.1 dX6_segment_148 (lv_at hl 0 rfl) ?_
            refine lv_iload_n F.1 F.2.1 dX6_segment_150 rfl (lv_at hl 2 rfl) ?_
            refine rr_rdV (rest := []) F hK (c_X0_lowestFitting l D cy bk la na nw lt ln bl bc r sg n g q (dva n q d s0) d (by first | assumption | omega | exact ⟨by omega, by omega⟩) (by first | assumption | omega | exact ⟨by omega, by omega⟩) (by first | assumption | omega | exact ⟨by omega, by omega⟩) (by first | assumption | omega | exact ⟨by omega, by omega⟩)) (hP.sub [4, 5, 6, 2, 3] rfl) sf_X0_lowestFitting tw475 0 rfl rfl ⟨Nat.le_of_ble_eq_true rfl, Nat.le_of_ble_eq_true rfl⟩ hl rfl (Nat.le_of_ble_eq_true rfl) dX6_segment_151 ⟨Nat.zero_le _, Nat.zero_le _⟩ ?_
            have q_151_0 := (low_rng (fun u_w => ft n q (bl u_w) (bc u_w) (dva n q d s0) d) (n := nw) (by omega))
            exact rr_iret F hr hlocks dX6_segment_154 (by unfold sgv; (repeat' (first | rfl | split)) <;> omega)
        · exfalso; omega
    · exfalso; omega
  · exfalso; omega
set_option maxRecDepth 100000 in
set_option maxHeartbeats 4000000 in
theorem c_X6_find (l : Launch) (D : va_G) (cy : Nat → ClassId) (x tx sk hi sl fi : Nat) (st ws : Nat) (wc sp : Int) (r sg : Nat) (n : Int) (g q : Int → Int) (bk la na : Nat) (nw : Int) (lt ln : Int → Int) (bl : Int → Int) (bc : Int → Int → Int) (w d kk : Int) (hG : RG n g q) (hB : BK nw lt ln bl bc) (h1 : 0 ≤ w ∧ w < nw) (h2 : 0 ≤ d ∧ d ≤ 1) (h3 : 0 ≤ kk ∧ kk < 2147483648) : Rd l yX6_find cX6_find 4 (some FieldType.int) 3 [.ref x, vI w, vI d, vI kk] D cy [(x, .inr (6, [.ref tx, .ref st, .ref sk, .ref hi, .ref sl, .ref fi])), (st, .inr (3, [.ref r, .ref bk, .ref ws, vI wc, vI sp])), (r, .inr (2, [.ref sg, vI n])), (sg, .inl (cy 0, 24, .inl (iA g))), (bk, .inr (0, [.ref la, .ref na, vI nw])), (la, .inl (cy 0, 60, .inl (iA lt))), (na, .inl (cy 1, 10, .inl (iA ln)))] (kpl (fun j => bl w ≤ n ∧ stn n q (bl w) (bc w) j d) kk n) := by
  refine Rd.of RX6 rfl [(0, .ref x), (1, vI w), (2, vI d), (3, vI kk)] rfl (by decide +kernel) (Nat.le_of_ble_eq_true rfl) ?_
  intro p e s m args below meth c F hr hlocks hK hP ls hl
  have hn0 := hG.1
  have hn1 := hG.2.1
  have hw0 := hB.1
  have hw1 := hB.2.1
  refine lv_aload_n F.1 F.2.1 dX6_find_0 rfl (lv_at hl 0 rfl) ?_
  refine gf6_1 F hK hP 0 rfl tw158 dX6_find_1 ?_
  refine gf3_1N F hK hP 1 rfl tn120 dX6_find_4 ?_
  refine lv_iload_n F.1 F.2.1 dX6_find_7 rfl (lv_at hl 1 rfl) ?_
  refine rr_rdV (rest := []) F hK (c_X0_hasWord l D cy bk la na nw lt ln bl bc w (by first | assumption | omega | exact ⟨by omega, by omega⟩) (by first | assumption | omega | exact ⟨by omega, by omega⟩)) (hP.sub [4, 5, 6] rfl) sf_X0_hasWord tw433 0 rfl rfl ⟨Nat.le_of_ble_eq_true rfl, Nat.le_of_ble_eq_true rfl⟩ hl rfl (Nat.le_of_ble_eq_true rfl) dX6_find_8 ⟨Nat.zero_le _, Nat.zero_le _⟩ ?_
  refine rr_ifP_eq F (tgt := 21) dX6_find_11 (by decide) (fun c_11 => ?_) (fun c_11 => ?_)
  · exfalso; omega
  · refine lv_iload_n F.1 F.2.1 dX6_find_14 rfl (lv_at hl 2 rfl) ?_
    refine rr_rdS (rest := []) F hK (c_X6_isDirection l D cy d (by first | assumption | omega | exact ⟨by omega, by omega⟩)) (hP.sub [] rfl) sf_X6_isDirection tw448 ⟨Nat.le_of_ble_eq_true rfl, Nat.le_of_ble_eq_true rfl⟩ hl rfl (Nat.le_of_ble_eq_true rfl) dX6_find_15 ⟨Nat.zero_le _, Nat.zero_le _⟩ ?_
    refine rr_ifP_ne F (tgt := 31) dX6_find_18 (by decide) (fun c_18 => ?_) (fun c_18 => ?_)
    · refine lv_iload_n F.1 F.2.1 dX6_find_31 rfl (lv_at hl 3 rfl) ?_
      refine rr_if_ge F (tgt := 45) dX6_find_32 (by decide) ⟨by omega, by omega⟩ (fun c_32 => ?_) (fun c_32 => ?_)
      · refine lv_aload_n F.1 F.2.1 dX6_find_45 rfl (lv_at hl 0 rfl) ?_
        refine gf6_1 F hK hP 0 rfl tw158 dX6_find_46 ?_
        refine gf3_1N F hK hP 1 rfl tn120 dX6_find_49 ?_
        refine lv_iload_n F.1 F.2.1 dX6_find_52 rfl (lv_at hl 1 rfl) ?_
        refine lv_aload_n F.1 F.2.1 dX6_find_53 rfl (lv_at hl 0 rfl) ?_
        refine gf6_1 F hK hP 0 rfl tw158 dX6_find_54 ?_
        refine gf3_0N F hK hP 1 rfl tn118 dX6_find_57 ?_
        refine lv_iload_n F.1 F.2.1 dX6_find_60 rfl (lv_at hl 2 rfl) ?_
        refine lv_iload_n F.1 F.2.1 dX6_find_61 rfl (lv_at hl 3 rfl) ?_
        refine rr_rdV (rest := []) F hK (c_X0_placeOf l D cy bk la na nw lt ln bl bc r sg n g q w d kk (by first | assumption | omega | exact ⟨by omega, by omega⟩) (by first | assumption | omega | exact ⟨by omega, by omega⟩) (by first | assumption | omega | exact ⟨by omega, by omega⟩) (by first | assumption | omega | exact ⟨by omega, by omega⟩) (by first | assumption | omega | exact ⟨by omega, by omega⟩) (by first | assumption | omega | exact ⟨by omega, by omega⟩)) (hP.sub [4, 5, 6, 2, 3] rfl) sf_X0_placeOf tw489 0 rfl rfl ⟨Nat.le_of_ble_eq_true rfl, Nat.le_of_ble_eq_true rfl⟩ hl rfl (Nat.le_of_ble_eq_true rfl) dX6_find_62 ⟨Nat.zero_le _, Nat.zero_le _⟩ ?_
        exact rr_iret F hr hlocks dX6_find_65 (by first | rfl | omega)
      · exfalso; omega
    · exfalso; omega
set_option maxRecDepth 100000 in
set_option maxHeartbeats 4000000 in
theorem c_X6_canBe (l : Launch) (D : va_G) (cy : Nat → ClassId) (x tx sk hi sl fi : Nat) (st ws : Nat) (wc sp : Int) (r sg : Nat) (n : Int) (g q : Int → Int) (bk la na : Nat) (nw : Int) (lt ln : Int → Int) (bl : Int → Int) (bc : Int → Int → Int) (p0 d : Int) (hG : RG n g q) (hB : BK nw lt ln bl bc) (h1 : 0 ≤ p0 ∧ p0 < n) (h2 : 0 ≤ d ∧ d ≤ 1) : Rd l yX6_canBe cX6_canBe 5 (some FieldType.int) 4 [.ref x, vI p0, vI d] D cy [(x, .inr (6, [.ref tx, .ref st, .ref sk, .ref hi, .ref sl, .ref fi])), (st, .inr (3, [.ref r, .ref bk, .ref ws, vI wc, vI sp])), (r, .inr (2, [.ref sg, vI n])), (sg, .inl (cy 0, 24, .inl (iA g))), (bk, .inr (0, [.ref la, .ref na, vI nw])), (la, .inl (cy 0, 60, .inl (iA lt))), (na, .inl (cy 1, 10, .inl (iA ln)))] (cbe n q nw bl bc p0 d) := by
  refine Rd.of RX6 rfl [(0, .ref x), (1, vI p0), (2, vI d)] rfl (by decide +kernel) (Nat.le_of_ble_eq_true rfl) ?_
  intro p e s m args below meth c F hr hlocks hK hP ls hl
  have hn0 := hG.1
  have hn1 := hG.2.1
  have hw0 := hB.1
  have hw1 := hB.2.1
  have dr := dfd_rng (n := n) (q := q) (p := p0) (d := d) hn0
  refine lv_aload_n F.1 F.2.1 dX6_canBe_0 rfl (lv_at hl 0 rfl) ?_
  refine gf6_1 F hK hP 0 rfl tw158 dX6_canBe_1 ?_
  refine gf3_0N F hK hP 1 rfl tn118 dX6_canBe_4 ?_
  refine lv_iload_n F.1 F.2.1 dX6_canBe_7 rfl (lv_at hl 1 rfl) ?_
  refine rr_rdV (rest := []) F hK (c_X2_hasPlace l D cy r sg n g q p0 (by first | assumption | omega | exact ⟨by omega, by omega⟩) (by first | assumption | omega | exact ⟨by omega, by omega⟩)) (hP.sub [2, 3] rfl) sf_X2_hasPlace tw405 2 rfl rfl ⟨Nat.le_of_ble_eq_true rfl, Nat.le_of_ble_eq_true rfl⟩ hl rfl (Nat.le_of_ble_eq_true rfl) dX6_canBe_8 ⟨Nat.zero_le _, Nat.zero_le _⟩ ?_
  refine rr_ifP_eq F (tgt := 21) dX6_canBe_11 (by decide) (fun c_11 => ?_) (fun c_11 => ?_)
  · exfalso; omega
  · refine lv_iload_n F.1 F.2.1 dX6_canBe_14 rfl (lv_at hl 2 rfl) ?_
    refine rr_rdS (rest := []) F hK (c_X6_isDirection l D cy d (by first | assumption | omega | exact ⟨by omega, by omega⟩)) (hP.sub [] rfl) sf_X6_isDirection tw448 ⟨Nat.le_of_ble_eq_true rfl, Nat.le_of_ble_eq_true rfl⟩ hl rfl (Nat.le_of_ble_eq_true rfl) dX6_canBe_15 ⟨Nat.zero_le _, Nat.zero_le _⟩ ?_
    refine rr_ifP_ne F (tgt := 31) dX6_canBe_18 (by decide) (fun c_18 => ?_) (fun c_18 => ?_)
    · refine lv_aload_n F.1 F.2.1 dX6_canBe_31 rfl (lv_at hl 0 rfl) ?_
      refine gf6_1 F hK hP 0 rfl tw158 dX6_canBe_32 ?_
      refine gf3_0N F hK hP 1 rfl tn118 dX6_canBe_35 ?_
      refine lv_iload_n F.1 F.2.1 dX6_canBe_38 rfl (lv_at hl 1 rfl) ?_
      refine lv_iload_n F.1 F.2.1 dX6_canBe_39 rfl (lv_at hl 2 rfl) ?_
      refine rr_rdV (rest := []) F hK (c_X2_distanceFromDivider l D cy r sg n g q p0 d (by first | assumption | omega | exact ⟨by omega, by omega⟩) (by first | assumption | omega | exact ⟨by omega, by omega⟩) (by first | assumption | omega | exact ⟨by omega, by omega⟩)) (hP.sub [2, 3] rfl) sf_X2_distanceFromDivider tw810 2 rfl rfl ⟨Nat.le_of_ble_eq_true rfl, Nat.le_of_ble_eq_true rfl⟩ hl rfl (Nat.le_of_ble_eq_true rfl) dX6_canBe_40 ⟨Nat.zero_le _, Nat.zero_le _⟩ ?_
      refine lv_istore_n (lv' := [(3, vI (dfd n q p0 d)), (0, .ref x), (1, vI p0), (2, vI d)]) F.1 F.2.1 dX6_canBe_43 rfl hl (by decide) rfl (fun ls hl => ?_)
      refine lv_iload_n F.1 F.2.1 dX6_canBe_44 rfl (lv_at hl 0 rfl) ?_
      refine rr_if_gt F (tgt := 50) dX6_canBe_45 (by decide) ⟨by omega, by omega⟩ (fun c_45 => ?_) (fun c_45 => ?_)
      · refine lv_aload_n F.1 F.2.1 dX6_canBe_50 rfl (lv_at hl 1 rfl) ?_
        refine gf6_1 F hK hP 0 rfl tw158 dX6_canBe_51 ?_
        refine gf3_0N F hK hP 1 rfl tn118 dX6_canBe_54 ?_
        refine lv_iload_n F.1 F.2.1 dX6_canBe_57 rfl (lv_at hl 2 rfl) ?_
        refine rr_iconst F dX6_canBe_58 ?_
        refine lv_iload_n F.1 F.2.1 dX6_canBe_59 rfl (lv_at hl 3 rfl) ?_
        refine rr_isub F (z := 1 - d) dX6_canBe_60 (by first | rfl | omega) ?_
        refine lv_iload_n F.1 F.2.1 dX6_canBe_61 rfl (lv_at hl 0 rfl) ?_
        refine rr_rdV (rest := []) F hK (c_X2_onward l D cy r sg n g q p0 (1 - d) (dfd n q p0 d) (by first | assumption | omega | exact ⟨by omega, by omega⟩) (by first | assumption | omega | exact ⟨by omega, by omega⟩) (by first | assumption | omega | exact ⟨by omega, by omega⟩) (by first | assumption | omega | exact ⟨by omega, by omega⟩)) (hP.sub [2, 3] rfl) sf_X2_onward tw814 2 rfl rfl ⟨Nat.le_of_ble_eq_true rfl, Nat.le_of_ble_eq_true rfl⟩ hl rfl (Nat.le_of_ble_eq_true rfl) dX6_canBe_62 ⟨Nat.zero_le _, Nat.zero_le _⟩ ?_
        have q_62_0 := (off_rng (n := n) (by omega) p0 (1 - d) (dfd n q p0 d))
        refine lv_istore (lv' := [(4, vI (off n p0 (1 - d) (dfd n q p0 d))), (3, vI (dfd n q p0 d)), (0, .ref x), (1, vI p0), (2, vI d)]) F.1 F.2.1 dX6_canBe_65 hl (by decide) rfl (fun ls hl => ?_)
        refine lv_aload_n F.1 F.2.1 dX6_canBe_67 rfl (lv_at hl 2 rfl) ?_
        refine gf6_1 F hK hP 0 rfl tw158 dX6_canBe_68 ?_
        refine gf3_1N F hK hP 1 rfl tn120 dX6_canBe_71 ?_
        refine lv_aload_n F.1 F.2.1 dX6_canBe_74 rfl (lv_at hl 2 rfl) ?_
        refine gf6_1 F hK hP 0 rfl tw158 dX6_canBe_75 ?_
        refine gf3_0N F hK hP 1 rfl tn118 dX6_canBe_78 ?_
        refine lv_iload F.1 F.2.1 dX6_canBe_81 (lv_at hl 0 rfl) ?_
        refine lv_iload_n F.1 F.2.1 dX6_canBe_83 rfl (lv_at hl 4 rfl) ?_
        refine lv_iload_n F.1 F.2.1 dX6_canBe_84 rfl (lv_at hl 1 rfl) ?_
        refine rr_iconst F dX6_canBe_85 ?_
        refine rr_isub F (z := (dfd n q p0 d) - 1) dX6_canBe_86 (by first | rfl | omega) ?_
        refine rr_rdV (rest := []) F hK (c_X0_lettersFitting l D cy bk la na nw lt ln bl bc r sg n g q (off n p0 (1 - d) (dfd n q p0 d)) d ((dfd n q p0 d) - 1) (by first | assumption | omega | exact ⟨by omega, by omega⟩) (by first | assumption | omega | exact ⟨by omega, by omega⟩) (by first | assumption | omega | exact ⟨by omega, by omega⟩) (by first | assumption | omega | exact ⟨by omega, by omega⟩) (by first | assumption | omega | exact ⟨by omega, by omega⟩)) (hP.sub [4, 5, 6, 2, 3] rfl) sf_X0_lettersFitting tw815 0 rfl rfl ⟨Nat.le_of_ble_eq_true rfl, Nat.le_of_ble_eq_true rfl⟩ hl rfl (Nat.le_of_ble_eq_true rfl) dX6_canBe_87 ⟨Nat.zero_le _, Nat.zero_le _⟩ ?_
        exact rr_iret F hr hlocks dX6_canBe_90 (cbe_y rfl (by omega))
      · refine rr_iconst F dX6_canBe_48 ?_
        exact rr_iret F hr hlocks dX6_canBe_49 (cbe_0 (by assumption))
    · exfalso; omega
set_option maxRecDepth 100000 in
set_option maxHeartbeats 4000000 in
theorem c_X6_bestDirection (l : Launch) (D : va_G) (cy : Nat → ClassId) (x tx sk hi sl fi : Nat) (st ws : Nat) (wc sp : Int) (r sg : Nat) (n : Int) (g q : Int → Int) (bk la na : Nat) (nw : Int) (lt ln : Int → Int) (bl : Int → Int) (bc : Int → Int → Int) (hG : RG n g q) (hB : BK nw lt ln bl bc) : Rd l yX6_bestDirection cX6_bestDirection 3 (some FieldType.int) 5 [.ref x] D cy [(x, .inr (6, [.ref tx, .ref st, .ref sk, .ref hi, .ref sl, .ref fi])), (st, .inr (3, [.ref r, .ref bk, .ref ws, vI wc, vI sp])), (r, .inr (2, [.ref sg, vI n])), (sg, .inl (cy 0, 24, .inl (iA g))), (bk, .inr (0, [.ref la, .ref na, vI nw])), (la, .inl (cy 0, 60, .inl (iA lt))), (na, .inl (cy 1, 10, .inl (iA ln)))] (if sns n q nw bl bc 0 < sns n q nw bl bc 1 ∨ (sns n q nw bl bc 1 = sns n q nw bl bc 0 ∧ rdg n q nw bl bc 0 < rdg n q nw bl bc 1) then 1 else 0) := by
  refine Rd.of RX6 rfl [(0, .ref x)] rfl (by decide +kernel) (Nat.le_of_ble_eq_true rfl) ?_
  intro p e s m args below meth c F hr hlocks hK hP ls hl
  have hn0 := hG.1
  have hn1 := hG.2.1
  have hw0 := hB.1
  have hw1 := hB.2.1
  refine lv_aload_n F.1 F.2.1 dX6_bestDirection_0 rfl (lv_at hl 0 rfl) ?_
  refine gf6_1 F hK hP 0 rfl tw158 dX6_bestDirection_1 ?_
  refine rr_iconst F dX6_bestDirection_4 ?_
  refine rr_rdV (rest := []) F hK (c_X3_sense l D cy st ws wc sp r sg n g q bk la na nw lt ln bl bc 1 (by first | assumption | omega | exact ⟨by omega, by omega⟩) (by first | assumption | omega | exact ⟨by omega, by omega⟩) (by first | assumption | omega | exact ⟨by omega, by omega⟩)) (hP.sub [1, 2, 3, 4, 5, 6] rfl) sf_X3_sense tw203 3 rfl rfl ⟨Nat.le_of_ble_eq_true rfl, Nat.le_of_ble_eq_true rfl⟩ hl rfl (Nat.le_of_ble_eq_true rfl) dX6_bestDirection_5 ⟨Nat.zero_le _, Nat.zero_le _⟩ ?_
  have q_5_0 := (show 0 ≤ sns n q nw bl bc 1 ∧ sns n q nw bl bc 1 ≤ n from cnt_rng _ (by omega))
  refine lv_aload_n F.1 F.2.1 dX6_bestDirection_8 rfl (lv_at hl 0 rfl) ?_
  refine gf6_1 F hK hP 0 rfl tw158 dX6_bestDirection_9 ?_
  refine rr_iconst F dX6_bestDirection_12 ?_
  refine rr_rdV (rest := [vI (sns n q nw bl bc 1)]) F hK (c_X3_sense l D cy st ws wc sp r sg n g q bk la na nw lt ln bl bc 0 (by first | assumption | omega | exact ⟨by omega, by omega⟩) (by first | assumption | omega | exact ⟨by omega, by omega⟩) (by first | assumption | omega | exact ⟨by omega, by omega⟩)) (hP.sub [1, 2, 3, 4, 5, 6] rfl) sf_X3_sense tw203 3 rfl rfl ⟨Nat.le_of_ble_eq_true rfl, Nat.le_of_ble_eq_true rfl⟩ hl rfl (Nat.le_of_ble_eq_true rfl) dX6_bestDirection_13 ⟨Nat.zero_le _, Nat.zero_le _⟩ ?_
  have q_13_0 := (show 0 ≤ sns n q nw bl bc 0 ∧ sns n q nw bl bc 0 ≤ n from cnt_rng _ (by omega))
  refine rr_rdS (rest := []) F hK (c_J6_compare_7cf53 l D cy (sns n q nw bl bc 1) (sns n q nw bl bc 0) (by first | assumption | omega | exact ⟨by omega, by omega⟩) (by first | assumption | omega | exact ⟨by omega, by omega⟩)) (hP.sub [] rfl) sf_J6_compare_7cf53 tw247 ⟨Nat.le_of_ble_eq_true rfl, Nat.le_of_ble_eq_true rfl⟩ hl rfl (Nat.le_of_ble_eq_true rfl) dX6_bestDirection_16 ⟨Nat.zero_le _, Nat.zero_le _⟩ ?_
  have q_16_0 := (lcm_spec (sns n q nw bl bc 1) (sns n q nw bl bc 0))
  refine lv_istore_n (lv' := [(1, vI (lcm (sns n q nw bl bc 1) (sns n q nw bl bc 0))), (0, .ref x)]) F.1 F.2.1 dX6_bestDirection_19 rfl hl (by decide) rfl (fun ls hl => ?_)
  refine lv_aload_n F.1 F.2.1 dX6_bestDirection_20 rfl (lv_at hl 1 rfl) ?_
  refine gf6_1 F hK hP 0 rfl tw158 dX6_bestDirection_21 ?_
  refine rr_iconst F dX6_bestDirection_24 ?_
  refine rr_rdV (rest := []) F hK (c_X3_readings l D cy st ws wc sp r sg n g q bk la na nw lt ln bl bc 1 (by first | assumption | omega | exact ⟨by omega, by omega⟩) (by first | assumption | omega | exact ⟨by omega, by omega⟩) (by first | assumption | omega | exact ⟨by omega, by omega⟩)) (hP.sub [1, 2, 3, 4, 5, 6] rfl) sf_X3_readings tw250 3 rfl rfl ⟨Nat.le_of_ble_eq_true rfl, Nat.le_of_ble_eq_true rfl⟩ hl rfl (Nat.le_of_ble_eq_true rfl) dX6_bestDirection_25 ⟨Nat.zero_le _, Nat.zero_le _⟩ ?_
  have q_25_0 := (show 0 ≤ rdg n q nw bl bc 1 ∧ rdg n q nw bl bc 1 ≤ 1000000 by have pf := prd_fit (q := q) (bl := bl) (bc := bc) (d := 1) (n := n) (nw := nw) ⟨by omega, by omega⟩ ⟨by omega, by omega⟩ (show 0 ≤ n by omega) (Int.le_refl n); unfold rdg; split <;> (try split) <;> omega)
  refine lv_aload_n F.1 F.2.1 dX6_bestDirection_28 rfl (lv_at hl 1 rfl) ?_
  refine gf6_1 F hK hP 0 rfl tw158 dX6_bestDirection_29 ?_
  refine rr_iconst F dX6_bestDirection_32 ?_
  refine rr_rdV (rest := [vI (rdg n q nw bl bc 1)]) F hK (c_X3_readings l D cy st ws wc sp r sg n g q bk la na nw lt ln bl bc 0 (by first | assumption | omega | exact ⟨by omega, by omega⟩) (by first | assumption | omega | exact ⟨by omega, by omega⟩) (by first | assumption | omega | exact ⟨by omega, by omega⟩)) (hP.sub [1, 2, 3, 4, 5, 6] rfl) sf_X3_readings tw250 3 rfl rfl ⟨Nat.le_of_ble_eq_true rfl, Nat.le_of_ble_eq_true rfl⟩ hl rfl (Nat.le_of_ble_eq_true rfl) dX6_bestDirection_33 ⟨Nat.zero_le _, Nat.zero_le _⟩ ?_
  have q_33_0 := (show 0 ≤ rdg n q nw bl bc 0 ∧ rdg n q nw bl bc 0 ≤ 1000000 by have pf := prd_fit (q := q) (bl := bl) (bc := bc) (d := 0) (n := n) (nw := nw) ⟨by omega, by omega⟩ ⟨by omega, by omega⟩ (show 0 ≤ n by omega) (Int.le_refl n); unfold rdg; split <;> (try split) <;> omega)
  refine rr_rdS (rest := []) F hK (c_J6_compare_7cf53 l D cy (rdg n q nw bl bc 1) (rdg n q nw bl bc 0) (by first | assumption | omega | exact ⟨by omega, by omega⟩) (by first | assumption | omega | exact ⟨by omega, by omega⟩)) (hP.sub [] rfl) sf_J6_compare_7cf53 tw247 ⟨Nat.le_of_ble_eq_true rfl, Nat.le_of_ble_eq_true rfl⟩ hl rfl (Nat.le_of_ble_eq_true rfl) dX6_bestDirection_36 ⟨Nat.zero_le _, Nat.zero_le _⟩ ?_
  have q_36_0 := (lcm_spec (rdg n q nw bl bc 1) (rdg n q nw bl bc 0))
  refine lv_istore_n (lv' := [(2, vI (lcm (rdg n q nw bl bc 1) (rdg n q nw bl bc 0))), (1, vI (lcm (sns n q nw bl bc 1) (sns n q nw bl bc 0))), (0, .ref x)]) F.1 F.2.1 dX6_bestDirection_39 rfl hl (by decide) rfl (fun ls hl => ?_)
  refine lv_iload_n F.1 F.2.1 dX6_bestDirection_40 rfl (lv_at hl 1 rfl) ?_
  refine rr_if_gt F (tgt := 52) dX6_bestDirection_41 (by decide) ⟨by omega, by omega⟩ (fun c_41 => ?_) (fun c_41 => ?_)
  · refine rr_iconst F dX6_bestDirection_52 ?_
    refine lv_goto (tgt := 57) F.1 F.2.1 dX6_bestDirection_53 (by decide) ?_
    exact rr_iret F hr hlocks dX6_bestDirection_57 (by first | rw [if_pos (by omega)] | rw [if_neg (by omega)])
  · refine lv_iload_n F.1 F.2.1 dX6_bestDirection_44 rfl (lv_at hl 1 rfl) ?_
    refine rr_if_ne F (tgt := 56) dX6_bestDirection_45 (by decide) ⟨by omega, by omega⟩ (fun c_45 => ?_) (fun c_45 => ?_)
    · refine rr_iconst F dX6_bestDirection_56 ?_
      exact rr_iret F hr hlocks dX6_bestDirection_57 (by first | rw [if_pos (by omega)] | rw [if_neg (by omega)])
    · refine lv_iload_n F.1 F.2.1 dX6_bestDirection_48 rfl (lv_at hl 0 rfl) ?_
      refine rr_if_le F (tgt := 56) dX6_bestDirection_49 (by decide) ⟨by omega, by omega⟩ (fun c_49 => ?_) (fun c_49 => ?_)
      · refine rr_iconst F dX6_bestDirection_56 ?_
        exact rr_iret F hr hlocks dX6_bestDirection_57 (by first | rw [if_pos (by omega)] | rw [if_neg (by omega)])
      · refine rr_iconst F dX6_bestDirection_52 ?_
        refine lv_goto (tgt := 57) F.1 F.2.1 dX6_bestDirection_53 (by decide) ?_
        exact rr_iret F hr hlocks dX6_bestDirection_57 (by first | rw [if_pos (by omega)] | rw [if_neg (by omega)])
set_option maxRecDepth 100000 in
set_option maxHeartbeats 4000000 in
theorem c_X6_walker (l : Launch) (D : va_G) (cy : Nat → ClassId) (x tx sk hi sl fi : Nat) (st ws : Nat) (wk : Int → Nat) (wc sp : Int) (wp wd wq wi we : Int → Int) (r sg : Nat) (n : Int) (g q : Int → Int) (bk la na : Nat) (nw : Int) (lt ln : Int → Int) (bl : Int → Int) (bc : Int → Int → Int) (w i : Int) (hG : RG n g q) (hB : BK nw lt ln bl bc) (hWS : WS n wc wp wd wq wi we) (h1 : 0 ≤ w ∧ w < wc) (h2 : 0 ≤ i ∧ i ≤ 6) : Rd l yX6_walker cX6_walker 3 (some FieldType.int) 5 [.ref x, vI w, vI i] D cy [(x, .inr (6, [.ref tx, .ref st, .ref sk, .ref hi, .ref sl, .ref fi])), (st, .inr (3, [.ref r, .ref bk, .ref ws, vI wc, vI sp])), (r, .inr (2, [.ref sg, vI n])), (sg, .inl (cy 0, 24, .inl (iA g))), (bk, .inr (0, [.ref la, .ref na, vI nw])), (la, .inl (cy 0, 60, .inl (iA lt))), (na, .inl (cy 1, 10, .inl (iA ln))), (ws, .inl (cy 4, 4, .inr (.inr (.inr (.inr (rA wk)))))), (wk 0, .inr (5, [vI (wp 0), vI (wd 0), vI (wq 0), vI (wi 0), vI (we 0)])), (wk 1, .inr (5, [vI (wp 1), vI (wd 1), vI (wq 1), vI (wi 1), vI (we 1)])), (wk 2, .inr (5, [vI (wp 2), vI (wd 2), vI (wq 2), vI (wi 2), vI (we 2)])), (wk 3, .inr (5, [vI (wp 3), vI (wd 3), vI (wq 3), vI (wi 3), vI (we 3)]))] (wkv n q nw bl bc (wp w) (wd w) (wq w) (wi w) (we w) i) := by
  refine Rd.of RX6 rfl [(0, .ref x), (1, vI w), (2, vI i)] rfl (by decide +kernel) (Nat.le_of_ble_eq_true rfl) ?_
  intro p e s m args below meth c F hr hlocks hK hP ls hl
  have hn0 := hG.1
  have hn1 := hG.2.1
  have hw0 := hB.1
  have hw1 := hB.2.1
  have hc0 := hWS.1
  have hc1 := hWS.2.1
  have hW := hWS.2.2 w h1.1 h1.2
  obtain ⟨v1, v2, v3, v4, v5⟩ := id hW
  have v6 := p2_24 hn0 hn1
  refine lv_aload_n F.1 F.2.1 dX6_walker_0 rfl (lv_at hl 0 rfl) ?_
  refine gf6_1 F hK hP 0 rfl tw158 dX6_walker_1 ?_
  refine lv_iload_n F.1 F.2.1 dX6_walker_4 rfl (lv_at hl 1 rfl) ?_
  refine rr_rdV (rest := []) F hK (c_X3_hasWalker l D cy st r bk ws wc sp w (by first | assumption | omega | exact ⟨by omega, by omega⟩) (by first | assumption | omega | exact ⟨by omega, by omega⟩)) (hP.sub [1] rfl) sf_X3_hasWalker tw500 3 rfl rfl ⟨Nat.le_of_ble_eq_true rfl, Nat.le_of_ble_eq_true rfl⟩ hl rfl (Nat.le_of_ble_eq_true rfl) dX6_walker_5 ⟨Nat.zero_le _, Nat.zero_le _⟩ ?_
  refine rr_ifP_ne F (tgt := 21) dX6_walker_8 (by decide) (fun c_8 => ?_) (fun c_8 => ?_)
  · refine lv_iload_n F.1 F.2.1 dX6_walker_21 rfl (lv_at hl 2 rfl) ?_
    refine rr_if_lt F (tgt := 31) dX6_walker_22 (by decide) ⟨by omega, by omega⟩ (fun c_22 => ?_) (fun c_22 => ?_)
    · exfalso; omega
    · refine lv_iload_n F.1 F.2.1 dX6_walker_25 rfl (lv_at hl 2 rfl) ?_
      refine rr_bipush F dX6_walker_26 (by decide) ?_
      refine rr_icmp_le F (tgt := 41) dX6_walker_28 (by decide) ⟨by omega, by omega⟩ ⟨by omega, by omega⟩ (fun c_28 => ?_) (fun c_28 => ?_)
      · refine lv_iload_n F.1 F.2.1 dX6_walker_41 rfl (lv_at hl 2 rfl) ?_
        rcases (show (i < 0 ∨ 5 < i) ∨ i = 0 ∨ i = 1 ∨ i = 2 ∨ i = 3 ∨ i = 4 ∨ i = 5 by omega) with c_42 | c_42 | c_42 | c_42 | c_42 | c_42 | c_42
        · refine rr_tabOut F (tgt := 155) dX6_walker_42 ⟨by omega, by omega⟩ c_42 rfl ?_
          refine lv_aload_n F.1 F.2.1 dX6_walker_155 rfl (lv_at hl 0 rfl) ?_
          refine gf6_1 F hK hP 0 rfl tw158 dX6_walker_156 ?_
          refine lv_iload_n F.1 F.2.1 dX6_walker_159 rfl (lv_at hl 1 rfl) ?_
          refine rr_iconst F dX6_walker_160 ?_
          refine rr_rdV (rest := []) F hK (c_X3_knownBy l D cy st ws wk wc sp wp wd wq wi we r sg n g q bk la na nw lt ln bl bc w 1 (by first | assumption | omega | exact ⟨by omega, by omega⟩) (by first | assumption | omega | exact ⟨by omega, by omega⟩) (by first | assumption | omega | exact ⟨by omega, by omega⟩) (by first | assumption | omega | exact ⟨by omega, by omega⟩) (by first | assumption | omega | exact ⟨by omega, by omega⟩)) (hP.sub [1, 2, 3, 4, 5, 6, 7, 8, 9, 10, 11] rfl) sf_X3_knownBy tw515 3 rfl rfl ⟨Nat.le_of_ble_eq_true rfl, Nat.le_of_ble_eq_true rfl⟩ hl rfl (Nat.le_of_ble_eq_true rfl) dX6_walker_161 ⟨Nat.zero_le _, Nat.zero_le _⟩ ?_
          have q_161_0 := (show 0 ≤ knb n q nw bl bc (wd w) (we w) 1 ∧ knb n q nw bl bc (wd w) (we w) 1 ≤ n from cnt_rng _ (by omega))
          exact rr_iret F hr hlocks dX6_walker_164 (by unfold wkv; (repeat' (first | rfl | split)) <;> omega)
        · refine rr_tabIn F (tgt := 80) 0 dX6_walker_42 ⟨by omega, by omega⟩ (by omega) (by omega) rfl rfl ?_
          refine lv_aload_n F.1 F.2.1 dX6_walker_80 rfl (lv_at hl 0 rfl) ?_
          refine gf6_1 F hK hP 0 rfl tw158 dX6_walker_81 ?_
          refine gf3_2N F hK hP 1 rfl tn122 dX6_walker_84 ?_
          refine lv_iload_n F.1 F.2.1 dX6_walker_87 rfl (lv_at hl 1 rfl) ?_
          refine rr_aald4 F hK hP 7 rfl (by omega) (by omega) (by decide) dX6_walker_88 ?_
          have hP := wk_ext (wk := wk) (fun i => .inr (5, [vI (wp i), vI (wd i), vI (wq i), vI (wi i), vI (we i)])) w hP 8 9 10 11 rfl rfl rfl rfl (by omega)
          have hP : va_P D vwCl [(x, .inr (6, [.ref tx, .ref st, .ref sk, .ref hi, .ref sl, .ref fi])), (st, .inr (3, [.ref r, .ref bk, .ref ws, vI wc, vI sp])), (r, .inr (2, [.ref sg, vI n])), (sg, .inl (cy 0, 24, .inl (iA g))), (bk, .inr (0, [.ref la, .ref na, vI nw])), (la, .inl (cy 0, 60, .inl (iA lt))), (na, .inl (cy 1, 10, .inl (iA ln))), (ws, .inl (cy 4, 4, .inr (.inr (.inr (.inr (rA wk)))))), (wk 0, .inr (5, [vI (wp 0), vI (wd 0), vI (wq 0), vI (wi 0), vI (we 0)])), (wk 1, .inr (5, [vI (wp 1), vI (wd 1), vI (wq 1), vI (wi 1), vI (we 1)])), (wk 2, .inr (5, [vI (wp 2), vI (wd 2), vI (wq 2), vI (wi 2), vI (we 2)])), (wk 3, .inr (5, [vI (wp 3), vI (wd 3), vI (wq 3), vI (wi 3), vI (we 3)])), (wk w, .inr (5, [vI (wp w), vI (wd w), vI (wq w), vI (wi w), vI (we w)]))] _ := hP
          refine gf5_0N F hK hP 12 rfl tn93 dX6_walker_89 ?_
          exact rr_iret F hr hlocks dX6_walker_92 (by unfold wkv; (repeat' (first | rfl | split)) <;> omega)
        · refine rr_tabIn F (tgt := 93) 1 dX6_walker_42 ⟨by omega, by omega⟩ (by omega) (by omega) rfl rfl ?_
          refine lv_aload_n F.1 F.2.1 dX6_walker_93 rfl (lv_at hl 0 rfl) ?_
          refine gf6_1 F hK hP 0 rfl tw158 dX6_walker_94 ?_
          refine gf3_2N F hK hP 1 rfl tn122 dX6_walker_97 ?_
          refine lv_iload_n F.1 F.2.1 dX6_walker_100 rfl (lv_at hl 1 rfl) ?_
          refine rr_aald4 F hK hP 7 rfl (by omega) (by omega) (by decide) dX6_walker_101 ?_
          have hP := wk_ext (wk := wk) (fun i => .inr (5, [vI (wp i), vI (wd i), vI (wq i), vI (wi i), vI (we i)])) w hP 8 9 10 11 rfl rfl rfl rfl (by omega)
          have hP : va_P D vwCl [(x, .inr (6, [.ref tx, .ref st, .ref sk, .ref hi, .ref sl, .ref fi])), (st, .inr (3, [.ref r, .ref bk, .ref ws, vI wc, vI sp])), (r, .inr (2, [.ref sg, vI n])), (sg, .inl (cy 0, 24, .inl (iA g))), (bk, .inr (0, [.ref la, .ref na, vI nw])), (la, .inl (cy 0, 60, .inl (iA lt))), (na, .inl (cy 1, 10, .inl (iA ln))), (ws, .inl (cy 4, 4, .inr (.inr (.inr (.inr (rA wk)))))), (wk 0, .inr (5, [vI (wp 0), vI (wd 0), vI (wq 0), vI (wi 0), vI (we 0)])), (wk 1, .inr (5, [vI (wp 1), vI (wd 1), vI (wq 1), vI (wi 1), vI (we 1)])), (wk 2, .inr (5, [vI (wp 2), vI (wd 2), vI (wq 2), vI (wi 2), vI (we 2)])), (wk 3, .inr (5, [vI (wp 3), vI (wd 3), vI (wq 3), vI (wi 3), vI (we 3)])), (wk w, .inr (5, [vI (wp w), vI (wd w), vI (wq w), vI (wi w), vI (we w)]))] _ := hP
          refine gf5_1N F hK hP 12 rfl tn97 dX6_walker_102 ?_
          exact rr_iret F hr hlocks dX6_walker_105 (by unfold wkv; (repeat' (first | rfl | split)) <;> omega)
        · refine rr_tabIn F (tgt := 106) 2 dX6_walker_42 ⟨by omega, by omega⟩ (by omega) (by omega) rfl rfl ?_
          refine lv_aload_n F.1 F.2.1 dX6_walker_106 rfl (lv_at hl 0 rfl) ?_
          refine gf6_1 F hK hP 0 rfl tw158 dX6_walker_107 ?_
          refine gf3_2N F hK hP 1 rfl tn122 dX6_walker_110 ?_
          refine lv_iload_n F.1 F.2.1 dX6_walker_113 rfl (lv_at hl 1 rfl) ?_
          refine rr_aald4 F hK hP 7 rfl (by omega) (by omega) (by decide) dX6_walker_114 ?_
          have hP := wk_ext (wk := wk) (fun i => .inr (5, [vI (wp i), vI (wd i), vI (wq i), vI (wi i), vI (we i)])) w hP 8 9 10 11 rfl rfl rfl rfl (by omega)
          have hP : va_P D vwCl [(x, .inr (6, [.ref tx, .ref st, .ref sk, .ref hi, .ref sl, .ref fi])), (st, .inr (3, [.ref r, .ref bk, .ref ws, vI wc, vI sp])), (r, .inr (2, [.ref sg, vI n])), (sg, .inl (cy 0, 24, .inl (iA g))), (bk, .inr (0, [.ref la, .ref na, vI nw])), (la, .inl (cy 0, 60, .inl (iA lt))), (na, .inl (cy 1, 10, .inl (iA ln))), (ws, .inl (cy 4, 4, .inr (.inr (.inr (.inr (rA wk)))))), (wk 0, .inr (5, [vI (wp 0), vI (wd 0), vI (wq 0), vI (wi 0), vI (we 0)])), (wk 1, .inr (5, [vI (wp 1), vI (wd 1), vI (wq 1), vI (wi 1), vI (we 1)])), (wk 2, .inr (5, [vI (wp 2), vI (wd 2), vI (wq 2), vI (wi 2), vI (we 2)])), (wk 3, .inr (5, [vI (wp 3), vI (wd 3), vI (wq 3), vI (wi 3), vI (we 3)])), (wk w, .inr (5, [vI (wp w), vI (wd w), vI (wq w), vI (wi w), vI (we w)]))] _ := hP
          refine gf5_2N F hK hP 12 rfl tn99 dX6_walker_115 ?_
          exact rr_iret F hr hlocks dX6_walker_118 (by unfold wkv; (repeat' (first | rfl | split)) <;> omega)
        · refine rr_tabIn F (tgt := 119) 3 dX6_walker_42 ⟨by omega, by omega⟩ (by omega) (by omega) rfl rfl ?_
          refine lv_aload_n F.1 F.2.1 dX6_walker_119 rfl (lv_at hl 0 rfl) ?_
          refine gf6_1 F hK hP 0 rfl tw158 dX6_walker_120 ?_
          refine gf3_2N F hK hP 1 rfl tn122 dX6_walker_123 ?_
          refine lv_iload_n F.1 F.2.1 dX6_walker_126 rfl (lv_at hl 1 rfl) ?_
          refine rr_aald4 F hK hP 7 rfl (by omega) (by omega) (by decide) dX6_walker_127 ?_
          have hP := wk_ext (wk := wk) (fun i => .inr (5, [vI (wp i), vI (wd i), vI (wq i), vI (wi i), vI (we i)])) w hP 8 9 10 11 rfl rfl rfl rfl (by omega)
          have hP : va_P D vwCl [(x, .inr (6, [.ref tx, .ref st, .ref sk, .ref hi, .ref sl, .ref fi])), (st, .inr (3, [.ref r, .ref bk, .ref ws, vI wc, vI sp])), (r, .inr (2, [.ref sg, vI n])), (sg, .inl (cy 0, 24, .inl (iA g))), (bk, .inr (0, [.ref la, .ref na, vI nw])), (la, .inl (cy 0, 60, .inl (iA lt))), (na, .inl (cy 1, 10, .inl (iA ln))), (ws, .inl (cy 4, 4, .inr (.inr (.inr (.inr (rA wk)))))), (wk 0, .inr (5, [vI (wp 0), vI (wd 0), vI (wq 0), vI (wi 0), vI (we 0)])), (wk 1, .inr (5, [vI (wp 1), vI (wd 1), vI (wq 1), vI (wi 1), vI (we 1)])), (wk 2, .inr (5, [vI (wp 2), vI (wd 2), vI (wq 2), vI (wi 2), vI (we 2)])), (wk 3, .inr (5, [vI (wp 3), vI (wd 3), vI (wq 3), vI (wi 3), vI (we 3)])), (wk w, .inr (5, [vI (wp w), vI (wd w), vI (wq w), vI (wi w), vI (we w)]))] _ := hP
          refine gf5_3N F hK hP 12 rfl tn102 dX6_walker_128 ?_
          exact rr_iret F hr hlocks dX6_walker_131 (by unfold wkv; (repeat' (first | rfl | split)) <;> omega)
        · refine rr_tabIn F (tgt := 132) 4 dX6_walker_42 ⟨by omega, by omega⟩ (by omega) (by omega) rfl rfl ?_
          refine lv_aload_n F.1 F.2.1 dX6_walker_132 rfl (lv_at hl 0 rfl) ?_
          refine gf6_1 F hK hP 0 rfl tw158 dX6_walker_133 ?_
          refine gf3_2N F hK hP 1 rfl tn122 dX6_walker_136 ?_
          refine lv_iload_n F.1 F.2.1 dX6_walker_139 rfl (lv_at hl 1 rfl) ?_
          refine rr_aald4 F hK hP 7 rfl (by omega) (by omega) (by decide) dX6_walker_140 ?_
          have hP := wk_ext (wk := wk) (fun i => .inr (5, [vI (wp i), vI (wd i), vI (wq i), vI (wi i), vI (we i)])) w hP 8 9 10 11 rfl rfl rfl rfl (by omega)
          have hP : va_P D vwCl [(x, .inr (6, [.ref tx, .ref st, .ref sk, .ref hi, .ref sl, .ref fi])), (st, .inr (3, [.ref r, .ref bk, .ref ws, vI wc, vI sp])), (r, .inr (2, [.ref sg, vI n])), (sg, .inl (cy 0, 24, .inl (iA g))), (bk, .inr (0, [.ref la, .ref na, vI nw])), (la, .inl (cy 0, 60, .inl (iA lt))), (na, .inl (cy 1, 10, .inl (iA ln))), (ws, .inl (cy 4, 4, .inr (.inr (.inr (.inr (rA wk)))))), (wk 0, .inr (5, [vI (wp 0), vI (wd 0), vI (wq 0), vI (wi 0), vI (we 0)])), (wk 1, .inr (5, [vI (wp 1), vI (wd 1), vI (wq 1), vI (wi 1), vI (we 1)])), (wk 2, .inr (5, [vI (wp 2), vI (wd 2), vI (wq 2), vI (wi 2), vI (we 2)])), (wk 3, .inr (5, [vI (wp 3), vI (wd 3), vI (wq 3), vI (wi 3), vI (we 3)])), (wk w, .inr (5, [vI (wp w), vI (wd w), vI (wq w), vI (wi w), vI (we w)]))] _ := hP
          refine rr_rdV (rest := []) F hK (c_X5_countSeen l D cy (wk w) (wp w) (wd w) (wq w) (wi w) (we w) (by first | assumption | omega | exact ⟨by omega, by omega⟩)) (hP.sub [12] rfl) sf_X5_countSeen tw505 5 rfl rfl ⟨Nat.le_of_ble_eq_true rfl, Nat.le_of_ble_eq_true rfl⟩ hl rfl (Nat.le_of_ble_eq_true rfl) dX6_walker_141 ⟨Nat.zero_le _, Nat.zero_le _⟩ ?_
          exact rr_iret F hr hlocks dX6_walker_144 (by unfold wkv; (repeat' (first | rfl | split)) <;> omega)
        · refine rr_tabIn F (tgt := 145) 5 dX6_walker_42 ⟨by omega, by omega⟩ (by omega) (by omega) rfl rfl ?_
          refine lv_aload_n F.1 F.2.1 dX6_walker_145 rfl (lv_at hl 0 rfl) ?_
          refine gf6_1 F hK hP 0 rfl tw158 dX6_walker_146 ?_
          refine lv_iload_n F.1 F.2.1 dX6_walker_149 rfl (lv_at hl 1 rfl) ?_
          refine rr_iconst F dX6_walker_150 ?_
          refine rr_rdV (rest := []) F hK (c_X3_knownBy l D cy st ws wk wc sp wp wd wq wi we r sg n g q bk la na nw lt ln bl bc w 0 (by first | assumption | omega | exact ⟨by omega, by omega⟩) (by first | assumption | omega | exact ⟨by omega, by omega⟩) (by first | assumption | omega | exact ⟨by omega, by omega⟩) (by first | assumption | omega | exact ⟨by omega, by omega⟩) (by first | assumption | omega | exact ⟨by omega, by omega⟩)) (hP.sub [1, 2, 3, 4, 5, 6, 7, 8, 9, 10, 11] rfl) sf_X3_knownBy tw515 3 rfl rfl ⟨Nat.le_of_ble_eq_true rfl, Nat.le_of_ble_eq_true rfl⟩ hl rfl (Nat.le_of_ble_eq_true rfl) dX6_walker_151 ⟨Nat.zero_le _, Nat.zero_le _⟩ ?_
          have q_151_0 := (show 0 ≤ knb n q nw bl bc (wd w) (we w) 0 ∧ knb n q nw bl bc (wd w) (we w) 0 ≤ n from cnt_rng _ (by omega))
          exact rr_iret F hr hlocks dX6_walker_154 (by unfold wkv; (repeat' (first | rfl | split)) <;> omega)
      · exfalso; omega
  · exfalso; omega
set_option maxRecDepth 100000 in
set_option maxHeartbeats 4000000 in
theorem c_X6_seesAll (l : Launch) (D : va_G) (cy : Nat → ClassId) (x tx sk hi sl fi : Nat) (st ws : Nat) (wk : Int → Nat) (wc sp : Int) (wp wd wq wi we : Int → Int) (r sg : Nat) (n : Int) (g q : Int → Int) (bk la na : Nat) (nw : Int) (lt ln : Int → Int) (bl : Int → Int) (bc : Int → Int → Int) (w : Int) (hG : RG n g q) (hB : BK nw lt ln bl bc) (hWS : WS n wc wp wd wq wi we) (h1 : 0 ≤ w ∧ w < wc) : Rd l yX6_seesAll cX6_seesAll 2 (some FieldType.int) 3 [.ref x, vI w] D cy [(x, .inr (6, [.ref tx, .ref st, .ref sk, .ref hi, .ref sl, .ref fi])), (st, .inr (3, [.ref r, .ref bk, .ref ws, vI wc, vI sp])), (r, .inr (2, [.ref sg, vI n])), (sg, .inl (cy 0, 24, .inl (iA g))), (bk, .inr (0, [.ref la, .ref na, vI nw])), (la, .inl (cy 0, 60, .inl (iA lt))), (na, .inl (cy 1, 10, .inl (iA ln))), (ws, .inl (cy 4, 4, .inr (.inr (.inr (.inr (rA wk)))))), (wk 0, .inr (5, [vI (wp 0), vI (wd 0), vI (wq 0), vI (wi 0), vI (we 0)])), (wk 1, .inr (5, [vI (wp 1), vI (wd 1), vI (wq 1), vI (wi 1), vI (we 1)])), (wk 2, .inr (5, [vI (wp 2), vI (wd 2), vI (wq 2), vI (wi 2), vI (we 2)])), (wk 3, .inr (5, [vI (wp 3), vI (wd 3), vI (wq 3), vI (wi 3), vI (we 3)]))] (low (fun t => ac n (wp w) (wd w) (wq w) (wi w) (we w) (t + 1) = p2 n - 1) (n + 1)) := by
  refine Rd.of RX6 rfl [(0, .ref x), (1, vI w)] rfl (by decide +kernel) (Nat.le_of_ble_eq_true rfl) ?_
  intro p e s m args below meth c F hr hlocks hK hP ls hl
  have hn0 := hG.1
  have hn1 := hG.2.1
  have hw0 := hB.1
  have hw1 := hB.2.1
  have hc0 := hWS.1
  have hc1 := hWS.2.1
  have hW := hWS.2.2 w h1.1 h1.2
  obtain ⟨v1, v2, v3, v4, v5⟩ := id hW
  have v6 := p2_24 hn0 hn1
  refine lv_aload_n F.1 F.2.1 dX6_seesAll_0 rfl (lv_at hl 0 rfl) ?_
  refine gf6_1 F hK hP 0 rfl tw158 dX6_seesAll_1 ?_
  refine lv_iload_n F.1 F.2.1 dX6_seesAll_4 rfl (lv_at hl 1 rfl) ?_
  refine rr_rdV (rest := []) F hK (c_X3_hasWalker l D cy st r bk ws wc sp w (by first | assumption | omega | exact ⟨by omega, by omega⟩) (by first | assumption | omega | exact ⟨by omega, by omega⟩)) (hP.sub [1] rfl) sf_X3_hasWalker tw500 3 rfl rfl ⟨Nat.le_of_ble_eq_true rfl, Nat.le_of_ble_eq_true rfl⟩ hl rfl (Nat.le_of_ble_eq_true rfl) dX6_seesAll_5 ⟨Nat.zero_le _, Nat.zero_le _⟩ ?_
  refine rr_ifP_ne F (tgt := 21) dX6_seesAll_8 (by decide) (fun c_8 => ?_) (fun c_8 => ?_)
  · refine lv_aload_n F.1 F.2.1 dX6_seesAll_21 rfl (lv_at hl 0 rfl) ?_
    refine gf6_1 F hK hP 0 rfl tw158 dX6_seesAll_22 ?_
    refine gf3_2N F hK hP 1 rfl tn122 dX6_seesAll_25 ?_
    refine lv_iload_n F.1 F.2.1 dX6_seesAll_28 rfl (lv_at hl 1 rfl) ?_
    refine rr_aald4 F hK hP 7 rfl (by omega) (by omega) (by decide) dX6_seesAll_29 ?_
    have hP := wk_ext (wk := wk) (fun i => .inr (5, [vI (wp i), vI (wd i), vI (wq i), vI (wi i), vI (we i)])) w hP 8 9 10 11 rfl rfl rfl rfl (by omega)
    have hP : va_P D vwCl [(x, .inr (6, [.ref tx, .ref st, .ref sk, .ref hi, .ref sl, .ref fi])), (st, .inr (3, [.ref r, .ref bk, .ref ws, vI wc, vI sp])), (r, .inr (2, [.ref sg, vI n])), (sg, .inl (cy 0, 24, .inl (iA g))), (bk, .inr (0, [.ref la, .ref na, vI nw])), (la, .inl (cy 0, 60, .inl (iA lt))), (na, .inl (cy 1, 10, .inl (iA ln))), (ws, .inl (cy 4, 4, .inr (.inr (.inr (.inr (rA wk)))))), (wk 0, .inr (5, [vI (wp 0), vI (wd 0), vI (wq 0), vI (wi 0), vI (we 0)])), (wk 1, .inr (5, [vI (wp 1), vI (wd 1), vI (wq 1), vI (wi 1), vI (we 1)])), (wk 2, .inr (5, [vI (wp 2), vI (wd 2), vI (wq 2), vI (wi 2), vI (we 2)])), (wk 3, .inr (5, [vI (wp 3), vI (wd 3), vI (wq 3), vI (wi 3), vI (we 3)])), (wk w, .inr (5, [vI (wp w), vI (wd w), vI (wq w), vI (wi w), vI (we w)]))] _ := hP
    refine lv_aload_n F.1 F.2.1 dX6_seesAll_30 rfl (lv_at hl 0 rfl) ?_
    refine gf6_1 F hK hP 0 rfl tw158 dX6_seesAll_31 ?_
    refine gf3_0N F hK hP 1 rfl tn118 dX6_seesAll_34 ?_
    refine rr_rdV (rest := []) F hK (c_X5_stepsToSeeAll l D cy (wk w) (wp w) (wd w) (wq w) (wi w) (we w) r sg n g q (by first | assumption | omega | exact ⟨by omega, by omega⟩) (by first | assumption | omega | exact ⟨by omega, by omega⟩)) (hP.sub [12, 2, 3] rfl) sf_X5_stepsToSeeAll tw782 5 rfl rfl ⟨Nat.le_of_ble_eq_true rfl, Nat.le_of_ble_eq_true rfl⟩ hl rfl (Nat.le_of_ble_eq_true rfl) dX6_seesAll_37 ⟨Nat.zero_le _, Nat.zero_le _⟩ ?_
    exact rr_iret F hr hlocks dX6_seesAll_40 (by first | rfl | omega)
  · exfalso; omega
set_option maxRecDepth 100000 in
set_option maxHeartbeats 4000000 in
theorem c_X6_meet (l : Launch) (D : va_G) (cy : Nat → ClassId) (x tx sk hi sl fi : Nat) (st ws : Nat) (wk : Int → Nat) (wc sp : Int) (wp wd wq wi we : Int → Int) (r sg : Nat) (n : Int) (g q : Int → Int) (bk la na : Nat) (nw : Int) (lt ln : Int → Int) (bl : Int → Int) (bc : Int → Int → Int) (w v : Int) (hG : RG n g q) (hB : BK nw lt ln bl bc) (hWS : WS n wc wp wd wq wi we) (h1 : 0 ≤ w ∧ w < wc) (h2 : 0 ≤ v ∧ v < wc) (h3 : ¬ w = v) : Rd l yX6_meet cX6_meet 3 (some FieldType.int) 3 [.ref x, vI w, vI v] D cy [(x, .inr (6, [.ref tx, .ref st, .ref sk, .ref hi, .ref sl, .ref fi])), (st, .inr (3, [.ref r, .ref bk, .ref ws, vI wc, vI sp])), (r, .inr (2, [.ref sg, vI n])), (sg, .inl (cy 0, 24, .inl (iA g))), (bk, .inr (0, [.ref la, .ref na, vI nw])), (la, .inl (cy 0, 60, .inl (iA lt))), (na, .inl (cy 1, 10, .inl (iA ln))), (ws, .inl (cy 4, 4, .inr (.inr (.inr (.inr (rA wk)))))), (wk 0, .inr (5, [vI (wp 0), vI (wd 0), vI (wq 0), vI (wi 0), vI (we 0)])), (wk 1, .inr (5, [vI (wp 1), vI (wd 1), vI (wq 1), vI (wi 1), vI (we 1)])), (wk 2, .inr (5, [vI (wp 2), vI (wd 2), vI (wq 2), vI (wi 2), vI (we 2)])), (wk 3, .inr (5, [vI (wp 3), vI (wd 3), vI (wq 3), vI (wi 3), vI (we 3)]))] (low (fun t => off n (wp w) (wd w) (t * wq w) = off n (wp v) (wd v) (t * wq v)) n) := by
  refine Rd.of RX6 rfl [(0, .ref x), (1, vI w), (2, vI v)] rfl (by decide +kernel) (Nat.le_of_ble_eq_true rfl) ?_
  intro p e s m args below meth c F hr hlocks hK hP ls hl
  have hn0 := hG.1
  have hn1 := hG.2.1
  have hw0 := hB.1
  have hw1 := hB.2.1
  have hc0 := hWS.1
  have hc1 := hWS.2.1
  refine lv_aload_n F.1 F.2.1 dX6_meet_0 rfl (lv_at hl 0 rfl) ?_
  refine gf6_1 F hK hP 0 rfl tw158 dX6_meet_1 ?_
  refine lv_iload_n F.1 F.2.1 dX6_meet_4 rfl (lv_at hl 1 rfl) ?_
  refine rr_rdV (rest := []) F hK (c_X3_hasWalker l D cy st r bk ws wc sp w (by first | assumption | omega | exact ⟨by omega, by omega⟩) (by first | assumption | omega | exact ⟨by omega, by omega⟩)) (hP.sub [1] rfl) sf_X3_hasWalker tw500 3 rfl rfl ⟨Nat.le_of_ble_eq_true rfl, Nat.le_of_ble_eq_true rfl⟩ hl rfl (Nat.le_of_ble_eq_true rfl) dX6_meet_5 ⟨Nat.zero_le _, Nat.zero_le _⟩ ?_
  refine rr_ifP_eq F (tgt := 22) dX6_meet_8 (by decide) (fun c_8 => ?_) (fun c_8 => ?_)
  · exfalso; omega
  · refine lv_aload_n F.1 F.2.1 dX6_meet_11 rfl (lv_at hl 0 rfl) ?_
    refine gf6_1 F hK hP 0 rfl tw158 dX6_meet_12 ?_
    refine lv_iload_n F.1 F.2.1 dX6_meet_15 rfl (lv_at hl 2 rfl) ?_
    refine rr_rdV (rest := []) F hK (c_X3_hasWalker l D cy st r bk ws wc sp v (by first | assumption | omega | exact ⟨by omega, by omega⟩) (by first | assumption | omega | exact ⟨by omega, by omega⟩)) (hP.sub [1] rfl) sf_X3_hasWalker tw500 3 rfl rfl ⟨Nat.le_of_ble_eq_true rfl, Nat.le_of_ble_eq_true rfl⟩ hl rfl (Nat.le_of_ble_eq_true rfl) dX6_meet_16 ⟨Nat.zero_le _, Nat.zero_le _⟩ ?_
    refine rr_ifP_ne F (tgt := 32) dX6_meet_19 (by decide) (fun c_19 => ?_) (fun c_19 => ?_)
    · refine lv_iload_n F.1 F.2.1 dX6_meet_32 rfl (lv_at hl 1 rfl) ?_
      refine lv_iload_n F.1 F.2.1 dX6_meet_33 rfl (lv_at hl 2 rfl) ?_
      refine rr_icmp_ne F (tgt := 48) dX6_meet_34 (by decide) ⟨by omega, by omega⟩ ⟨by omega, by omega⟩ (fun c_34 => ?_) (fun c_34 => ?_)
      · refine lv_aload_n F.1 F.2.1 dX6_meet_48 rfl (lv_at hl 0 rfl) ?_
        refine gf6_1 F hK hP 0 rfl tw158 dX6_meet_49 ?_
        refine lv_iload_n F.1 F.2.1 dX6_meet_52 rfl (lv_at hl 1 rfl) ?_
        refine lv_iload_n F.1 F.2.1 dX6_meet_53 rfl (lv_at hl 2 rfl) ?_
        refine rr_rdV (rest := []) F hK (c_X3_stepsToMeet l D cy st ws wk wc sp wp wd wq wi we r sg n g q bk la na nw lt ln bl bc w v (by first | assumption | omega | exact ⟨by omega, by omega⟩) (by first | assumption | omega | exact ⟨by omega, by omega⟩) (by first | assumption | omega | exact ⟨by omega, by omega⟩) (by first | assumption | omega | exact ⟨by omega, by omega⟩) (by first | assumption | omega | exact ⟨by omega, by omega⟩)) (hP.sub [1, 2, 3, 4, 5, 6, 7, 8, 9, 10, 11] rfl) sf_X3_stepsToMeet tw770 3 rfl rfl ⟨Nat.le_of_ble_eq_true rfl, Nat.le_of_ble_eq_true rfl⟩ hl rfl (Nat.le_of_ble_eq_true rfl) dX6_meet_54 ⟨Nat.zero_le _, Nat.zero_le _⟩ ?_
        exact rr_iret F hr hlocks dX6_meet_57 (by first | rfl | omega)
      · exfalso; omega
    · exfalso; omega
