-- the law's callers: laid by wrap.py
theorem cast_xIA : Cond.castable xIA xIA ∈ lw_E := List.mem_filter.mpr ⟨by decide +kernel, rfl⟩
theorem cast_xIS : Cond.castable xIS xIS ∈ lw_E := List.mem_filter.mpr ⟨by decide +kernel, rfl⟩
theorem cast_xIO : Cond.castable xIO xIO ∈ lw_E := List.mem_filter.mpr ⟨by decide +kernel, rfl⟩
set_option maxRecDepth 100000 in
set_option maxHeartbeats 4000000 in
theorem r_append_11 (l : Launch) (hnt : l.stackTraces = false) (D : va_G) (cy : Nat → ClassId) (sa : Nat → Nat) (x tx st sk hi sl fi : Nat) (c0 : Int) (out : Nat) (r_c0 : inR c0) (h1 : ¬ (0 ≤ c0 ∧ c0 ≤ 255)) : Tw l yL_append cL_append 4 (some FieldType.int) [(0, 9, 12, 13), (0, 9, 15, 15)] 7 [.ref x, vI c0, .ref out] D cy sa [(x, .inr (6, [.ref tx, .ref st, .ref sk, .ref hi, .ref sl, .ref fi]))] 1 := by
  refine Tw.of RL rfl [(0, .ref x), (1, vI c0), (2, .ref out)] rfl (by decide +kernel) (Nat.le_of_ble_eq_true rfl) ?_
  intro p e s m args below meth c F htab hr hlocks hK hX hZ hP ls hl
  refine lv_aload_n F.1 F.2.1 dL_append_0 rfl (lv_at hl 2 rfl) ?_
  refine rr_iconst F dL_append_1 ?_
  refine lv_aload_n F.1 F.2.1 dL_append_2 rfl (lv_at hl 0 rfl) ?_
  refine lv_iload_n F.1 F.2.1 dL_append_3 rfl (lv_at hl 1 rfl) ?_
  refine rr_thrV (rest := [vI 0, .ref out]) F hK hX hZ htab (t_X6_append_11 l hnt D cy sa x tx st sk hi sl fi c0 r_c0 h1) hP sf_X6_append tw268 6 rfl rfl ⟨Nat.le_of_ble_eq_true rfl, Nat.le_of_ble_eq_true rfl, Nat.le_of_ble_eq_true rfl, Nat.le_of_ble_eq_true rfl⟩ hl rfl (Nat.le_of_ble_eq_true rfl) dL_append_4 [] ⟨0, 9, 12, 13⟩ [⟨0, 9, 15, 15⟩] rfl (fun z hz => nomatch hz) (by decide) (by decide) tw266 cast_xIA (fun q9 H hS => ?_)
  refine lv_astore_n (lv' := [(3, .ref q9), (0, .ref x), (1, vI c0), (2, .ref out)]) F.1 F.2.1 dL_append_12 rfl hl (by decide) rfl (fun ls hl => ?_)
  refine rr_iconst F dL_append_13 ?_
  exact rr_twret F hr hlocks hS dL_append_14 rfl
set_option maxRecDepth 100000 in
set_option maxHeartbeats 4000000 in
theorem r_append_31 (l : Launch) (hnt : l.stackTraces = false) (D : va_G) (cy : Nat → ClassId) (sa : Nat → Nat) (x st sk hi sl fi : Nat) (tx ta : Nat) (tl : Int) (tc : Int → Int) (c0 : Int) (out : Nat) (hT : (0 ≤ tl ∧ tl ≤ 40) ∧ CH 40 tc) (h1 : 0 ≤ c0 ∧ c0 ≤ 255) (h2 : ¬ tl < 40) : Tw l yL_append cL_append 4 (some FieldType.int) [(0, 9, 12, 13), (0, 9, 15, 15)] 7 [.ref x, vI c0, .ref out] D cy sa [(x, .inr (6, [.ref tx, .ref st, .ref sk, .ref hi, .ref sl, .ref fi])), (tx, .inr (4, [.ref ta, vI tl])), (ta, .inl (cy 0, 40, .inl (iA tc)))] 2 := by
  refine Tw.of RL rfl [(0, .ref x), (1, vI c0), (2, .ref out)] rfl (by decide +kernel) (Nat.le_of_ble_eq_true rfl) ?_
  intro p e s m args below meth c F htab hr hlocks hK hX hZ hP ls hl
  refine lv_aload_n F.1 F.2.1 dL_append_0 rfl (lv_at hl 2 rfl) ?_
  refine rr_iconst F dL_append_1 ?_
  refine lv_aload_n F.1 F.2.1 dL_append_2 rfl (lv_at hl 0 rfl) ?_
  refine lv_iload_n F.1 F.2.1 dL_append_3 rfl (lv_at hl 1 rfl) ?_
  refine rr_thrV (rest := [vI 0, .ref out]) F hK hX hZ htab (t_X6_append_31 l hnt D cy sa x st sk hi sl fi tx ta tl tc c0 hT h1 h2) hP sf_X6_append tw268 6 rfl rfl ⟨Nat.le_of_ble_eq_true rfl, Nat.le_of_ble_eq_true rfl, Nat.le_of_ble_eq_true rfl, Nat.le_of_ble_eq_true rfl⟩ hl rfl (Nat.le_of_ble_eq_true rfl) dL_append_4 [⟨0, 9, 12, 13⟩] ⟨0, 9, 15, 15⟩ [] rfl (List.forall_mem_cons.mpr ⟨⟨by decide, xIA, tw266, by decide +kernel⟩, (fun z hz => nomatch hz)⟩) (by decide) (by decide) tw267 cast_xIS (fun q9 H hS => ?_)
  refine lv_astore_n (lv' := [(3, .ref q9), (0, .ref x), (1, vI c0), (2, .ref out)]) F.1 F.2.1 dL_append_15 rfl hl (by decide) rfl (fun ls hl => ?_)
  refine rr_iconst F dL_append_16 ?_
  exact rr_twret F hr hlocks hS dL_append_17 rfl
set_option maxRecDepth 100000 in
set_option maxHeartbeats 4000000 in
theorem r_about_10 (l : Launch) (hnt : l.stackTraces = false) (D : va_G) (cy : Nat → ClassId) (sa : Nat → Nat) (x tx st sk hi sl fi : Nat) (i : Int) (out : Nat) (r_i : inR i) (h1 : ¬ (0 ≤ i ∧ i ≤ 8)) : Tw l yL_about cL_about 4 (some FieldType.int) [(0, 9, 12, 13)] 7 [.ref x, vI i, .ref out] D cy sa [(x, .inr (6, [.ref tx, .ref st, .ref sk, .ref hi, .ref sl, .ref fi]))] 1 := by
  refine Tw.of RL rfl [(0, .ref x), (1, vI i), (2, .ref out)] rfl (by decide +kernel) (Nat.le_of_ble_eq_true rfl) ?_
  intro p e s m args below meth c F htab hr hlocks hK hX hZ hP ls hl
  refine lv_aload_n F.1 F.2.1 dL_about_0 rfl (lv_at hl 2 rfl) ?_
  refine rr_iconst F dL_about_1 ?_
  refine lv_aload_n F.1 F.2.1 dL_about_2 rfl (lv_at hl 0 rfl) ?_
  refine lv_iload_n F.1 F.2.1 dL_about_3 rfl (lv_at hl 1 rfl) ?_
  refine rr_thrV (rest := [vI 0, .ref out]) F hK hX hZ htab (t_X6_about_10 l hnt D cy sa x tx st sk hi sl fi i r_i h1) hP sf_X6_about tw367 6 rfl rfl ⟨Nat.le_of_ble_eq_true rfl, Nat.le_of_ble_eq_true rfl, Nat.le_of_ble_eq_true rfl, Nat.le_of_ble_eq_true rfl⟩ hl rfl (Nat.le_of_ble_eq_true rfl) dL_about_4 [] ⟨0, 9, 12, 13⟩ [] rfl (fun z hz => nomatch hz) (by decide) (by decide) tw266 cast_xIA (fun q9 H hS => ?_)
  refine lv_astore_n (lv' := [(3, .ref q9), (0, .ref x), (1, vI i), (2, .ref out)]) F.1 F.2.1 dL_about_12 rfl hl (by decide) rfl (fun ls hl => ?_)
  refine rr_iconst F dL_about_13 ?_
  exact rr_twret F hr hlocks hS dL_about_14 rfl
set_option maxRecDepth 100000 in
set_option maxHeartbeats 4000000 in
theorem r_at_14 (l : Launch) (hnt : l.stackTraces = false) (D : va_G) (cy : Nat → ClassId) (sa : Nat → Nat) (x tx sk hi sl fi : Nat) (st ws : Nat) (wc sp : Int) (r sg : Nat) (n : Int) (g q : Int → Int) (bk la na : Nat) (nw : Int) (lt ln : Int → Int) (bl : Int → Int) (bc : Int → Int → Int) (i : Int) (out : Nat) (hG : RG n g q) (hB : BK nw lt ln bl bc) (r_i : inR i) (h1 : ¬ (0 ≤ i ∧ i < n)) : Tw l yL_at cL_at 4 (some FieldType.int) [(0, 9, 12, 23)] 7 [.ref x, vI i, .ref out] D cy sa [(x, .inr (6, [.ref tx, .ref st, .ref sk, .ref hi, .ref sl, .ref fi])), (st, .inr (3, [.ref r, .ref bk, .ref ws, vI wc, vI sp])), (r, .inr (2, [.ref sg, vI n])), (sg, .inl (cy 0, 24, .inl (iA g))), (bk, .inr (0, [.ref la, .ref na, vI nw])), (la, .inl (cy 0, 60, .inl (iA lt))), (na, .inl (cy 1, 10, .inl (iA ln)))] 1 := by
  refine Tw.of RL rfl [(0, .ref x), (1, vI i), (2, .ref out)] rfl (by decide +kernel) (Nat.le_of_ble_eq_true rfl) ?_
  intro p e s m args below meth c F htab hr hlocks hK hX hZ hP ls hl
  refine lv_aload_n F.1 F.2.1 dL_at_0 rfl (lv_at hl 2 rfl) ?_
  refine rr_iconst F dL_at_1 ?_
  refine lv_aload_n F.1 F.2.1 dL_at_2 rfl (lv_at hl 0 rfl) ?_
  refine lv_iload_n F.1 F.2.1 dL_at_3 rfl (lv_at hl 1 rfl) ?_
  refine rr_thrV (rest := [vI 0, .ref out]) F hK hX hZ htab (t_X6_at_14 l hnt D cy sa x tx sk hi sl fi st ws wc sp r sg n g q bk la na nw lt ln bl bc i hG hB r_i h1) hP sf_X6_at tw401 6 rfl rfl ⟨Nat.le_of_ble_eq_true rfl, Nat.le_of_ble_eq_true rfl, Nat.le_of_ble_eq_true rfl, Nat.le_of_ble_eq_true rfl⟩ hl rfl (Nat.le_of_ble_eq_true rfl) dL_at_4 [] ⟨0, 9, 12, 23⟩ [] rfl (fun z hz => nomatch hz) (by decide) (by decide) tw400 cast_xIO (fun q9 H hS => ?_)
  refine lv_astore_n (lv' := [(3, .ref q9), (0, .ref x), (1, vI i), (2, .ref out)]) F.1 F.2.1 dL_at_12 rfl hl (by decide) rfl (fun ls hl => ?_)
  refine rr_iconst F dL_at_13 ?_
  exact rr_twret F hr hlocks hS dL_at_14 rfl
set_option maxRecDepth 100000 in
set_option maxHeartbeats 4000000 in
theorem r_letter_14 (l : Launch) (hnt : l.stackTraces = false) (D : va_G) (cy : Nat → ClassId) (sa : Nat → Nat) (x tx sk hi sl fi : Nat) (st ws : Nat) (wc sp : Int) (r sg : Nat) (n : Int) (g q : Int → Int) (bk la na : Nat) (nw : Int) (lt ln : Int → Int) (bl : Int → Int) (bc : Int → Int → Int) (w i : Int) (out : Nat) (hG : RG n g q) (hB : BK nw lt ln bl bc) (r_w : inR w) (r_i : inR i) (h1 : ¬ (0 ≤ w ∧ w < nw)) : Tw l yL_letter cL_letter 5 (some FieldType.int) [(0, 10, 13, 23), (0, 10, 17, 13)] 7 [.ref x, vI w, vI i, .ref out] D cy sa [(x, .inr (6, [.ref tx, .ref st, .ref sk, .ref hi, .ref sl, .ref fi])), (st, .inr (3, [.ref r, .ref bk, .ref ws, vI wc, vI sp])), (r, .inr (2, [.ref sg, vI n])), (sg, .inl (cy 0, 24, .inl (iA g))), (bk, .inr (0, [.ref la, .ref na, vI nw])), (la, .inl (cy 0, 60, .inl (iA lt))), (na, .inl (cy 1, 10, .inl (iA ln)))] 1 := by
  refine Tw.of RL rfl [(0, .ref x), (1, vI w), (2, vI i), (3, .ref out)] rfl (by decide +kernel) (Nat.le_of_ble_eq_true rfl) ?_
  intro p e s m args below meth c F htab hr hlocks hK hX hZ hP ls hl
  refine lv_aload_n F.1 F.2.1 dL_letter_0 rfl (lv_at hl 3 rfl) ?_
  refine rr_iconst F dL_letter_1 ?_
  refine lv_aload_n F.1 F.2.1 dL_letter_2 rfl (lv_at hl 0 rfl) ?_
  refine lv_iload_n F.1 F.2.1 dL_letter_3 rfl (lv_at hl 1 rfl) ?_
  refine lv_iload_n F.1 F.2.1 dL_letter_4 rfl (lv_at hl 2 rfl) ?_
  refine rr_thrV (rest := [vI 0, .ref out]) F hK hX hZ htab (t_X6_letter_14 l hnt D cy sa x tx sk hi sl fi st ws wc sp r sg n g q bk la na nw lt ln bl bc w i hG hB r_w r_i h1) hP sf_X6_letter tw429 6 rfl rfl ⟨Nat.le_of_ble_eq_true rfl, Nat.le_of_ble_eq_true rfl, Nat.le_of_ble_eq_true rfl, Nat.le_of_ble_eq_true rfl⟩ hl rfl (Nat.le_of_ble_eq_true rfl) dL_letter_5 [] ⟨0, 10, 13, 23⟩ [⟨0, 10, 17, 13⟩] rfl (fun z hz => nomatch hz) (by decide) (by decide) tw400 cast_xIO (fun q9 H hS => ?_)
  refine lv_astore (lv' := [(4, .ref q9), (0, .ref x), (1, vI w), (2, vI i), (3, .ref out)]) F.1 F.2.1 dL_letter_13 hl (by decide) rfl (fun ls hl => ?_)
  refine rr_iconst F dL_letter_15 ?_
  exact rr_twret F hr hlocks hS dL_letter_16 rfl
set_option maxRecDepth 100000 in
set_option maxHeartbeats 4000000 in
theorem r_letter_28 (l : Launch) (hnt : l.stackTraces = false) (D : va_G) (cy : Nat → ClassId) (sa : Nat → Nat) (x tx sk hi sl fi : Nat) (st ws : Nat) (wc sp : Int) (r sg : Nat) (n : Int) (g q : Int → Int) (bk la na : Nat) (nw : Int) (lt ln : Int → Int) (bl : Int → Int) (bc : Int → Int → Int) (w i : Int) (out : Nat) (hG : RG n g q) (hB : BK nw lt ln bl bc) (r_w : inR w) (r_i : inR i) (h1 : 0 ≤ w ∧ w < nw) (h2 : ¬ 0 ≤ i) : Tw l yL_letter cL_letter 5 (some FieldType.int) [(0, 10, 13, 23), (0, 10, 17, 13)] 7 [.ref x, vI w, vI i, .ref out] D cy sa [(x, .inr (6, [.ref tx, .ref st, .ref sk, .ref hi, .ref sl, .ref fi])), (st, .inr (3, [.ref r, .ref bk, .ref ws, vI wc, vI sp])), (r, .inr (2, [.ref sg, vI n])), (sg, .inl (cy 0, 24, .inl (iA g))), (bk, .inr (0, [.ref la, .ref na, vI nw])), (la, .inl (cy 0, 60, .inl (iA lt))), (na, .inl (cy 1, 10, .inl (iA ln)))] 2 := by
  refine Tw.of RL rfl [(0, .ref x), (1, vI w), (2, vI i), (3, .ref out)] rfl (by decide +kernel) (Nat.le_of_ble_eq_true rfl) ?_
  intro p e s m args below meth c F htab hr hlocks hK hX hZ hP ls hl
  refine lv_aload_n F.1 F.2.1 dL_letter_0 rfl (lv_at hl 3 rfl) ?_
  refine rr_iconst F dL_letter_1 ?_
  refine lv_aload_n F.1 F.2.1 dL_letter_2 rfl (lv_at hl 0 rfl) ?_
  refine lv_iload_n F.1 F.2.1 dL_letter_3 rfl (lv_at hl 1 rfl) ?_
  refine lv_iload_n F.1 F.2.1 dL_letter_4 rfl (lv_at hl 2 rfl) ?_
  refine rr_thrV (rest := [vI 0, .ref out]) F hK hX hZ htab (t_X6_letter_28 l hnt D cy sa x tx sk hi sl fi st ws wc sp r sg n g q bk la na nw lt ln bl bc w i hG hB r_w r_i h1 h2) hP sf_X6_letter tw429 6 rfl rfl ⟨Nat.le_of_ble_eq_true rfl, Nat.le_of_ble_eq_true rfl, Nat.le_of_ble_eq_true rfl, Nat.le_of_ble_eq_true rfl⟩ hl rfl (Nat.le_of_ble_eq_true rfl) dL_letter_5 [⟨0, 10, 13, 23⟩] ⟨0, 10, 17, 13⟩ [] rfl (List.forall_mem_cons.mpr ⟨⟨by decide, xIO, tw400, by decide +kernel⟩, (fun z hz => nomatch hz)⟩) (by decide) (by decide) tw266 cast_xIA (fun q9 H hS => ?_)
  refine lv_astore (lv' := [(4, .ref q9), (0, .ref x), (1, vI w), (2, vI i), (3, .ref out)]) F.1 F.2.1 dL_letter_17 hl (by decide) rfl (fun ls hl => ?_)
  refine rr_iconst F dL_letter_19 ?_
  exact rr_twret F hr hlocks hS dL_letter_20 rfl
set_option maxRecDepth 100000 in
set_option maxHeartbeats 4000000 in
theorem r_reading_7 (l : Launch) (hnt : l.stackTraces = false) (D : va_G) (cy : Nat → ClassId) (sa : Nat → Nat) (x tx st sk hi sl fi : Nat) (d i : Int) (out : Nat) (r_d : inR d) (r_i : inR i) (h1 : ¬ (0 ≤ d ∧ d ≤ 1)) : Tw l yL_reading cL_reading 5 (some FieldType.int) [(0, 10, 13, 23), (0, 10, 17, 13)] 7 [.ref x, vI d, vI i, .ref out] D cy sa [(x, .inr (6, [.ref tx, .ref st, .ref sk, .ref hi, .ref sl, .ref fi]))] 1 := by
  refine Tw.of RL rfl [(0, .ref x), (1, vI d), (2, vI i), (3, .ref out)] rfl (by decide +kernel) (Nat.le_of_ble_eq_true rfl) ?_
  intro p e s m args below meth c F htab hr hlocks hK hX hZ hP ls hl
  refine lv_aload_n F.1 F.2.1 dL_reading_0 rfl (lv_at hl 3 rfl) ?_
  refine rr_iconst F dL_reading_1 ?_
  refine lv_aload_n F.1 F.2.1 dL_reading_2 rfl (lv_at hl 0 rfl) ?_
  refine lv_iload_n F.1 F.2.1 dL_reading_3 rfl (lv_at hl 1 rfl) ?_
  refine lv_iload_n F.1 F.2.1 dL_reading_4 rfl (lv_at hl 2 rfl) ?_
  refine rr_thrV (rest := [vI 0, .ref out]) F hK hX hZ htab (t_X6_reading_7 l hnt D cy sa x tx st sk hi sl fi d i r_d r_i h1) hP sf_X6_reading tw444 6 rfl rfl ⟨Nat.le_of_ble_eq_true rfl, Nat.le_of_ble_eq_true rfl, Nat.le_of_ble_eq_true rfl, Nat.le_of_ble_eq_true rfl⟩ hl rfl (Nat.le_of_ble_eq_true rfl) dL_reading_5 [] ⟨0, 10, 13, 23⟩ [⟨0, 10, 17, 13⟩] rfl (fun z hz => nomatch hz) (by decide) (by decide) tw400 cast_xIO (fun q9 H hS => ?_)
  refine lv_astore (lv' := [(4, .ref q9), (0, .ref x), (1, vI d), (2, vI i), (3, .ref out)]) F.1 F.2.1 dL_reading_13 hl (by decide) rfl (fun ls hl => ?_)
  refine rr_iconst F dL_reading_15 ?_
  exact rr_twret F hr hlocks hS dL_reading_16 rfl
set_option maxRecDepth 100000 in
set_option maxHeartbeats 4000000 in
theorem r_reading_26 (l : Launch) (hnt : l.stackTraces = false) (D : va_G) (cy : Nat → ClassId) (sa : Nat → Nat) (x tx st sk hi sl fi : Nat) (d i : Int) (out : Nat) (r_d : inR d) (r_i : inR i) (h1 : 0 ≤ d ∧ d ≤ 1) (h2 : ¬ (0 ≤ i ∧ i ≤ 3)) : Tw l yL_reading cL_reading 5 (some FieldType.int) [(0, 10, 13, 23), (0, 10, 17, 13)] 7 [.ref x, vI d, vI i, .ref out] D cy sa [(x, .inr (6, [.ref tx, .ref st, .ref sk, .ref hi, .ref sl, .ref fi]))] 2 := by
  refine Tw.of RL rfl [(0, .ref x), (1, vI d), (2, vI i), (3, .ref out)] rfl (by decide +kernel) (Nat.le_of_ble_eq_true rfl) ?_
  intro p e s m args below meth c F htab hr hlocks hK hX hZ hP ls hl
  refine lv_aload_n F.1 F.2.1 dL_reading_0 rfl (lv_at hl 3 rfl) ?_
  refine rr_iconst F dL_reading_1 ?_
  refine lv_aload_n F.1 F.2.1 dL_reading_2 rfl (lv_at hl 0 rfl) ?_
  refine lv_iload_n F.1 F.2.1 dL_reading_3 rfl (lv_at hl 1 rfl) ?_
  refine lv_iload_n F.1 F.2.1 dL_reading_4 rfl (lv_at hl 2 rfl) ?_
  refine rr_thrV (rest := [vI 0, .ref out]) F hK hX hZ htab (t_X6_reading_26 l hnt D cy sa x tx st sk hi sl fi d i r_d r_i h1 h2) hP sf_X6_reading tw444 6 rfl rfl ⟨Nat.le_of_ble_eq_true rfl, Nat.le_of_ble_eq_true rfl, Nat.le_of_ble_eq_true rfl, Nat.le_of_ble_eq_true rfl⟩ hl rfl (Nat.le_of_ble_eq_true rfl) dL_reading_5 [⟨0, 10, 13, 23⟩] ⟨0, 10, 17, 13⟩ [] rfl (List.forall_mem_cons.mpr ⟨⟨by decide, xIO, tw400, by decide +kernel⟩, (fun z hz => nomatch hz)⟩) (by decide) (by decide) tw266 cast_xIA (fun q9 H hS => ?_)
  refine lv_astore (lv' := [(4, .ref q9), (0, .ref x), (1, vI d), (2, vI i), (3, .ref out)]) F.1 F.2.1 dL_reading_17 hl (by decide) rfl (fun ls hl => ?_)
  refine rr_iconst F dL_reading_19 ?_
  exact rr_twret F hr hlocks hS dL_reading_20 rfl
set_option maxRecDepth 100000 in
set_option maxHeartbeats 4000000 in
theorem r_segment_7 (l : Launch) (hnt : l.stackTraces = false) (D : va_G) (cy : Nat → ClassId) (sa : Nat → Nat) (x tx st sk hi sl fi : Nat) (d s0 i : Int) (out : Nat) (r_d : inR d) (r_s0 : inR s0) (r_i : inR i) (h1 : ¬ (0 ≤ d ∧ d ≤ 1)) : Tw l yL_segment cL_segment 6 (some FieldType.int) [(0, 12, 15, 23), (0, 12, 19, 13)] 7 [.ref x, vI d, vI s0, vI i, .ref out] D cy sa [(x, .inr (6, [.ref tx, .ref st, .ref sk, .ref hi, .ref sl, .ref fi]))] 1 := by
  refine Tw.of RL rfl [(0, .ref x), (1, vI d), (2, vI s0), (3, vI i), (4, .ref out)] rfl (by decide +kernel) (Nat.le_of_ble_eq_true rfl) ?_
  intro p e s m args below meth c F htab hr hlocks hK hX hZ hP ls hl
  refine lv_aload F.1 F.2.1 dL_segment_0 (lv_at hl 4 rfl) ?_
  refine rr_iconst F dL_segment_2 ?_
  refine lv_aload_n F.1 F.2.1 dL_segment_3 rfl (lv_at hl 0 rfl) ?_
  refine lv_iload_n F.1 F.2.1 dL_segment_4 rfl (lv_at hl 1 rfl) ?_
  refine lv_iload_n F.1 F.2.1 dL_segment_5 rfl (lv_at hl 2 rfl) ?_
  refine lv_iload_n F.1 F.2.1 dL_segment_6 rfl (lv_at hl 3 rfl) ?_
  refine rr_thrV (rest := [vI 0, .ref out]) F hK hX hZ htab (t_X6_segment_7 l hnt D cy sa x tx st sk hi sl fi d s0 i r_d r_s0 r_i h1) hP sf_X6_segment tw464 6 rfl rfl ⟨Nat.le_of_ble_eq_true rfl, Nat.le_of_ble_eq_true rfl, Nat.le_of_ble_eq_true rfl, Nat.le_of_ble_eq_true rfl⟩ hl rfl (Nat.le_of_ble_eq_true rfl) dL_segment_7 [] ⟨0, 12, 15, 23⟩ [⟨0, 12, 19, 13⟩] rfl (fun z hz => nomatch hz) (by decide) (by decide) tw400 cast_xIO (fun q9 H hS => ?_)
  refine lv_astore (lv' := [(5, .ref q9), (0, .ref x), (1, vI d), (2, vI s0), (3, vI i), (4, .ref out)]) F.1 F.2.1 dL_segment_15 hl (by decide) rfl (fun ls hl => ?_)
  refine rr_iconst F dL_segment_17 ?_
  exact rr_twret F hr hlocks hS dL_segment_18 rfl
set_option maxRecDepth 100000 in
set_option maxHeartbeats 4000000 in
theorem r_segment_37 (l : Launch) (hnt : l.stackTraces = false) (D : va_G) (cy : Nat → ClassId) (sa : Nat → Nat) (x tx sk hi sl fi : Nat) (st ws : Nat) (wc sp : Int) (r sg : Nat) (n : Int) (g q : Int → Int) (bk la na : Nat) (nw : Int) (lt ln : Int → Int) (bl : Int → Int) (bc : Int → Int → Int) (d s0 i : Int) (out : Nat) (hG : RG n g q) (hB : BK nw lt ln bl bc) (r_d : inR d) (r_s0 : inR s0) (r_i : inR i) (h1 : 0 ≤ d ∧ d ≤ 1) (h2 : ¬ (0 ≤ s0 ∧ s0 < cnt (fun p => 0 < seg n q p d) n)) : Tw l yL_segment cL_segment 6 (some FieldType.int) [(0, 12, 15, 23), (0, 12, 19, 13)] 7 [.ref x, vI d, vI s0, vI i, .ref out] D cy sa [(x, .inr (6, [.ref tx, .ref st, .ref sk, .ref hi, .ref sl, .ref fi])), (st, .inr (3, [.ref r, .ref bk, .ref ws, vI wc, vI sp])), (r, .inr (2, [.ref sg, vI n])), (sg, .inl (cy 0, 24, .inl (iA g))), (bk, .inr (0, [.ref la, .ref na, vI nw])), (la, .inl (cy 0, 60, .inl (iA lt))), (na, .inl (cy 1, 10, .inl (iA ln)))] 1 := by
  refine Tw.of RL rfl [(0, .ref x), (1, vI d), (2, vI s0), (3, vI i), (4, .ref out)] rfl (by decide +kernel) (Nat.le_of_ble_eq_true rfl) ?_
  intro p e s m args below meth c F htab hr hlocks hK hX hZ hP ls hl
  refine lv_aload F.1 F.2.1 dL_segment_0 (lv_at hl 4 rfl) ?_
  refine rr_iconst F dL_segment_2 ?_
  refine lv_aload_n F.1 F.2.1 dL_segment_3 rfl (lv_at hl 0 rfl) ?_
  refine lv_iload_n F.1 F.2.1 dL_segment_4 rfl (lv_at hl 1 rfl) ?_
  refine lv_iload_n F.1 F.2.1 dL_segment_5 rfl (lv_at hl 2 rfl) ?_
  refine lv_iload_n F.1 F.2.1 dL_segment_6 rfl (lv_at hl 3 rfl) ?_
  refine rr_thrV (rest := [vI 0, .ref out]) F hK hX hZ htab (t_X6_segment_37 l hnt D cy sa x tx sk hi sl fi st ws wc sp r sg n g q bk la na nw lt ln bl bc d s0 i hG hB r_d r_s0 r_i h1 h2) hP sf_X6_segment tw464 6 rfl rfl ⟨Nat.le_of_ble_eq_true rfl, Nat.le_of_ble_eq_true rfl, Nat.le_of_ble_eq_true rfl, Nat.le_of_ble_eq_true rfl⟩ hl rfl (Nat.le_of_ble_eq_true rfl) dL_segment_7 [] ⟨0, 12, 15, 23⟩ [⟨0, 12, 19, 13⟩] rfl (fun z hz => nomatch hz) (by decide) (by decide) tw400 cast_xIO (fun q9 H hS => ?_)
  refine lv_astore (lv' := [(5, .ref q9), (0, .ref x), (1, vI d), (2, vI s0), (3, vI i), (4, .ref out)]) F.1 F.2.1 dL_segment_15 hl (by decide) rfl (fun ls hl => ?_)
  refine rr_iconst F dL_segment_17 ?_
  exact rr_twret F hr hlocks hS dL_segment_18 rfl
set_option maxRecDepth 100000 in
set_option maxHeartbeats 4000000 in
theorem r_segment_56 (l : Launch) (hnt : l.stackTraces = false) (D : va_G) (cy : Nat → ClassId) (sa : Nat → Nat) (x tx sk hi sl fi : Nat) (st ws : Nat) (wc sp : Int) (r sg : Nat) (n : Int) (g q : Int → Int) (bk la na : Nat) (nw : Int) (lt ln : Int → Int) (bl : Int → Int) (bc : Int → Int → Int) (d s0 i : Int) (out : Nat) (hG : RG n g q) (hB : BK nw lt ln bl bc) (r_d : inR d) (r_s0 : inR s0) (r_i : inR i) (h1 : 0 ≤ d ∧ d ≤ 1) (h2 : 0 ≤ s0 ∧ s0 < cnt (fun p => 0 < seg n q p d) n) (h3 : ¬ (0 ≤ i ∧ i ≤ 4)) : Tw l yL_segment cL_segment 6 (some FieldType.int) [(0, 12, 15, 23), (0, 12, 19, 13)] 7 [.ref x, vI d, vI s0, vI i, .ref out] D cy sa [(x, .inr (6, [.ref tx, .ref st, .ref sk, .ref hi, .ref sl, .ref fi])), (st, .inr (3, [.ref r, .ref bk, .ref ws, vI wc, vI sp])), (r, .inr (2, [.ref sg, vI n])), (sg, .inl (cy 0, 24, .inl (iA g))), (bk, .inr (0, [.ref la, .ref na, vI nw])), (la, .inl (cy 0, 60, .inl (iA lt))), (na, .inl (cy 1, 10, .inl (iA ln)))] 2 := by
  refine Tw.of RL rfl [(0, .ref x), (1, vI d), (2, vI s0), (3, vI i), (4, .ref out)] rfl (by decide +kernel) (Nat.le_of_ble_eq_true rfl) ?_
  intro p e s m args below meth c F htab hr hlocks hK hX hZ hP ls hl
  refine lv_aload F.1 F.2.1 dL_segment_0 (lv_at hl 4 rfl) ?_
  refine rr_iconst F dL_segment_2 ?_
  refine lv_aload_n F.1 F.2.1 dL_segment_3 rfl (lv_at hl 0 rfl) ?_
  refine lv_iload_n F.1 F.2.1 dL_segment_4 rfl (lv_at hl 1 rfl) ?_
  refine lv_iload_n F.1 F.2.1 dL_segment_5 rfl (lv_at hl 2 rfl) ?_
  refine lv_iload_n F.1 F.2.1 dL_segment_6 rfl (lv_at hl 3 rfl) ?_
  refine rr_thrV (rest := [vI 0, .ref out]) F hK hX hZ htab (t_X6_segment_56 l hnt D cy sa x tx sk hi sl fi st ws wc sp r sg n g q bk la na nw lt ln bl bc d s0 i hG hB r_d r_s0 r_i h1 h2 h3) hP sf_X6_segment tw464 6 rfl rfl ⟨Nat.le_of_ble_eq_true rfl, Nat.le_of_ble_eq_true rfl, Nat.le_of_ble_eq_true rfl, Nat.le_of_ble_eq_true rfl⟩ hl rfl (Nat.le_of_ble_eq_true rfl) dL_segment_7 [⟨0, 12, 15, 23⟩] ⟨0, 12, 19, 13⟩ [] rfl (List.forall_mem_cons.mpr ⟨⟨by decide, xIO, tw400, by decide +kernel⟩, (fun z hz => nomatch hz)⟩) (by decide) (by decide) tw266 cast_xIA (fun q9 H hS => ?_)
  refine lv_astore (lv' := [(5, .ref q9), (0, .ref x), (1, vI d), (2, vI s0), (3, vI i), (4, .ref out)]) F.1 F.2.1 dL_segment_19 hl (by decide) rfl (fun ls hl => ?_)
  refine rr_iconst F dL_segment_21 ?_
  exact rr_twret F hr hlocks hS dL_segment_22 rfl
set_option maxRecDepth 100000 in
set_option maxHeartbeats 4000000 in
theorem r_find_21 (l : Launch) (hnt : l.stackTraces = false) (D : va_G) (cy : Nat → ClassId) (sa : Nat → Nat) (x tx sk hi sl fi : Nat) (st ws : Nat) (wc sp : Int) (r sg : Nat) (n : Int) (g q : Int → Int) (bk la na : Nat) (nw : Int) (lt ln : Int → Int) (bl : Int → Int) (bc : Int → Int → Int) (w d kk : Int) (out : Nat) (hG : RG n g q) (hB : BK nw lt ln bl bc) (r_w : inR w) (r_d : inR d) (r_kk : inR kk) (h1 : ¬ ((0 ≤ w ∧ w < nw) ∧ 0 ≤ d ∧ d ≤ 1)) : Tw l yL_find cL_find 6 (some FieldType.int) [(0, 12, 15, 23), (0, 12, 19, 13)] 7 [.ref x, vI w, vI d, vI kk, .ref out] D cy sa [(x, .inr (6, [.ref tx, .ref st, .ref sk, .ref hi, .ref sl, .ref fi])), (st, .inr (3, [.ref r, .ref bk, .ref ws, vI wc, vI sp])), (r, .inr (2, [.ref sg, vI n])), (sg, .inl (cy 0, 24, .inl (iA g))), (bk, .inr (0, [.ref la, .ref na, vI nw])), (la, .inl (cy 0, 60, .inl (iA lt))), (na, .inl (cy 1, 10, .inl (iA ln)))] 1 := by
  refine Tw.of RL rfl [(0, .ref x), (1, vI w), (2, vI d), (3, vI kk), (4, .ref out)] rfl (by decide +kernel) (Nat.le_of_ble_eq_true rfl) ?_
  intro p e s m args below meth c F htab hr hlocks hK hX hZ hP ls hl
  refine lv_aload F.1 F.2.1 dL_find_0 (lv_at hl 4 rfl) ?_
  refine rr_iconst F dL_find_2 ?_
  refine lv_aload_n F.1 F.2.1 dL_find_3 rfl (lv_at hl 0 rfl) ?_
  refine lv_iload_n F.1 F.2.1 dL_find_4 rfl (lv_at hl 1 rfl) ?_
  refine lv_iload_n F.1 F.2.1 dL_find_5 rfl (lv_at hl 2 rfl) ?_
  refine lv_iload_n F.1 F.2.1 dL_find_6 rfl (lv_at hl 3 rfl) ?_
  refine rr_thrV (rest := [vI 0, .ref out]) F hK hX hZ htab (t_X6_find_21 l hnt D cy sa x tx sk hi sl fi st ws wc sp r sg n g q bk la na nw lt ln bl bc w d kk hG hB r_w r_d r_kk h1) hP sf_X6_find tw483 6 rfl rfl ⟨Nat.le_of_ble_eq_true rfl, Nat.le_of_ble_eq_true rfl, Nat.le_of_ble_eq_true rfl, Nat.le_of_ble_eq_true rfl⟩ hl rfl (Nat.le_of_ble_eq_true rfl) dL_find_7 [] ⟨0, 12, 15, 23⟩ [⟨0, 12, 19, 13⟩] rfl (fun z hz => nomatch hz) (by decide) (by decide) tw400 cast_xIO (fun q9 H hS => ?_)
  refine lv_astore (lv' := [(5, .ref q9), (0, .ref x), (1, vI w), (2, vI d), (3, vI kk), (4, .ref out)]) F.1 F.2.1 dL_find_15 hl (by decide) rfl (fun ls hl => ?_)
  refine rr_iconst F dL_find_17 ?_
  exact rr_twret F hr hlocks hS dL_find_18 rfl
set_option maxRecDepth 100000 in
set_option maxHeartbeats 4000000 in
theorem r_find_35 (l : Launch) (hnt : l.stackTraces = false) (D : va_G) (cy : Nat → ClassId) (sa : Nat → Nat) (x tx sk hi sl fi : Nat) (st ws : Nat) (wc sp : Int) (r sg : Nat) (n : Int) (g q : Int → Int) (bk la na : Nat) (nw : Int) (lt ln : Int → Int) (bl : Int → Int) (bc : Int → Int → Int) (w d kk : Int) (out : Nat) (hG : RG n g q) (hB : BK nw lt ln bl bc) (r_w : inR w) (r_d : inR d) (r_kk : inR kk) (h1 : (0 ≤ w ∧ w < nw) ∧ 0 ≤ d ∧ d ≤ 1) (h2 : ¬ 0 ≤ kk) : Tw l yL_find cL_find 6 (some FieldType.int) [(0, 12, 15, 23), (0, 12, 19, 13)] 7 [.ref x, vI w, vI d, vI kk, .ref out] D cy sa [(x, .inr (6, [.ref tx, .ref st, .ref sk, .ref hi, .ref sl, .ref fi])), (st, .inr (3, [.ref r, .ref bk, .ref ws, vI wc, vI sp])), (r, .inr (2, [.ref sg, vI n])), (sg, .inl (cy 0, 24, .inl (iA g))), (bk, .inr (0, [.ref la, .ref na, vI nw])), (la, .inl (cy 0, 60, .inl (iA lt))), (na, .inl (cy 1, 10, .inl (iA ln)))] 2 := by
  refine Tw.of RL rfl [(0, .ref x), (1, vI w), (2, vI d), (3, vI kk), (4, .ref out)] rfl (by decide +kernel) (Nat.le_of_ble_eq_true rfl) ?_
  intro p e s m args below meth c F htab hr hlocks hK hX hZ hP ls hl
  refine lv_aload F.1 F.2.1 dL_find_0 (lv_at hl 4 rfl) ?_
  refine rr_iconst F dL_find_2 ?_
  refine lv_aload_n F.1 F.2.1 dL_find_3 rfl (lv_at hl 0 rfl) ?_
  refine lv_iload_n F.1 F.2.1 dL_find_4 rfl (lv_at hl 1 rfl) ?_
  refine lv_iload_n F.1 F.2.1 dL_find_5 rfl (lv_at hl 2 rfl) ?_
  refine lv_iload_n F.1 F.2.1 dL_find_6 rfl (lv_at hl 3 rfl) ?_
  refine rr_thrV (rest := [vI 0, .ref out]) F hK hX hZ htab (t_X6_find_35 l hnt D cy sa x tx sk hi sl fi st ws wc sp r sg n g q bk la na nw lt ln bl bc w d kk hG hB r_w r_d r_kk h1 h2) hP sf_X6_find tw483 6 rfl rfl ⟨Nat.le_of_ble_eq_true rfl, Nat.le_of_ble_eq_true rfl, Nat.le_of_ble_eq_true rfl, Nat.le_of_ble_eq_true rfl⟩ hl rfl (Nat.le_of_ble_eq_true rfl) dL_find_7 [⟨0, 12, 15, 23⟩] ⟨0, 12, 19, 13⟩ [] rfl (List.forall_mem_cons.mpr ⟨⟨by decide, xIO, tw400, by decide +kernel⟩, (fun z hz => nomatch hz)⟩) (by decide) (by decide) tw266 cast_xIA (fun q9 H hS => ?_)
  refine lv_astore (lv' := [(5, .ref q9), (0, .ref x), (1, vI w), (2, vI d), (3, vI kk), (4, .ref out)]) F.1 F.2.1 dL_find_19 hl (by decide) rfl (fun ls hl => ?_)
  refine rr_iconst F dL_find_21 ?_
  exact rr_twret F hr hlocks hS dL_find_22 rfl
set_option maxRecDepth 100000 in
set_option maxHeartbeats 4000000 in
theorem r_walker_11 (l : Launch) (hnt : l.stackTraces = false) (D : va_G) (cy : Nat → ClassId) (sa : Nat → Nat) (x tx st sk hi sl fi r bk ws : Nat) (wc sp : Int) (w i : Int) (out : Nat) (hc : 0 ≤ wc ∧ wc ≤ 4) (r_w : inR w) (r_i : inR i) (h1 : ¬ (0 ≤ w ∧ w < wc)) : Tw l yL_walker cL_walker 5 (some FieldType.int) [(0, 10, 13, 23), (0, 10, 17, 13)] 7 [.ref x, vI w, vI i, .ref out] D cy sa [(x, .inr (6, [.ref tx, .ref st, .ref sk, .ref hi, .ref sl, .ref fi])), (st, .inr (3, [.ref r, .ref bk, .ref ws, vI wc, vI sp]))] 1 := by
  refine Tw.of RL rfl [(0, .ref x), (1, vI w), (2, vI i), (3, .ref out)] rfl (by decide +kernel) (Nat.le_of_ble_eq_true rfl) ?_
  intro p e s m args below meth c F htab hr hlocks hK hX hZ hP ls hl
  refine lv_aload_n F.1 F.2.1 dL_walker_0 rfl (lv_at hl 3 rfl) ?_
  refine rr_iconst F dL_walker_1 ?_
  refine lv_aload_n F.1 F.2.1 dL_walker_2 rfl (lv_at hl 0 rfl) ?_
  refine lv_iload_n F.1 F.2.1 dL_walker_3 rfl (lv_at hl 1 rfl) ?_
  refine lv_iload_n F.1 F.2.1 dL_walker_4 rfl (lv_at hl 2 rfl) ?_
  refine rr_thrV (rest := [vI 0, .ref out]) F hK hX hZ htab (t_X6_walker_11 l hnt D cy sa x tx st sk hi sl fi r bk ws wc sp w i hc r_w r_i h1) hP sf_X6_walker tw496 6 rfl rfl ⟨Nat.le_of_ble_eq_true rfl, Nat.le_of_ble_eq_true rfl, Nat.le_of_ble_eq_true rfl, Nat.le_of_ble_eq_true rfl⟩ hl rfl (Nat.le_of_ble_eq_true rfl) dL_walker_5 [] ⟨0, 10, 13, 23⟩ [⟨0, 10, 17, 13⟩] rfl (fun z hz => nomatch hz) (by decide) (by decide) tw400 cast_xIO (fun q9 H hS => ?_)
  refine lv_astore (lv' := [(4, .ref q9), (0, .ref x), (1, vI w), (2, vI i), (3, .ref out)]) F.1 F.2.1 dL_walker_13 hl (by decide) rfl (fun ls hl => ?_)
  refine rr_iconst F dL_walker_15 ?_
  exact rr_twret F hr hlocks hS dL_walker_16 rfl
set_option maxRecDepth 100000 in
set_option maxHeartbeats 4000000 in
theorem r_walker_31 (l : Launch) (hnt : l.stackTraces = false) (D : va_G) (cy : Nat → ClassId) (sa : Nat → Nat) (x tx st sk hi sl fi r bk ws : Nat) (wc sp : Int) (w i : Int) (out : Nat) (hc : 0 ≤ wc ∧ wc ≤ 4) (r_w : inR w) (r_i : inR i) (h1 : 0 ≤ w ∧ w < wc) (h2 : ¬ (0 ≤ i ∧ i ≤ 6)) : Tw l yL_walker cL_walker 5 (some FieldType.int) [(0, 10, 13, 23), (0, 10, 17, 13)] 7 [.ref x, vI w, vI i, .ref out] D cy sa [(x, .inr (6, [.ref tx, .ref st, .ref sk, .ref hi, .ref sl, .ref fi])), (st, .inr (3, [.ref r, .ref bk, .ref ws, vI wc, vI sp]))] 2 := by
  refine Tw.of RL rfl [(0, .ref x), (1, vI w), (2, vI i), (3, .ref out)] rfl (by decide +kernel) (Nat.le_of_ble_eq_true rfl) ?_
  intro p e s m args below meth c F htab hr hlocks hK hX hZ hP ls hl
  refine lv_aload_n F.1 F.2.1 dL_walker_0 rfl (lv_at hl 3 rfl) ?_
  refine rr_iconst F dL_walker_1 ?_
  refine lv_aload_n F.1 F.2.1 dL_walker_2 rfl (lv_at hl 0 rfl) ?_
  refine lv_iload_n F.1 F.2.1 dL_walker_3 rfl (lv_at hl 1 rfl) ?_
  refine lv_iload_n F.1 F.2.1 dL_walker_4 rfl (lv_at hl 2 rfl) ?_
  refine rr_thrV (rest := [vI 0, .ref out]) F hK hX hZ htab (t_X6_walker_31 l hnt D cy sa x tx st sk hi sl fi r bk ws wc sp w i hc r_w r_i h1 h2) hP sf_X6_walker tw496 6 rfl rfl ⟨Nat.le_of_ble_eq_true rfl, Nat.le_of_ble_eq_true rfl, Nat.le_of_ble_eq_true rfl, Nat.le_of_ble_eq_true rfl⟩ hl rfl (Nat.le_of_ble_eq_true rfl) dL_walker_5 [⟨0, 10, 13, 23⟩] ⟨0, 10, 17, 13⟩ [] rfl (List.forall_mem_cons.mpr ⟨⟨by decide, xIO, tw400, by decide +kernel⟩, (fun z hz => nomatch hz)⟩) (by decide) (by decide) tw266 cast_xIA (fun q9 H hS => ?_)
  refine lv_astore (lv' := [(4, .ref q9), (0, .ref x), (1, vI w), (2, vI i), (3, .ref out)]) F.1 F.2.1 dL_walker_17 hl (by decide) rfl (fun ls hl => ?_)
  refine rr_iconst F dL_walker_19 ?_
  exact rr_twret F hr hlocks hS dL_walker_20 rfl
set_option maxRecDepth 100000 in
set_option maxHeartbeats 4000000 in
theorem r_ring_12 (l : Launch) (hnt : l.stackTraces = false) (D : va_G) (cy : Nat → ClassId) (sa : Nat → Nat) (x st sk hi sl fi : Nat) (tx ta : Nat) (tl : Int) (tc : Int → Int) (out : Nat) (hT : (0 ≤ tl ∧ tl ≤ 40) ∧ CH 40 tc) (h1 : ¬ ferr tl tc 0 = -1) : Tw l yL_ring cL_ring 3 (some FieldType.int) [(0, 8, 11, 15)] 7 [.ref x, .ref out] D cy sa [(x, .inr (6, [.ref tx, .ref st, .ref sk, .ref hi, .ref sl, .ref fi])), (tx, .inr (4, [.ref ta, vI tl])), (ta, .inl (cy 0, 40, .inl (iA tc)))] 1 := by
  refine Tw.of RL rfl [(0, .ref x), (1, .ref out)] rfl (by decide +kernel) (Nat.le_of_ble_eq_true rfl) ?_
  intro p e s m args below meth c F htab hr hlocks hK hX hZ hP ls hl
  refine lv_aload_n F.1 F.2.1 dL_ring_0 rfl (lv_at hl 1 rfl) ?_
  refine rr_iconst F dL_ring_1 ?_
  refine lv_aload_n F.1 F.2.1 dL_ring_2 rfl (lv_at hl 0 rfl) ?_
  refine rr_thrV (rest := [vI 0, .ref out]) F hK hX hZ htab (t_X6_ring_12 l hnt D cy sa x st sk hi sl fi tx ta tl tc hT h1) hP sf_X6_ring tw529 6 rfl rfl ⟨Nat.le_of_ble_eq_true rfl, Nat.le_of_ble_eq_true rfl, Nat.le_of_ble_eq_true rfl, Nat.le_of_ble_eq_true rfl⟩ hl rfl (Nat.le_of_ble_eq_true rfl) dL_ring_3 [] ⟨0, 8, 11, 15⟩ [] rfl (fun z hz => nomatch hz) (by decide) (by decide) tw267 cast_xIS (fun q9 H hS => ?_)
  refine lv_astore_n (lv' := [(2, .ref q9), (0, .ref x), (1, .ref out)]) F.1 F.2.1 dL_ring_11 rfl hl (by decide) rfl (fun ls hl => ?_)
  refine rr_iconst F dL_ring_12 ?_
  exact rr_twret F hr hlocks hS dL_ring_13 rfl
set_option maxRecDepth 100000 in
set_option maxHeartbeats 4000000 in
theorem r_addWord_12 (l : Launch) (hnt : l.stackTraces = false) (D : va_G) (cy : Nat → ClassId) (sa : Nat → Nat) (x st sk hi sl fi : Nat) (tx ta : Nat) (tl : Int) (tc : Int → Int) (out : Nat) (hT : (0 ≤ tl ∧ tl ≤ 40) ∧ CH 40 tc) (h1 : ¬ ferr tl tc 1 = -1) : Tw l yL_addWord cL_addWord 3 (some FieldType.int) [(0, 8, 11, 15)] 7 [.ref x, .ref out] D cy sa [(x, .inr (6, [.ref tx, .ref st, .ref sk, .ref hi, .ref sl, .ref fi])), (tx, .inr (4, [.ref ta, vI tl])), (ta, .inl (cy 0, 40, .inl (iA tc)))] 1 := by
  refine Tw.of RL rfl [(0, .ref x), (1, .ref out)] rfl (by decide +kernel) (Nat.le_of_ble_eq_true rfl) ?_
  intro p e s m args below meth c F htab hr hlocks hK hX hZ hP ls hl
  refine lv_aload_n F.1 F.2.1 dL_addWord_0 rfl (lv_at hl 1 rfl) ?_
  refine rr_iconst F dL_addWord_1 ?_
  refine lv_aload_n F.1 F.2.1 dL_addWord_2 rfl (lv_at hl 0 rfl) ?_
  refine rr_thrV (rest := [vI 0, .ref out]) F hK hX hZ htab (t_X6_addWord_12 l hnt D cy sa x st sk hi sl fi tx ta tl tc hT h1) hP sf_X6_addWord tw572 6 rfl rfl ⟨Nat.le_of_ble_eq_true rfl, Nat.le_of_ble_eq_true rfl, Nat.le_of_ble_eq_true rfl, Nat.le_of_ble_eq_true rfl⟩ hl rfl (Nat.le_of_ble_eq_true rfl) dL_addWord_3 [] ⟨0, 8, 11, 15⟩ [] rfl (fun z hz => nomatch hz) (by decide) (by decide) tw267 cast_xIS (fun q9 H hS => ?_)
  refine lv_astore_n (lv' := [(2, .ref q9), (0, .ref x), (1, .ref out)]) F.1 F.2.1 dL_addWord_11 rfl hl (by decide) rfl (fun ls hl => ?_)
  refine rr_iconst F dL_addWord_12 ?_
  exact rr_twret F hr hlocks hS dL_addWord_13 rfl
set_option maxRecDepth 100000 in
set_option maxHeartbeats 4000000 in
theorem r_addWord_35 (l : Launch) (hnt : l.stackTraces = false) (D : va_G) (cy : Nat → ClassId) (sa : Nat → Nat) (x sk hi sl fi : Nat) (st ws : Nat) (wc sp : Int) (r sg : Nat) (n : Int) (g q : Int → Int) (bk la na : Nat) (nw : Int) (lt ln : Int → Int) (bl : Int → Int) (bc : Int → Int → Int) (tx ta : Nat) (tl : Int) (tc : Int → Int) (out : Nat) (hG : RG n g q) (hB : BK nw lt ln bl bc) (hT : (0 ≤ tl ∧ tl ≤ 40) ∧ CH 40 tc) (h1 : ferr tl tc 1 = -1) (h2 : ¬ nw < 10) : Tw l yL_addWord cL_addWord 3 (some FieldType.int) [(0, 8, 11, 15)] 7 [.ref x, .ref out] D cy sa [(x, .inr (6, [.ref tx, .ref st, .ref sk, .ref hi, .ref sl, .ref fi])), (tx, .inr (4, [.ref ta, vI tl])), (ta, .inl (cy 0, 40, .inl (iA tc))), (st, .inr (3, [.ref r, .ref bk, .ref ws, vI wc, vI sp])), (r, .inr (2, [.ref sg, vI n])), (sg, .inl (cy 0, 24, .inl (iA g))), (bk, .inr (0, [.ref la, .ref na, vI nw])), (la, .inl (cy 0, 60, .inl (iA lt))), (na, .inl (cy 1, 10, .inl (iA ln)))] 1 := by
  refine Tw.of RL rfl [(0, .ref x), (1, .ref out)] rfl (by decide +kernel) (Nat.le_of_ble_eq_true rfl) ?_
  intro p e s m args below meth c F htab hr hlocks hK hX hZ hP ls hl
  refine lv_aload_n F.1 F.2.1 dL_addWord_0 rfl (lv_at hl 1 rfl) ?_
  refine rr_iconst F dL_addWord_1 ?_
  refine lv_aload_n F.1 F.2.1 dL_addWord_2 rfl (lv_at hl 0 rfl) ?_
  refine rr_thrV (rest := [vI 0, .ref out]) F hK hX hZ htab (t_X6_addWord_35 l hnt D cy sa x sk hi sl fi st ws wc sp r sg n g q bk la na nw lt ln bl bc tx ta tl tc hG hB hT h1 h2) hP sf_X6_addWord tw572 6 rfl rfl ⟨Nat.le_of_ble_eq_true rfl, Nat.le_of_ble_eq_true rfl, Nat.le_of_ble_eq_true rfl, Nat.le_of_ble_eq_true rfl⟩ hl rfl (Nat.le_of_ble_eq_true rfl) dL_addWord_3 [] ⟨0, 8, 11, 15⟩ [] rfl (fun z hz => nomatch hz) (by decide) (by decide) tw267 cast_xIS (fun q9 H hS => ?_)
  refine lv_astore_n (lv' := [(2, .ref q9), (0, .ref x), (1, .ref out)]) F.1 F.2.1 dL_addWord_11 rfl hl (by decide) rfl (fun ls hl => ?_)
  refine rr_iconst F dL_addWord_12 ?_
  exact rr_twret F hr hlocks hS dL_addWord_13 rfl
set_option maxRecDepth 100000 in
set_option maxHeartbeats 4000000 in
theorem r_removeWord_14 (l : Launch) (hnt : l.stackTraces = false) (D : va_G) (cy : Nat → ClassId) (sa : Nat → Nat) (x tx sk hi sl fi : Nat) (st ws : Nat) (wc sp : Int) (r sg : Nat) (n : Int) (g q : Int → Int) (bk la na : Nat) (nw : Int) (lt ln : Int → Int) (bl : Int → Int) (bc : Int → Int → Int) (w : Int) (out : Nat) (hG : RG n g q) (hB : BK nw lt ln bl bc) (r_w : inR w) (h1 : ¬ (0 ≤ w ∧ w < nw)) : Tw l yL_removeWord cL_removeWord 4 (some FieldType.int) [(0, 9, 12, 23)] 7 [.ref x, vI w, .ref out] D cy sa [(x, .inr (6, [.ref tx, .ref st, .ref sk, .ref hi, .ref sl, .ref fi])), (st, .inr (3, [.ref r, .ref bk, .ref ws, vI wc, vI sp])), (r, .inr (2, [.ref sg, vI n])), (sg, .inl (cy 0, 24, .inl (iA g))), (bk, .inr (0, [.ref la, .ref na, vI nw])), (la, .inl (cy 0, 60, .inl (iA lt))), (na, .inl (cy 1, 10, .inl (iA ln)))] 1 := by
  refine Tw.of RL rfl [(0, .ref x), (1, vI w), (2, .ref out)] rfl (by decide +kernel) (Nat.le_of_ble_eq_true rfl) ?_
  intro p e s m args below meth c F htab hr hlocks hK hX hZ hP ls hl
  refine lv_aload_n F.1 F.2.1 dL_removeWord_0 rfl (lv_at hl 2 rfl) ?_
  refine rr_iconst F dL_removeWord_1 ?_
  refine lv_aload_n F.1 F.2.1 dL_removeWord_2 rfl (lv_at hl 0 rfl) ?_
  refine lv_iload_n F.1 F.2.1 dL_removeWord_3 rfl (lv_at hl 1 rfl) ?_
  refine rr_thrV (rest := [vI 0, .ref out]) F hK hX hZ htab (t_X6_removeWord_14 l hnt D cy sa x tx sk hi sl fi st ws wc sp r sg n g q bk la na nw lt ln bl bc w hG hB r_w h1) hP sf_X6_removeWord tw591 6 rfl rfl ⟨Nat.le_of_ble_eq_true rfl, Nat.le_of_ble_eq_true rfl, Nat.le_of_ble_eq_true rfl, Nat.le_of_ble_eq_true rfl⟩ hl rfl (Nat.le_of_ble_eq_true rfl) dL_removeWord_4 [] ⟨0, 9, 12, 23⟩ [] rfl (fun z hz => nomatch hz) (by decide) (by decide) tw400 cast_xIO (fun q9 H hS => ?_)
  refine lv_astore_n (lv' := [(3, .ref q9), (0, .ref x), (1, vI w), (2, .ref out)]) F.1 F.2.1 dL_removeWord_12 rfl hl (by decide) rfl (fun ls hl => ?_)
  refine rr_iconst F dL_removeWord_13 ?_
  exact rr_twret F hr hlocks hS dL_removeWord_14 rfl
set_option maxRecDepth 100000 in
set_option maxHeartbeats 4000000 in
theorem r_carve_14 (l : Launch) (hnt : l.stackTraces = false) (D : va_G) (cy : Nat → ClassId) (sa : Nat → Nat) (x tx sk hi sl fi : Nat) (st ws : Nat) (wc sp : Int) (r sg : Nat) (n : Int) (g q : Int → Int) (bk la na : Nat) (nw : Int) (lt ln : Int → Int) (bl : Int → Int) (bc : Int → Int → Int) (i c0 : Int) (out : Nat) (hG : RG n g q) (hB : BK nw lt ln bl bc) (r_i : inR i) (r_c0 : inR c0) (h1 : ¬ (0 ≤ i ∧ i < n)) : Tw l yL_carve cL_carve 5 (some FieldType.int) [(0, 10, 13, 23), (0, 10, 17, 13)] 7 [.ref x, vI i, vI c0, .ref out] D cy sa [(x, .inr (6, [.ref tx, .ref st, .ref sk, .ref hi, .ref sl, .ref fi])), (st, .inr (3, [.ref r, .ref bk, .ref ws, vI wc, vI sp])), (r, .inr (2, [.ref sg, vI n])), (sg, .inl (cy 0, 24, .inl (iA g))), (bk, .inr (0, [.ref la, .ref na, vI nw])), (la, .inl (cy 0, 60, .inl (iA lt))), (na, .inl (cy 1, 10, .inl (iA ln)))] 1 := by
  refine Tw.of RL rfl [(0, .ref x), (1, vI i), (2, vI c0), (3, .ref out)] rfl (by decide +kernel) (Nat.le_of_ble_eq_true rfl) ?_
  intro p e s m args below meth c F htab hr hlocks hK hX hZ hP ls hl
  refine lv_aload_n F.1 F.2.1 dL_carve_0 rfl (lv_at hl 3 rfl) ?_
  refine rr_iconst F dL_carve_1 ?_
  refine lv_aload_n F.1 F.2.1 dL_carve_2 rfl (lv_at hl 0 rfl) ?_
  refine lv_iload_n F.1 F.2.1 dL_carve_3 rfl (lv_at hl 1 rfl) ?_
  refine lv_iload_n F.1 F.2.1 dL_carve_4 rfl (lv_at hl 2 rfl) ?_
  refine rr_thrV (rest := [vI 0, .ref out]) F hK hX hZ htab (t_X6_carve_14 l hnt D cy sa x tx sk hi sl fi st ws wc sp r sg n g q bk la na nw lt ln bl bc i c0 hG hB r_i r_c0 h1) hP sf_X6_carve tw603 6 rfl rfl ⟨Nat.le_of_ble_eq_true rfl, Nat.le_of_ble_eq_true rfl, Nat.le_of_ble_eq_true rfl, Nat.le_of_ble_eq_true rfl⟩ hl rfl (Nat.le_of_ble_eq_true rfl) dL_carve_5 [] ⟨0, 10, 13, 23⟩ [⟨0, 10, 17, 13⟩] rfl (fun z hz => nomatch hz) (by decide) (by decide) tw400 cast_xIO (fun q9 H hS => ?_)
  refine lv_astore (lv' := [(4, .ref q9), (0, .ref x), (1, vI i), (2, vI c0), (3, .ref out)]) F.1 F.2.1 dL_carve_13 hl (by decide) rfl (fun ls hl => ?_)
  refine rr_iconst F dL_carve_15 ?_
  exact rr_twret F hr hlocks hS dL_carve_16 rfl
set_option maxRecDepth 100000 in
set_option maxHeartbeats 4000000 in
theorem r_carve_31 (l : Launch) (hnt : l.stackTraces = false) (D : va_G) (cy : Nat → ClassId) (sa : Nat → Nat) (x tx sk hi sl fi : Nat) (st ws : Nat) (wc sp : Int) (r sg : Nat) (n : Int) (g q : Int → Int) (bk la na : Nat) (nw : Int) (lt ln : Int → Int) (bl : Int → Int) (bc : Int → Int → Int) (i c0 : Int) (out : Nat) (hG : RG n g q) (hB : BK nw lt ln bl bc) (r_i : inR i) (r_c0 : inR c0) (h1 : 0 ≤ i ∧ i < n) (h2 : ¬ (0 ≤ c0 ∧ c0 ≤ 8)) : Tw l yL_carve cL_carve 5 (some FieldType.int) [(0, 10, 13, 23), (0, 10, 17, 13)] 7 [.ref x, vI i, vI c0, .ref out] D cy sa [(x, .inr (6, [.ref tx, .ref st, .ref sk, .ref hi, .ref sl, .ref fi])), (st, .inr (3, [.ref r, .ref bk, .ref ws, vI wc, vI sp])), (r, .inr (2, [.ref sg, vI n])), (sg, .inl (cy 0, 24, .inl (iA g))), (bk, .inr (0, [.ref la, .ref na, vI nw])), (la, .inl (cy 0, 60, .inl (iA lt))), (na, .inl (cy 1, 10, .inl (iA ln)))] 2 := by
  refine Tw.of RL rfl [(0, .ref x), (1, vI i), (2, vI c0), (3, .ref out)] rfl (by decide +kernel) (Nat.le_of_ble_eq_true rfl) ?_
  intro p e s m args below meth c F htab hr hlocks hK hX hZ hP ls hl
  refine lv_aload_n F.1 F.2.1 dL_carve_0 rfl (lv_at hl 3 rfl) ?_
  refine rr_iconst F dL_carve_1 ?_
  refine lv_aload_n F.1 F.2.1 dL_carve_2 rfl (lv_at hl 0 rfl) ?_
  refine lv_iload_n F.1 F.2.1 dL_carve_3 rfl (lv_at hl 1 rfl) ?_
  refine lv_iload_n F.1 F.2.1 dL_carve_4 rfl (lv_at hl 2 rfl) ?_
  refine rr_thrV (rest := [vI 0, .ref out]) F hK hX hZ htab (t_X6_carve_31 l hnt D cy sa x tx sk hi sl fi st ws wc sp r sg n g q bk la na nw lt ln bl bc i c0 hG hB r_i r_c0 h1 h2) hP sf_X6_carve tw603 6 rfl rfl ⟨Nat.le_of_ble_eq_true rfl, Nat.le_of_ble_eq_true rfl, Nat.le_of_ble_eq_true rfl, Nat.le_of_ble_eq_true rfl⟩ hl rfl (Nat.le_of_ble_eq_true rfl) dL_carve_5 [⟨0, 10, 13, 23⟩] ⟨0, 10, 17, 13⟩ [] rfl (List.forall_mem_cons.mpr ⟨⟨by decide, xIO, tw400, by decide +kernel⟩, (fun z hz => nomatch hz)⟩) (by decide) (by decide) tw266 cast_xIA (fun q9 H hS => ?_)
  refine lv_astore (lv' := [(4, .ref q9), (0, .ref x), (1, vI i), (2, vI c0), (3, .ref out)]) F.1 F.2.1 dL_carve_17 hl (by decide) rfl (fun ls hl => ?_)
  refine rr_iconst F dL_carve_19 ?_
  exact rr_twret F hr hlocks hS dL_carve_20 rfl
set_option maxRecDepth 100000 in
set_option maxHeartbeats 4000000 in
theorem r_wear_14 (l : Launch) (hnt : l.stackTraces = false) (D : va_G) (cy : Nat → ClassId) (sa : Nat → Nat) (x tx sk hi sl fi : Nat) (st ws : Nat) (wc sp : Int) (r sg : Nat) (n : Int) (g q : Int → Int) (bk la na : Nat) (nw : Int) (lt ln : Int → Int) (bl : Int → Int) (bc : Int → Int → Int) (i : Int) (out : Nat) (hG : RG n g q) (hB : BK nw lt ln bl bc) (r_i : inR i) (h1 : ¬ (0 ≤ i ∧ i < n)) : Tw l yL_wear cL_wear 4 (some FieldType.int) [(0, 9, 12, 23)] 7 [.ref x, vI i, .ref out] D cy sa [(x, .inr (6, [.ref tx, .ref st, .ref sk, .ref hi, .ref sl, .ref fi])), (st, .inr (3, [.ref r, .ref bk, .ref ws, vI wc, vI sp])), (r, .inr (2, [.ref sg, vI n])), (sg, .inl (cy 0, 24, .inl (iA g))), (bk, .inr (0, [.ref la, .ref na, vI nw])), (la, .inl (cy 0, 60, .inl (iA lt))), (na, .inl (cy 1, 10, .inl (iA ln)))] 1 := by
  refine Tw.of RL rfl [(0, .ref x), (1, vI i), (2, .ref out)] rfl (by decide +kernel) (Nat.le_of_ble_eq_true rfl) ?_
  intro p e s m args below meth c F htab hr hlocks hK hX hZ hP ls hl
  refine lv_aload_n F.1 F.2.1 dL_wear_0 rfl (lv_at hl 2 rfl) ?_
  refine rr_iconst F dL_wear_1 ?_
  refine lv_aload_n F.1 F.2.1 dL_wear_2 rfl (lv_at hl 0 rfl) ?_
  refine lv_iload_n F.1 F.2.1 dL_wear_3 rfl (lv_at hl 1 rfl) ?_
  refine rr_thrV (rest := [vI 0, .ref out]) F hK hX hZ htab (t_X6_wear_14 l hnt D cy sa x tx sk hi sl fi st ws wc sp r sg n g q bk la na nw lt ln bl bc i hG hB r_i h1) hP sf_X6_wear tw628 6 rfl rfl ⟨Nat.le_of_ble_eq_true rfl, Nat.le_of_ble_eq_true rfl, Nat.le_of_ble_eq_true rfl, Nat.le_of_ble_eq_true rfl⟩ hl rfl (Nat.le_of_ble_eq_true rfl) dL_wear_4 [] ⟨0, 9, 12, 23⟩ [] rfl (fun z hz => nomatch hz) (by decide) (by decide) tw400 cast_xIO (fun q9 H hS => ?_)
  refine lv_astore_n (lv' := [(3, .ref q9), (0, .ref x), (1, vI i), (2, .ref out)]) F.1 F.2.1 dL_wear_12 rfl hl (by decide) rfl (fun ls hl => ?_)
  refine rr_iconst F dL_wear_13 ?_
  exact rr_twret F hr hlocks hS dL_wear_14 rfl
set_option maxRecDepth 100000 in
set_option maxHeartbeats 4000000 in
theorem r_insert_18 (l : Launch) (hnt : l.stackTraces = false) (D : va_G) (cy : Nat → ClassId) (sa : Nat → Nat) (x tx sk hi sl fi : Nat) (st ws : Nat) (wc sp : Int) (r sg : Nat) (n : Int) (g q : Int → Int) (bk la na : Nat) (nw : Int) (lt ln : Int → Int) (bl : Int → Int) (bc : Int → Int → Int) (i c0 : Int) (out : Nat) (hG : RG n g q) (hB : BK nw lt ln bl bc) (r_i : inR i) (r_c0 : inR c0) (h1 : ¬ (0 ≤ i ∧ i ≤ n)) : Tw l yL_insert cL_insert 5 (some FieldType.int) [(0, 10, 13, 23), (0, 10, 17, 13), (0, 10, 21, 15)] 7 [.ref x, vI i, vI c0, .ref out] D cy sa [(x, .inr (6, [.ref tx, .ref st, .ref sk, .ref hi, .ref sl, .ref fi])), (st, .inr (3, [.ref r, .ref bk, .ref ws, vI wc, vI sp])), (r, .inr (2, [.ref sg, vI n])), (sg, .inl (cy 0, 24, .inl (iA g))), (bk, .inr (0, [.ref la, .ref na, vI nw])), (la, .inl (cy 0, 60, .inl (iA lt))), (na, .inl (cy 1, 10, .inl (iA ln)))] 1 := by
  refine Tw.of RL rfl [(0, .ref x), (1, vI i), (2, vI c0), (3, .ref out)] rfl (by decide +kernel) (Nat.le_of_ble_eq_true rfl) ?_
  intro p e s m args below meth c F htab hr hlocks hK hX hZ hP ls hl
  refine lv_aload_n F.1 F.2.1 dL_insert_0 rfl (lv_at hl 3 rfl) ?_
  refine rr_iconst F dL_insert_1 ?_
  refine lv_aload_n F.1 F.2.1 dL_insert_2 rfl (lv_at hl 0 rfl) ?_
  refine lv_iload_n F.1 F.2.1 dL_insert_3 rfl (lv_at hl 1 rfl) ?_
  refine lv_iload_n F.1 F.2.1 dL_insert_4 rfl (lv_at hl 2 rfl) ?_
  refine rr_thrV (rest := [vI 0, .ref out]) F hK hX hZ htab (t_X6_insert_18 l hnt D cy sa x tx sk hi sl fi st ws wc sp r sg n g q bk la na nw lt ln bl bc i c0 hG hB r_i r_c0 h1) hP sf_X6_insert tw641 6 rfl rfl ⟨Nat.le_of_ble_eq_true rfl, Nat.le_of_ble_eq_true rfl, Nat.le_of_ble_eq_true rfl, Nat.le_of_ble_eq_true rfl⟩ hl rfl (Nat.le_of_ble_eq_true rfl) dL_insert_5 [] ⟨0, 10, 13, 23⟩ [⟨0, 10, 17, 13⟩, ⟨0, 10, 21, 15⟩] rfl (fun z hz => nomatch hz) (by decide) (by decide) tw400 cast_xIO (fun q9 H hS => ?_)
  refine lv_astore (lv' := [(4, .ref q9), (0, .ref x), (1, vI i), (2, vI c0), (3, .ref out)]) F.1 F.2.1 dL_insert_13 hl (by decide) rfl (fun ls hl => ?_)
  refine rr_iconst F dL_insert_15 ?_
  exact rr_twret F hr hlocks hS dL_insert_16 rfl
set_option maxRecDepth 100000 in
set_option maxHeartbeats 4000000 in
theorem r_insert_35 (l : Launch) (hnt : l.stackTraces = false) (D : va_G) (cy : Nat → ClassId) (sa : Nat → Nat) (x tx sk hi sl fi : Nat) (st ws : Nat) (wc sp : Int) (r sg : Nat) (n : Int) (g q : Int → Int) (bk la na : Nat) (nw : Int) (lt ln : Int → Int) (bl : Int → Int) (bc : Int → Int → Int) (i c0 : Int) (out : Nat) (hG : RG n g q) (hB : BK nw lt ln bl bc) (r_i : inR i) (r_c0 : inR c0) (h1 : 0 ≤ i ∧ i ≤ n) (h2 : ¬ (0 ≤ c0 ∧ c0 ≤ 8)) : Tw l yL_insert cL_insert 5 (some FieldType.int) [(0, 10, 13, 23), (0, 10, 17, 13), (0, 10, 21, 15)] 7 [.ref x, vI i, vI c0, .ref out] D cy sa [(x, .inr (6, [.ref tx, .ref st, .ref sk, .ref hi, .ref sl, .ref fi])), (st, .inr (3, [.ref r, .ref bk, .ref ws, vI wc, vI sp])), (r, .inr (2, [.ref sg, vI n])), (sg, .inl (cy 0, 24, .inl (iA g))), (bk, .inr (0, [.ref la, .ref na, vI nw])), (la, .inl (cy 0, 60, .inl (iA lt))), (na, .inl (cy 1, 10, .inl (iA ln)))] 2 := by
  refine Tw.of RL rfl [(0, .ref x), (1, vI i), (2, vI c0), (3, .ref out)] rfl (by decide +kernel) (Nat.le_of_ble_eq_true rfl) ?_
  intro p e s m args below meth c F htab hr hlocks hK hX hZ hP ls hl
  refine lv_aload_n F.1 F.2.1 dL_insert_0 rfl (lv_at hl 3 rfl) ?_
  refine rr_iconst F dL_insert_1 ?_
  refine lv_aload_n F.1 F.2.1 dL_insert_2 rfl (lv_at hl 0 rfl) ?_
  refine lv_iload_n F.1 F.2.1 dL_insert_3 rfl (lv_at hl 1 rfl) ?_
  refine lv_iload_n F.1 F.2.1 dL_insert_4 rfl (lv_at hl 2 rfl) ?_
  refine rr_thrV (rest := [vI 0, .ref out]) F hK hX hZ htab (t_X6_insert_35 l hnt D cy sa x tx sk hi sl fi st ws wc sp r sg n g q bk la na nw lt ln bl bc i c0 hG hB r_i r_c0 h1 h2) hP sf_X6_insert tw641 6 rfl rfl ⟨Nat.le_of_ble_eq_true rfl, Nat.le_of_ble_eq_true rfl, Nat.le_of_ble_eq_true rfl, Nat.le_of_ble_eq_true rfl⟩ hl rfl (Nat.le_of_ble_eq_true rfl) dL_insert_5 [⟨0, 10, 13, 23⟩] ⟨0, 10, 17, 13⟩ [⟨0, 10, 21, 15⟩] rfl (List.forall_mem_cons.mpr ⟨⟨by decide, xIO, tw400, by decide +kernel⟩, (fun z hz => nomatch hz)⟩) (by decide) (by decide) tw266 cast_xIA (fun q9 H hS => ?_)
  refine lv_astore (lv' := [(4, .ref q9), (0, .ref x), (1, vI i), (2, vI c0), (3, .ref out)]) F.1 F.2.1 dL_insert_17 hl (by decide) rfl (fun ls hl => ?_)
  refine rr_iconst F dL_insert_19 ?_
  exact rr_twret F hr hlocks hS dL_insert_20 rfl
set_option maxRecDepth 100000 in
set_option maxHeartbeats 4000000 in
theorem r_insert_58 (l : Launch) (hnt : l.stackTraces = false) (D : va_G) (cy : Nat → ClassId) (sa : Nat → Nat) (x tx sk hi sl fi : Nat) (st ws : Nat) (wc sp : Int) (r sg : Nat) (n : Int) (g q : Int → Int) (bk la na : Nat) (nw : Int) (lt ln : Int → Int) (bl : Int → Int) (bc : Int → Int → Int) (i c0 : Int) (out : Nat) (hG : RG n g q) (hB : BK nw lt ln bl bc) (r_i : inR i) (r_c0 : inR c0) (h1 : 0 ≤ i ∧ i ≤ n) (h2 : 0 ≤ c0 ∧ c0 ≤ 8) (h3 : ¬ n < 24) : Tw l yL_insert cL_insert 5 (some FieldType.int) [(0, 10, 13, 23), (0, 10, 17, 13), (0, 10, 21, 15)] 7 [.ref x, vI i, vI c0, .ref out] D cy sa [(x, .inr (6, [.ref tx, .ref st, .ref sk, .ref hi, .ref sl, .ref fi])), (st, .inr (3, [.ref r, .ref bk, .ref ws, vI wc, vI sp])), (r, .inr (2, [.ref sg, vI n])), (sg, .inl (cy 0, 24, .inl (iA g))), (bk, .inr (0, [.ref la, .ref na, vI nw])), (la, .inl (cy 0, 60, .inl (iA lt))), (na, .inl (cy 1, 10, .inl (iA ln)))] 3 := by
  refine Tw.of RL rfl [(0, .ref x), (1, vI i), (2, vI c0), (3, .ref out)] rfl (by decide +kernel) (Nat.le_of_ble_eq_true rfl) ?_
  intro p e s m args below meth c F htab hr hlocks hK hX hZ hP ls hl
  refine lv_aload_n F.1 F.2.1 dL_insert_0 rfl (lv_at hl 3 rfl) ?_
  refine rr_iconst F dL_insert_1 ?_
  refine lv_aload_n F.1 F.2.1 dL_insert_2 rfl (lv_at hl 0 rfl) ?_
  refine lv_iload_n F.1 F.2.1 dL_insert_3 rfl (lv_at hl 1 rfl) ?_
  refine lv_iload_n F.1 F.2.1 dL_insert_4 rfl (lv_at hl 2 rfl) ?_
  refine rr_thrV (rest := [vI 0, .ref out]) F hK hX hZ htab (t_X6_insert_58 l hnt D cy sa x tx sk hi sl fi st ws wc sp r sg n g q bk la na nw lt ln bl bc i c0 hG hB r_i r_c0 h1 h2 h3) hP sf_X6_insert tw641 6 rfl rfl ⟨Nat.le_of_ble_eq_true rfl, Nat.le_of_ble_eq_true rfl, Nat.le_of_ble_eq_true rfl, Nat.le_of_ble_eq_true rfl⟩ hl rfl (Nat.le_of_ble_eq_true rfl) dL_insert_5 [⟨0, 10, 13, 23⟩, ⟨0, 10, 17, 13⟩] ⟨0, 10, 21, 15⟩ [] rfl (List.forall_mem_cons.mpr ⟨⟨by decide, xIO, tw400, by decide +kernel⟩, (List.forall_mem_cons.mpr ⟨⟨by decide, xIA, tw266, by decide +kernel⟩, (fun z hz => nomatch hz)⟩)⟩) (by decide) (by decide) tw267 cast_xIS (fun q9 H hS => ?_)
  refine lv_astore (lv' := [(4, .ref q9), (0, .ref x), (1, vI i), (2, vI c0), (3, .ref out)]) F.1 F.2.1 dL_insert_21 hl (by decide) rfl (fun ls hl => ?_)
  refine rr_iconst F dL_insert_23 ?_
  exact rr_twret F hr hlocks hS dL_insert_24 rfl
set_option maxRecDepth 100000 in
set_option maxHeartbeats 4000000 in
theorem r_erase_14 (l : Launch) (hnt : l.stackTraces = false) (D : va_G) (cy : Nat → ClassId) (sa : Nat → Nat) (x tx sk hi sl fi : Nat) (st ws : Nat) (wc sp : Int) (r sg : Nat) (n : Int) (g q : Int → Int) (bk la na : Nat) (nw : Int) (lt ln : Int → Int) (bl : Int → Int) (bc : Int → Int → Int) (i : Int) (out : Nat) (hG : RG n g q) (hB : BK nw lt ln bl bc) (r_i : inR i) (h1 : ¬ (0 ≤ i ∧ i < n)) : Tw l yL_erase cL_erase 4 (some FieldType.int) [(0, 9, 12, 23)] 7 [.ref x, vI i, .ref out] D cy sa [(x, .inr (6, [.ref tx, .ref st, .ref sk, .ref hi, .ref sl, .ref fi])), (st, .inr (3, [.ref r, .ref bk, .ref ws, vI wc, vI sp])), (r, .inr (2, [.ref sg, vI n])), (sg, .inl (cy 0, 24, .inl (iA g))), (bk, .inr (0, [.ref la, .ref na, vI nw])), (la, .inl (cy 0, 60, .inl (iA lt))), (na, .inl (cy 1, 10, .inl (iA ln)))] 1 := by
  refine Tw.of RL rfl [(0, .ref x), (1, vI i), (2, .ref out)] rfl (by decide +kernel) (Nat.le_of_ble_eq_true rfl) ?_
  intro p e s m args below meth c F htab hr hlocks hK hX hZ hP ls hl
  refine lv_aload_n F.1 F.2.1 dL_erase_0 rfl (lv_at hl 2 rfl) ?_
  refine rr_iconst F dL_erase_1 ?_
  refine lv_aload_n F.1 F.2.1 dL_erase_2 rfl (lv_at hl 0 rfl) ?_
  refine lv_iload_n F.1 F.2.1 dL_erase_3 rfl (lv_at hl 1 rfl) ?_
  refine rr_thrV (rest := [vI 0, .ref out]) F hK hX hZ htab (t_X6_erase_14 l hnt D cy sa x tx sk hi sl fi st ws wc sp r sg n g q bk la na nw lt ln bl bc i hG hB r_i h1) hP sf_X6_erase tw663 6 rfl rfl ⟨Nat.le_of_ble_eq_true rfl, Nat.le_of_ble_eq_true rfl, Nat.le_of_ble_eq_true rfl, Nat.le_of_ble_eq_true rfl⟩ hl rfl (Nat.le_of_ble_eq_true rfl) dL_erase_4 [] ⟨0, 9, 12, 23⟩ [] rfl (fun z hz => nomatch hz) (by decide) (by decide) tw400 cast_xIO (fun q9 H hS => ?_)
  refine lv_astore_n (lv' := [(3, .ref q9), (0, .ref x), (1, vI i), (2, .ref out)]) F.1 F.2.1 dL_erase_12 rfl hl (by decide) rfl (fun ls hl => ?_)
  refine rr_iconst F dL_erase_13 ?_
  exact rr_twret F hr hlocks hS dL_erase_14 rfl
set_option maxRecDepth 100000 in
set_option maxHeartbeats 4000000 in
theorem r_addWalker_21 (l : Launch) (hnt : l.stackTraces = false) (D : va_G) (cy : Nat → ClassId) (sa : Nat → Nat) (x tx sk hi sl fi : Nat) (st ws : Nat) (wc sp : Int) (r sg : Nat) (n : Int) (g q : Int → Int) (bk la na : Nat) (nw : Int) (lt ln : Int → Int) (bl : Int → Int) (bc : Int → Int → Int) (i d pa si : Int) (out : Nat) (hG : RG n g q) (hB : BK nw lt ln bl bc) (r_i : inR i) (r_d : inR d) (r_pa : inR pa) (r_si : inR si) (h1 : ¬ ((0 ≤ i ∧ i < n) ∧ 0 ≤ d ∧ d ≤ 1)) : Tw l yL_addWalker cL_addWalker 7 (some FieldType.int) [(0, 14, 17, 23), (0, 14, 21, 13), (0, 14, 25, 15)] 7 [.ref x, vI i, vI d, vI pa, vI si, .ref out] D cy sa [(x, .inr (6, [.ref tx, .ref st, .ref sk, .ref hi, .ref sl, .ref fi])), (st, .inr (3, [.ref r, .ref bk, .ref ws, vI wc, vI sp])), (r, .inr (2, [.ref sg, vI n])), (sg, .inl (cy 0, 24, .inl (iA g))), (bk, .inr (0, [.ref la, .ref na, vI nw])), (la, .inl (cy 0, 60, .inl (iA lt))), (na, .inl (cy 1, 10, .inl (iA ln)))] 1 := by
  refine Tw.of RL rfl [(0, .ref x), (1, vI i), (2, vI d), (3, vI pa), (4, vI si), (5, .ref out)] rfl (by decide +kernel) (Nat.le_of_ble_eq_true rfl) ?_
  intro p e s m args below meth c F htab hr hlocks hK hX hZ hP ls hl
  refine lv_aload F.1 F.2.1 dL_addWalker_0 (lv_at hl 5 rfl) ?_
  refine rr_iconst F dL_addWalker_2 ?_
  refine lv_aload_n F.1 F.2.1 dL_addWalker_3 rfl (lv_at hl 0 rfl) ?_
  refine lv_iload_n F.1 F.2.1 dL_addWalker_4 rfl (lv_at hl 1 rfl) ?_
  refine lv_iload_n F.1 F.2.1 dL_addWalker_5 rfl (lv_at hl 2 rfl) ?_
  refine lv_iload_n F.1 F.2.1 dL_addWalker_6 rfl (lv_at hl 3 rfl) ?_
  refine lv_iload F.1 F.2.1 dL_addWalker_7 (lv_at hl 4 rfl) ?_
  refine rr_thrV (rest := [vI 0, .ref out]) F hK hX hZ htab (t_X6_addWalker_21 l hnt D cy sa x tx sk hi sl fi st ws wc sp r sg n g q bk la na nw lt ln bl bc i d pa si hG hB r_i r_d r_pa r_si h1) hP sf_X6_addWalker tw678 6 rfl rfl ⟨Nat.le_of_ble_eq_true rfl, Nat.le_of_ble_eq_true rfl, Nat.le_of_ble_eq_true rfl, Nat.le_of_ble_eq_true rfl⟩ hl rfl (Nat.le_of_ble_eq_true rfl) dL_addWalker_9 [] ⟨0, 14, 17, 23⟩ [⟨0, 14, 21, 13⟩, ⟨0, 14, 25, 15⟩] rfl (fun z hz => nomatch hz) (by decide) (by decide) tw400 cast_xIO (fun q9 H hS => ?_)
  refine lv_astore (lv' := [(6, .ref q9), (0, .ref x), (1, vI i), (2, vI d), (3, vI pa), (4, vI si), (5, .ref out)]) F.1 F.2.1 dL_addWalker_17 hl (by decide) rfl (fun ls hl => ?_)
  refine rr_iconst F dL_addWalker_19 ?_
  exact rr_twret F hr hlocks hS dL_addWalker_20 rfl
set_option maxRecDepth 100000 in
set_option maxHeartbeats 4000000 in
theorem r_addWalker_46 (l : Launch) (hnt : l.stackTraces = false) (D : va_G) (cy : Nat → ClassId) (sa : Nat → Nat) (x tx sk hi sl fi : Nat) (st ws : Nat) (wc sp : Int) (r sg : Nat) (n : Int) (g q : Int → Int) (bk la na : Nat) (nw : Int) (lt ln : Int → Int) (bl : Int → Int) (bc : Int → Int → Int) (i d pa si : Int) (out : Nat) (hG : RG n g q) (hB : BK nw lt ln bl bc) (r_i : inR i) (r_d : inR d) (r_pa : inR pa) (r_si : inR si) (h1 : (0 ≤ i ∧ i < n) ∧ 0 ≤ d ∧ d ≤ 1) (h2 : ¬ ((1 ≤ pa ∧ pa ≤ 3) ∧ 1 ≤ si ∧ si ≤ 5)) : Tw l yL_addWalker cL_addWalker 7 (some FieldType.int) [(0, 14, 17, 23), (0, 14, 21, 13), (0, 14, 25, 15)] 7 [.ref x, vI i, vI d, vI pa, vI si, .ref out] D cy sa [(x, .inr (6, [.ref tx, .ref st, .ref sk, .ref hi, .ref sl, .ref fi])), (st, .inr (3, [.ref r, .ref bk, .ref ws, vI wc, vI sp])), (r, .inr (2, [.ref sg, vI n])), (sg, .inl (cy 0, 24, .inl (iA g))), (bk, .inr (0, [.ref la, .ref na, vI nw])), (la, .inl (cy 0, 60, .inl (iA lt))), (na, .inl (cy 1, 10, .inl (iA ln)))] 2 := by
  refine Tw.of RL rfl [(0, .ref x), (1, vI i), (2, vI d), (3, vI pa), (4, vI si), (5, .ref out)] rfl (by decide +kernel) (Nat.le_of_ble_eq_true rfl) ?_
  intro p e s m args below meth c F htab hr hlocks hK hX hZ hP ls hl
  refine lv_aload F.1 F.2.1 dL_addWalker_0 (lv_at hl 5 rfl) ?_
  refine rr_iconst F dL_addWalker_2 ?_
  refine lv_aload_n F.1 F.2.1 dL_addWalker_3 rfl (lv_at hl 0 rfl) ?_
  refine lv_iload_n F.1 F.2.1 dL_addWalker_4 rfl (lv_at hl 1 rfl) ?_
  refine lv_iload_n F.1 F.2.1 dL_addWalker_5 rfl (lv_at hl 2 rfl) ?_
  refine lv_iload_n F.1 F.2.1 dL_addWalker_6 rfl (lv_at hl 3 rfl) ?_
  refine lv_iload F.1 F.2.1 dL_addWalker_7 (lv_at hl 4 rfl) ?_
  refine rr_thrV (rest := [vI 0, .ref out]) F hK hX hZ htab (t_X6_addWalker_46 l hnt D cy sa x tx sk hi sl fi st ws wc sp r sg n g q bk la na nw lt ln bl bc i d pa si hG hB r_i r_d r_pa r_si h1 h2) hP sf_X6_addWalker tw678 6 rfl rfl ⟨Nat.le_of_ble_eq_true rfl, Nat.le_of_ble_eq_true rfl, Nat.le_of_ble_eq_true rfl, Nat.le_of_ble_eq_true rfl⟩ hl rfl (Nat.le_of_ble_eq_true rfl) dL_addWalker_9 [⟨0, 14, 17, 23⟩] ⟨0, 14, 21, 13⟩ [⟨0, 14, 25, 15⟩] rfl (List.forall_mem_cons.mpr ⟨⟨by decide, xIO, tw400, by decide +kernel⟩, (fun z hz => nomatch hz)⟩) (by decide) (by decide) tw266 cast_xIA (fun q9 H hS => ?_)
  refine lv_astore (lv' := [(6, .ref q9), (0, .ref x), (1, vI i), (2, vI d), (3, vI pa), (4, vI si), (5, .ref out)]) F.1 F.2.1 dL_addWalker_21 hl (by decide) rfl (fun ls hl => ?_)
  refine rr_iconst F dL_addWalker_23 ?_
  exact rr_twret F hr hlocks hS dL_addWalker_24 rfl
set_option maxRecDepth 100000 in
set_option maxHeartbeats 4000000 in
theorem r_addWalker_68 (l : Launch) (hnt : l.stackTraces = false) (D : va_G) (cy : Nat → ClassId) (sa : Nat → Nat) (x tx sk hi sl fi : Nat) (st ws : Nat) (wc sp : Int) (r sg : Nat) (n : Int) (g q : Int → Int) (bk la na : Nat) (nw : Int) (lt ln : Int → Int) (bl : Int → Int) (bc : Int → Int → Int) (i d pa si : Int) (out : Nat) (hG : RG n g q) (hB : BK nw lt ln bl bc) (hc : 0 ≤ wc ∧ wc ≤ 4) (r_i : inR i) (r_d : inR d) (r_pa : inR pa) (r_si : inR si) (h1 : (0 ≤ i ∧ i < n) ∧ 0 ≤ d ∧ d ≤ 1) (h2 : (1 ≤ pa ∧ pa ≤ 3) ∧ 1 ≤ si ∧ si ≤ 5) (h3 : ¬ wc < 4) : Tw l yL_addWalker cL_addWalker 7 (some FieldType.int) [(0, 14, 17, 23), (0, 14, 21, 13), (0, 14, 25, 15)] 7 [.ref x, vI i, vI d, vI pa, vI si, .ref out] D cy sa [(x, .inr (6, [.ref tx, .ref st, .ref sk, .ref hi, .ref sl, .ref fi])), (st, .inr (3, [.ref r, .ref bk, .ref ws, vI wc, vI sp])), (r, .inr (2, [.ref sg, vI n])), (sg, .inl (cy 0, 24, .inl (iA g))), (bk, .inr (0, [.ref la, .ref na, vI nw])), (la, .inl (cy 0, 60, .inl (iA lt))), (na, .inl (cy 1, 10, .inl (iA ln)))] 3 := by
  refine Tw.of RL rfl [(0, .ref x), (1, vI i), (2, vI d), (3, vI pa), (4, vI si), (5, .ref out)] rfl (by decide +kernel) (Nat.le_of_ble_eq_true rfl) ?_
  intro p e s m args below meth c F htab hr hlocks hK hX hZ hP ls hl
  refine lv_aload F.1 F.2.1 dL_addWalker_0 (lv_at hl 5 rfl) ?_
  refine rr_iconst F dL_addWalker_2 ?_
  refine lv_aload_n F.1 F.2.1 dL_addWalker_3 rfl (lv_at hl 0 rfl) ?_
  refine lv_iload_n F.1 F.2.1 dL_addWalker_4 rfl (lv_at hl 1 rfl) ?_
  refine lv_iload_n F.1 F.2.1 dL_addWalker_5 rfl (lv_at hl 2 rfl) ?_
  refine lv_iload_n F.1 F.2.1 dL_addWalker_6 rfl (lv_at hl 3 rfl) ?_
  refine lv_iload F.1 F.2.1 dL_addWalker_7 (lv_at hl 4 rfl) ?_
  refine rr_thrV (rest := [vI 0, .ref out]) F hK hX hZ htab (t_X6_addWalker_68 l hnt D cy sa x tx sk hi sl fi st ws wc sp r sg n g q bk la na nw lt ln bl bc i d pa si hG hB hc r_i r_d r_pa r_si h1 h2 h3) hP sf_X6_addWalker tw678 6 rfl rfl ⟨Nat.le_of_ble_eq_true rfl, Nat.le_of_ble_eq_true rfl, Nat.le_of_ble_eq_true rfl, Nat.le_of_ble_eq_true rfl⟩ hl rfl (Nat.le_of_ble_eq_true rfl) dL_addWalker_9 [⟨0, 14, 17, 23⟩, ⟨0, 14, 21, 13⟩] ⟨0, 14, 25, 15⟩ [] rfl (List.forall_mem_cons.mpr ⟨⟨by decide, xIO, tw400, by decide +kernel⟩, (List.forall_mem_cons.mpr ⟨⟨by decide, xIA, tw266, by decide +kernel⟩, (fun z hz => nomatch hz)⟩)⟩) (by decide) (by decide) tw267 cast_xIS (fun q9 H hS => ?_)
  refine lv_astore (lv' := [(6, .ref q9), (0, .ref x), (1, vI i), (2, vI d), (3, vI pa), (4, vI si), (5, .ref out)]) F.1 F.2.1 dL_addWalker_25 hl (by decide) rfl (fun ls hl => ?_)
  refine rr_iconst F dL_addWalker_27 ?_
  exact rr_twret F hr hlocks hS dL_addWalker_28 rfl
set_option maxRecDepth 100000 in
set_option maxHeartbeats 4000000 in
theorem r_turn_11 (l : Launch) (hnt : l.stackTraces = false) (D : va_G) (cy : Nat → ClassId) (sa : Nat → Nat) (x tx st sk hi sl fi r bk ws : Nat) (wc sp : Int) (w : Int) (out : Nat) (hc : 0 ≤ wc ∧ wc ≤ 4) (r_w : inR w) (h1 : ¬ (0 ≤ w ∧ w < wc)) : Tw l yL_turn cL_turn 4 (some FieldType.int) [(0, 9, 12, 23)] 7 [.ref x, vI w, .ref out] D cy sa [(x, .inr (6, [.ref tx, .ref st, .ref sk, .ref hi, .ref sl, .ref fi])), (st, .inr (3, [.ref r, .ref bk, .ref ws, vI wc, vI sp]))] 1 := by
  refine Tw.of RL rfl [(0, .ref x), (1, vI w), (2, .ref out)] rfl (by decide +kernel) (Nat.le_of_ble_eq_true rfl) ?_
  intro p e s m args below meth c F htab hr hlocks hK hX hZ hP ls hl
  refine lv_aload_n F.1 F.2.1 dL_turn_0 rfl (lv_at hl 2 rfl) ?_
  refine rr_iconst F dL_turn_1 ?_
  refine lv_aload_n F.1 F.2.1 dL_turn_2 rfl (lv_at hl 0 rfl) ?_
  refine lv_iload_n F.1 F.2.1 dL_turn_3 rfl (lv_at hl 1 rfl) ?_
  refine rr_thrV (rest := [vI 0, .ref out]) F hK hX hZ htab (t_X6_turn_11 l hnt D cy sa x tx st sk hi sl fi r bk ws wc sp w hc r_w h1) hP sf_X6_turn tw709 6 rfl rfl ⟨Nat.le_of_ble_eq_true rfl, Nat.le_of_ble_eq_true rfl, Nat.le_of_ble_eq_true rfl, Nat.le_of_ble_eq_true rfl⟩ hl rfl (Nat.le_of_ble_eq_true rfl) dL_turn_4 [] ⟨0, 9, 12, 23⟩ [] rfl (fun z hz => nomatch hz) (by decide) (by decide) tw400 cast_xIO (fun q9 H hS => ?_)
  refine lv_astore_n (lv' := [(3, .ref q9), (0, .ref x), (1, vI w), (2, .ref out)]) F.1 F.2.1 dL_turn_12 rfl hl (by decide) rfl (fun ls hl => ?_)
  refine rr_iconst F dL_turn_13 ?_
  exact rr_twret F hr hlocks hS dL_turn_14 rfl
set_option maxRecDepth 100000 in
set_option maxHeartbeats 4000000 in
theorem r_go_7 (l : Launch) (hnt : l.stackTraces = false) (D : va_G) (cy : Nat → ClassId) (sa : Nat → Nat) (x tx st sk hi sl fi : Nat) (t : Int) (out : Nat) (r_t : inR t) (h1 : ¬ (1 ≤ t ∧ t ≤ 50)) : Tw l yL_go cL_go 4 (some FieldType.int) [(0, 9, 12, 13)] 7 [.ref x, vI t, .ref out] D cy sa [(x, .inr (6, [.ref tx, .ref st, .ref sk, .ref hi, .ref sl, .ref fi]))] 1 := by
  refine Tw.of RL rfl [(0, .ref x), (1, vI t), (2, .ref out)] rfl (by decide +kernel) (Nat.le_of_ble_eq_true rfl) ?_
  intro p e s m args below meth c F htab hr hlocks hK hX hZ hP ls hl
  refine lv_aload_n F.1 F.2.1 dL_go_0 rfl (lv_at hl 2 rfl) ?_
  refine rr_iconst F dL_go_1 ?_
  refine lv_aload_n F.1 F.2.1 dL_go_2 rfl (lv_at hl 0 rfl) ?_
  refine lv_iload_n F.1 F.2.1 dL_go_3 rfl (lv_at hl 1 rfl) ?_
  refine rr_thrV (rest := [vI 0, .ref out]) F hK hX hZ htab (t_X6_go_7 l hnt D cy sa x tx st sk hi sl fi t r_t h1) hP sf_X6_go tw720 6 rfl rfl ⟨Nat.le_of_ble_eq_true rfl, Nat.le_of_ble_eq_true rfl, Nat.le_of_ble_eq_true rfl, Nat.le_of_ble_eq_true rfl⟩ hl rfl (Nat.le_of_ble_eq_true rfl) dL_go_4 [] ⟨0, 9, 12, 13⟩ [] rfl (fun z hz => nomatch hz) (by decide) (by decide) tw266 cast_xIA (fun q9 H hS => ?_)
  refine lv_astore_n (lv' := [(3, .ref q9), (0, .ref x), (1, vI t), (2, .ref out)]) F.1 F.2.1 dL_go_12 rfl hl (by decide) rfl (fun ls hl => ?_)
  refine rr_iconst F dL_go_13 ?_
  exact rr_twret F hr hlocks hS dL_go_14 rfl
set_option maxRecDepth 100000 in
set_option maxHeartbeats 4000000 in
theorem r_undo_10 (l : Launch) (hnt : l.stackTraces = false) (D : va_G) (cy : Nat → ClassId) (sa : Nat → Nat) (x tx st sk sl fi : Nat) (hi rw : Nat) (hro : Int → Nat) (ol ct : Int) (out : Nat) (hol : 0 ≤ ol ∧ ol < 14) (hct : 0 ≤ ct ∧ ct ≤ 14) (h1 : ¬ 0 < ct) : Tw l yL_undo cL_undo 3 (some FieldType.int) [(0, 8, 11, 15)] 7 [.ref x, .ref out] D cy sa [(x, .inr (6, [.ref tx, .ref st, .ref sk, .ref hi, .ref sl, .ref fi])), (hi, .inr (1, [.ref rw, vI ol, vI ct])), (rw, .inl (cy 3, 14, .inr (.inr (.inr (.inr (rA hro))))))] 1 := by
  refine Tw.of RL rfl [(0, .ref x), (1, .ref out)] rfl (by decide +kernel) (Nat.le_of_ble_eq_true rfl) ?_
  intro p e s m args below meth c F htab hr hlocks hK hX hZ hP ls hl
  refine lv_aload_n F.1 F.2.1 dL_undo_0 rfl (lv_at hl 1 rfl) ?_
  refine rr_iconst F dL_undo_1 ?_
  refine lv_aload_n F.1 F.2.1 dL_undo_2 rfl (lv_at hl 0 rfl) ?_
  refine rr_thrV (rest := [vI 0, .ref out]) F hK hX hZ htab (t_X6_undo_10 l hnt D cy sa x tx st sk sl fi hi rw hro ol ct hol hct h1) hP sf_X6_undo tw749 6 rfl rfl ⟨Nat.le_of_ble_eq_true rfl, Nat.le_of_ble_eq_true rfl, Nat.le_of_ble_eq_true rfl, Nat.le_of_ble_eq_true rfl⟩ hl rfl (Nat.le_of_ble_eq_true rfl) dL_undo_3 [] ⟨0, 8, 11, 15⟩ [] rfl (fun z hz => nomatch hz) (by decide) (by decide) tw267 cast_xIS (fun q9 H hS => ?_)
  refine lv_astore_n (lv' := [(2, .ref q9), (0, .ref x), (1, .ref out)]) F.1 F.2.1 dL_undo_11 rfl hl (by decide) rfl (fun ls hl => ?_)
  refine rr_iconst F dL_undo_12 ?_
  exact rr_twret F hr hlocks hS dL_undo_13 rfl
set_option maxRecDepth 100000 in
set_option maxHeartbeats 4000000 in
theorem r_meet_22 (l : Launch) (hnt : l.stackTraces = false) (D : va_G) (cy : Nat → ClassId) (sa : Nat → Nat) (x tx st sk hi sl fi r bk ws : Nat) (wc sp : Int) (w v : Int) (out : Nat) (hc : 0 ≤ wc ∧ wc ≤ 4) (r_w : inR w) (r_v : inR v) (h1 : ¬ ((0 ≤ w ∧ w < wc) ∧ 0 ≤ v ∧ v < wc)) : Tw l yL_meet cL_meet 5 (some FieldType.int) [(0, 10, 13, 23), (0, 10, 17, 15)] 7 [.ref x, vI w, vI v, .ref out] D cy sa [(x, .inr (6, [.ref tx, .ref st, .ref sk, .ref hi, .ref sl, .ref fi])), (st, .inr (3, [.ref r, .ref bk, .ref ws, vI wc, vI sp]))] 1 := by
  refine Tw.of RL rfl [(0, .ref x), (1, vI w), (2, vI v), (3, .ref out)] rfl (by decide +kernel) (Nat.le_of_ble_eq_true rfl) ?_
  intro p e s m args below meth c F htab hr hlocks hK hX hZ hP ls hl
  refine lv_aload_n F.1 F.2.1 dL_meet_0 rfl (lv_at hl 3 rfl) ?_
  refine rr_iconst F dL_meet_1 ?_
  refine lv_aload_n F.1 F.2.1 dL_meet_2 rfl (lv_at hl 0 rfl) ?_
  refine lv_iload_n F.1 F.2.1 dL_meet_3 rfl (lv_at hl 1 rfl) ?_
  refine lv_iload_n F.1 F.2.1 dL_meet_4 rfl (lv_at hl 2 rfl) ?_
  refine rr_thrV (rest := [vI 0, .ref out]) F hK hX hZ htab (t_X6_meet_22 l hnt D cy sa x tx st sk hi sl fi r bk ws wc sp w v hc r_w r_v h1) hP sf_X6_meet tw765 6 rfl rfl ⟨Nat.le_of_ble_eq_true rfl, Nat.le_of_ble_eq_true rfl, Nat.le_of_ble_eq_true rfl, Nat.le_of_ble_eq_true rfl⟩ hl rfl (Nat.le_of_ble_eq_true rfl) dL_meet_5 [] ⟨0, 10, 13, 23⟩ [⟨0, 10, 17, 15⟩] rfl (fun z hz => nomatch hz) (by decide) (by decide) tw400 cast_xIO (fun q9 H hS => ?_)
  refine lv_astore (lv' := [(4, .ref q9), (0, .ref x), (1, vI w), (2, vI v), (3, .ref out)]) F.1 F.2.1 dL_meet_13 hl (by decide) rfl (fun ls hl => ?_)
  refine rr_iconst F dL_meet_15 ?_
  exact rr_twret F hr hlocks hS dL_meet_16 rfl
set_option maxRecDepth 100000 in
set_option maxHeartbeats 4000000 in
theorem r_meet_37 (l : Launch) (hnt : l.stackTraces = false) (D : va_G) (cy : Nat → ClassId) (sa : Nat → Nat) (x tx st sk hi sl fi r bk ws : Nat) (wc sp : Int) (w v : Int) (out : Nat) (hc : 0 ≤ wc ∧ wc ≤ 4) (r_w : inR w) (r_v : inR v) (h1 : (0 ≤ w ∧ w < wc) ∧ 0 ≤ v ∧ v < wc) (h2 : w = v) : Tw l yL_meet cL_meet 5 (some FieldType.int) [(0, 10, 13, 23), (0, 10, 17, 15)] 7 [.ref x, vI w, vI v, .ref out] D cy sa [(x, .inr (6, [.ref tx, .ref st, .ref sk, .ref hi, .ref sl, .ref fi])), (st, .inr (3, [.ref r, .ref bk, .ref ws, vI wc, vI sp]))] 2 := by
  refine Tw.of RL rfl [(0, .ref x), (1, vI w), (2, vI v), (3, .ref out)] rfl (by decide +kernel) (Nat.le_of_ble_eq_true rfl) ?_
  intro p e s m args below meth c F htab hr hlocks hK hX hZ hP ls hl
  refine lv_aload_n F.1 F.2.1 dL_meet_0 rfl (lv_at hl 3 rfl) ?_
  refine rr_iconst F dL_meet_1 ?_
  refine lv_aload_n F.1 F.2.1 dL_meet_2 rfl (lv_at hl 0 rfl) ?_
  refine lv_iload_n F.1 F.2.1 dL_meet_3 rfl (lv_at hl 1 rfl) ?_
  refine lv_iload_n F.1 F.2.1 dL_meet_4 rfl (lv_at hl 2 rfl) ?_
  refine rr_thrV (rest := [vI 0, .ref out]) F hK hX hZ htab (t_X6_meet_37 l hnt D cy sa x tx st sk hi sl fi r bk ws wc sp w v hc r_w r_v h1 h2) hP sf_X6_meet tw765 6 rfl rfl ⟨Nat.le_of_ble_eq_true rfl, Nat.le_of_ble_eq_true rfl, Nat.le_of_ble_eq_true rfl, Nat.le_of_ble_eq_true rfl⟩ hl rfl (Nat.le_of_ble_eq_true rfl) dL_meet_5 [⟨0, 10, 13, 23⟩] ⟨0, 10, 17, 15⟩ [] rfl (List.forall_mem_cons.mpr ⟨⟨by decide, xIO, tw400, by decide +kernel⟩, (fun z hz => nomatch hz)⟩) (by decide) (by decide) tw267 cast_xIS (fun q9 H hS => ?_)
  refine lv_astore (lv' := [(4, .ref q9), (0, .ref x), (1, vI w), (2, vI v), (3, .ref out)]) F.1 F.2.1 dL_meet_17 hl (by decide) rfl (fun ls hl => ?_)
  refine rr_iconst F dL_meet_19 ?_
  exact rr_twret F hr hlocks hS dL_meet_20 rfl
set_option maxRecDepth 100000 in
set_option maxHeartbeats 4000000 in
theorem r_seesAll_11 (l : Launch) (hnt : l.stackTraces = false) (D : va_G) (cy : Nat → ClassId) (sa : Nat → Nat) (x tx st sk hi sl fi r bk ws : Nat) (wc sp : Int) (w : Int) (out : Nat) (hc : 0 ≤ wc ∧ wc ≤ 4) (r_w : inR w) (h1 : ¬ (0 ≤ w ∧ w < wc)) : Tw l yL_seesAll cL_seesAll 4 (some FieldType.int) [(0, 9, 12, 23)] 7 [.ref x, vI w, .ref out] D cy sa [(x, .inr (6, [.ref tx, .ref st, .ref sk, .ref hi, .ref sl, .ref fi])), (st, .inr (3, [.ref r, .ref bk, .ref ws, vI wc, vI sp]))] 1 := by
  refine Tw.of RL rfl [(0, .ref x), (1, vI w), (2, .ref out)] rfl (by decide +kernel) (Nat.le_of_ble_eq_true rfl) ?_
  intro p e s m args below meth c F htab hr hlocks hK hX hZ hP ls hl
  refine lv_aload_n F.1 F.2.1 dL_seesAll_0 rfl (lv_at hl 2 rfl) ?_
  refine rr_iconst F dL_seesAll_1 ?_
  refine lv_aload_n F.1 F.2.1 dL_seesAll_2 rfl (lv_at hl 0 rfl) ?_
  refine lv_iload_n F.1 F.2.1 dL_seesAll_3 rfl (lv_at hl 1 rfl) ?_
  refine rr_thrV (rest := [vI 0, .ref out]) F hK hX hZ htab (t_X6_seesAll_11 l hnt D cy sa x tx st sk hi sl fi r bk ws wc sp w hc r_w h1) hP sf_X6_seesAll tw778 6 rfl rfl ⟨Nat.le_of_ble_eq_true rfl, Nat.le_of_ble_eq_true rfl, Nat.le_of_ble_eq_true rfl, Nat.le_of_ble_eq_true rfl⟩ hl rfl (Nat.le_of_ble_eq_true rfl) dL_seesAll_4 [] ⟨0, 9, 12, 23⟩ [] rfl (fun z hz => nomatch hz) (by decide) (by decide) tw400 cast_xIO (fun q9 H hS => ?_)
  refine lv_astore_n (lv' := [(3, .ref q9), (0, .ref x), (1, vI w), (2, .ref out)]) F.1 F.2.1 dL_seesAll_12 rfl hl (by decide) rfl (fun ls hl => ?_)
  refine rr_iconst F dL_seesAll_13 ?_
  exact rr_twret F hr hlocks hS dL_seesAll_14 rfl
set_option maxRecDepth 100000 in
set_option maxHeartbeats 4000000 in
theorem r_ifWorn_21 (l : Launch) (hnt : l.stackTraces = false) (D : va_G) (cy : Nat → ClassId) (sa : Nat → Nat) (x tx sk hi sl fi : Nat) (st ws : Nat) (wc sp : Int) (r sg : Nat) (n : Int) (g q : Int → Int) (bk la na : Nat) (nw : Int) (lt ln : Int → Int) (bl : Int → Int) (bc : Int → Int → Int) (i d : Int) (out : Nat) (hG : RG n g q) (hB : BK nw lt ln bl bc) (r_i : inR i) (r_d : inR d) (h1 : ¬ ((0 ≤ i ∧ i < n) ∧ 0 ≤ d ∧ d ≤ 1)) : Tw l yL_ifWorn cL_ifWorn 5 (some FieldType.int) [(0, 10, 13, 23)] 7 [.ref x, vI i, vI d, .ref out] D cy sa [(x, .inr (6, [.ref tx, .ref st, .ref sk, .ref hi, .ref sl, .ref fi])), (st, .inr (3, [.ref r, .ref bk, .ref ws, vI wc, vI sp])), (r, .inr (2, [.ref sg, vI n])), (sg, .inl (cy 0, 24, .inl (iA g))), (bk, .inr (0, [.ref la, .ref na, vI nw])), (la, .inl (cy 0, 60, .inl (iA lt))), (na, .inl (cy 1, 10, .inl (iA ln)))] 1 := by
  refine Tw.of RL rfl [(0, .ref x), (1, vI i), (2, vI d), (3, .ref out)] rfl (by decide +kernel) (Nat.le_of_ble_eq_true rfl) ?_
  intro p e s m args below meth c F htab hr hlocks hK hX hZ hP ls hl
  refine lv_aload_n F.1 F.2.1 dL_ifWorn_0 rfl (lv_at hl 3 rfl) ?_
  refine rr_iconst F dL_ifWorn_1 ?_
  refine lv_aload_n F.1 F.2.1 dL_ifWorn_2 rfl (lv_at hl 0 rfl) ?_
  refine lv_iload_n F.1 F.2.1 dL_ifWorn_3 rfl (lv_at hl 1 rfl) ?_
  refine lv_iload_n F.1 F.2.1 dL_ifWorn_4 rfl (lv_at hl 2 rfl) ?_
  refine rr_thrV (rest := [vI 0, .ref out]) F hK hX hZ htab (t_X6_ifWorn_21 l hnt D cy sa x tx sk hi sl fi st ws wc sp r sg n g q bk la na nw lt ln bl bc i d hG hB r_i r_d h1) hP sf_X6_ifWorn tw789 6 rfl rfl ⟨Nat.le_of_ble_eq_true rfl, Nat.le_of_ble_eq_true rfl, Nat.le_of_ble_eq_true rfl, Nat.le_of_ble_eq_true rfl⟩ hl rfl (Nat.le_of_ble_eq_true rfl) dL_ifWorn_5 [] ⟨0, 10, 13, 23⟩ [] rfl (fun z hz => nomatch hz) (by decide) (by decide) tw400 cast_xIO (fun q9 H hS => ?_)
  refine lv_astore (lv' := [(4, .ref q9), (0, .ref x), (1, vI i), (2, vI d), (3, .ref out)]) F.1 F.2.1 dL_ifWorn_13 hl (by decide) rfl (fun ls hl => ?_)
  refine rr_iconst F dL_ifWorn_15 ?_
  exact rr_twret F hr hlocks hS dL_ifWorn_16 rfl
set_option maxRecDepth 100000 in
set_option maxHeartbeats 4000000 in
theorem r_bestDivider_7 (l : Launch) (hnt : l.stackTraces = false) (D : va_G) (cy : Nat → ClassId) (sa : Nat → Nat) (x tx st sk hi sl fi : Nat) (d i : Int) (out : Nat) (r_d : inR d) (r_i : inR i) (h1 : ¬ (0 ≤ d ∧ d ≤ 1)) : Tw l yL_bestDivider cL_bestDivider 5 (some FieldType.int) [(0, 10, 13, 23), (0, 10, 17, 13)] 7 [.ref x, vI d, vI i, .ref out] D cy sa [(x, .inr (6, [.ref tx, .ref st, .ref sk, .ref hi, .ref sl, .ref fi]))] 1 := by
  refine Tw.of RL rfl [(0, .ref x), (1, vI d), (2, vI i), (3, .ref out)] rfl (by decide +kernel) (Nat.le_of_ble_eq_true rfl) ?_
  intro p e s m args below meth c F htab hr hlocks hK hX hZ hP ls hl
  refine lv_aload_n F.1 F.2.1 dL_bestDivider_0 rfl (lv_at hl 3 rfl) ?_
  refine rr_iconst F dL_bestDivider_1 ?_
  refine lv_aload_n F.1 F.2.1 dL_bestDivider_2 rfl (lv_at hl 0 rfl) ?_
  refine lv_iload_n F.1 F.2.1 dL_bestDivider_3 rfl (lv_at hl 1 rfl) ?_
  refine lv_iload_n F.1 F.2.1 dL_bestDivider_4 rfl (lv_at hl 2 rfl) ?_
  refine rr_thrV (rest := [vI 0, .ref out]) F hK hX hZ htab (t_X6_bestDivider_7 l hnt D cy sa x tx st sk hi sl fi d i r_d r_i h1) hP sf_X6_bestDivider tw797 6 rfl rfl ⟨Nat.le_of_ble_eq_true rfl, Nat.le_of_ble_eq_true rfl, Nat.le_of_ble_eq_true rfl, Nat.le_of_ble_eq_true rfl⟩ hl rfl (Nat.le_of_ble_eq_true rfl) dL_bestDivider_5 [] ⟨0, 10, 13, 23⟩ [⟨0, 10, 17, 13⟩] rfl (fun z hz => nomatch hz) (by decide) (by decide) tw400 cast_xIO (fun q9 H hS => ?_)
  refine lv_astore (lv' := [(4, .ref q9), (0, .ref x), (1, vI d), (2, vI i), (3, .ref out)]) F.1 F.2.1 dL_bestDivider_13 hl (by decide) rfl (fun ls hl => ?_)
  refine rr_iconst F dL_bestDivider_15 ?_
  exact rr_twret F hr hlocks hS dL_bestDivider_16 rfl
set_option maxRecDepth 100000 in
set_option maxHeartbeats 4000000 in
theorem r_bestDivider_26 (l : Launch) (hnt : l.stackTraces = false) (D : va_G) (cy : Nat → ClassId) (sa : Nat → Nat) (x tx st sk hi sl fi : Nat) (d i : Int) (out : Nat) (r_d : inR d) (r_i : inR i) (h1 : 0 ≤ d ∧ d ≤ 1) (h2 : ¬ (0 ≤ i ∧ i ≤ 1)) : Tw l yL_bestDivider cL_bestDivider 5 (some FieldType.int) [(0, 10, 13, 23), (0, 10, 17, 13)] 7 [.ref x, vI d, vI i, .ref out] D cy sa [(x, .inr (6, [.ref tx, .ref st, .ref sk, .ref hi, .ref sl, .ref fi]))] 2 := by
  refine Tw.of RL rfl [(0, .ref x), (1, vI d), (2, vI i), (3, .ref out)] rfl (by decide +kernel) (Nat.le_of_ble_eq_true rfl) ?_
  intro p e s m args below meth c F htab hr hlocks hK hX hZ hP ls hl
  refine lv_aload_n F.1 F.2.1 dL_bestDivider_0 rfl (lv_at hl 3 rfl) ?_
  refine rr_iconst F dL_bestDivider_1 ?_
  refine lv_aload_n F.1 F.2.1 dL_bestDivider_2 rfl (lv_at hl 0 rfl) ?_
  refine lv_iload_n F.1 F.2.1 dL_bestDivider_3 rfl (lv_at hl 1 rfl) ?_
  refine lv_iload_n F.1 F.2.1 dL_bestDivider_4 rfl (lv_at hl 2 rfl) ?_
  refine rr_thrV (rest := [vI 0, .ref out]) F hK hX hZ htab (t_X6_bestDivider_26 l hnt D cy sa x tx st sk hi sl fi d i r_d r_i h1 h2) hP sf_X6_bestDivider tw797 6 rfl rfl ⟨Nat.le_of_ble_eq_true rfl, Nat.le_of_ble_eq_true rfl, Nat.le_of_ble_eq_true rfl, Nat.le_of_ble_eq_true rfl⟩ hl rfl (Nat.le_of_ble_eq_true rfl) dL_bestDivider_5 [⟨0, 10, 13, 23⟩] ⟨0, 10, 17, 13⟩ [] rfl (List.forall_mem_cons.mpr ⟨⟨by decide, xIO, tw400, by decide +kernel⟩, (fun z hz => nomatch hz)⟩) (by decide) (by decide) tw266 cast_xIA (fun q9 H hS => ?_)
  refine lv_astore (lv' := [(4, .ref q9), (0, .ref x), (1, vI d), (2, vI i), (3, .ref out)]) F.1 F.2.1 dL_bestDivider_17 hl (by decide) rfl (fun ls hl => ?_)
  refine rr_iconst F dL_bestDivider_19 ?_
  exact rr_twret F hr hlocks hS dL_bestDivider_20 rfl
set_option maxRecDepth 100000 in
set_option maxHeartbeats 4000000 in
theorem r_canBe_21 (l : Launch) (hnt : l.stackTraces = false) (D : va_G) (cy : Nat → ClassId) (sa : Nat → Nat) (x tx sk hi sl fi : Nat) (st ws : Nat) (wc sp : Int) (r sg : Nat) (n : Int) (g q : Int → Int) (bk la na : Nat) (nw : Int) (lt ln : Int → Int) (bl : Int → Int) (bc : Int → Int → Int) (i d : Int) (out : Nat) (hG : RG n g q) (hB : BK nw lt ln bl bc) (r_i : inR i) (r_d : inR d) (h1 : ¬ ((0 ≤ i ∧ i < n) ∧ 0 ≤ d ∧ d ≤ 1)) : Tw l yL_canBe cL_canBe 5 (some FieldType.int) [(0, 10, 13, 23)] 7 [.ref x, vI i, vI d, .ref out] D cy sa [(x, .inr (6, [.ref tx, .ref st, .ref sk, .ref hi, .ref sl, .ref fi])), (st, .inr (3, [.ref r, .ref bk, .ref ws, vI wc, vI sp])), (r, .inr (2, [.ref sg, vI n])), (sg, .inl (cy 0, 24, .inl (iA g))), (bk, .inr (0, [.ref la, .ref na, vI nw])), (la, .inl (cy 0, 60, .inl (iA lt))), (na, .inl (cy 1, 10, .inl (iA ln)))] 1 := by
  refine Tw.of RL rfl [(0, .ref x), (1, vI i), (2, vI d), (3, .ref out)] rfl (by decide +kernel) (Nat.le_of_ble_eq_true rfl) ?_
  intro p e s m args below meth c F htab hr hlocks hK hX hZ hP ls hl
  refine lv_aload_n F.1 F.2.1 dL_canBe_0 rfl (lv_at hl 3 rfl) ?_
  refine rr_iconst F dL_canBe_1 ?_
  refine lv_aload_n F.1 F.2.1 dL_canBe_2 rfl (lv_at hl 0 rfl) ?_
  refine lv_iload_n F.1 F.2.1 dL_canBe_3 rfl (lv_at hl 1 rfl) ?_
  refine lv_iload_n F.1 F.2.1 dL_canBe_4 rfl (lv_at hl 2 rfl) ?_
  refine rr_thrV (rest := [vI 0, .ref out]) F hK hX hZ htab (t_X6_canBe_21 l hnt D cy sa x tx sk hi sl fi st ws wc sp r sg n g q bk la na nw lt ln bl bc i d hG hB r_i r_d h1) hP sf_X6_canBe tw806 6 rfl rfl ⟨Nat.le_of_ble_eq_true rfl, Nat.le_of_ble_eq_true rfl, Nat.le_of_ble_eq_true rfl, Nat.le_of_ble_eq_true rfl⟩ hl rfl (Nat.le_of_ble_eq_true rfl) dL_canBe_5 [] ⟨0, 10, 13, 23⟩ [] rfl (fun z hz => nomatch hz) (by decide) (by decide) tw400 cast_xIO (fun q9 H hS => ?_)
  refine lv_astore (lv' := [(4, .ref q9), (0, .ref x), (1, vI i), (2, vI d), (3, .ref out)]) F.1 F.2.1 dL_canBe_13 hl (by decide) rfl (fun ls hl => ?_)
  refine rr_iconst F dL_canBe_15 ?_
  exact rr_twret F hr hlocks hS dL_canBe_16 rfl
set_option maxRecDepth 100000 in
set_option maxHeartbeats 4000000 in
theorem r_runScript_10 (l : Launch) (hnt : l.stackTraces = false) (D : va_G) (cy : Nat → ClassId) (sa : Nat → Nat) (x tx st sk hi sl fi : Nat) (n0 s0 : Int) (out : Nat) (r_n0 : inR n0) (h1 : ¬ (1 ≤ n0 ∧ n0 ≤ 3)) : Tw l yL_runScript cL_runScript 6 (some FieldType.int) [(0, 11, 14, 13)] 7 [.ref x, vI n0, .long (lI s0), .ref out] D cy sa [(x, .inr (6, [.ref tx, .ref st, .ref sk, .ref hi, .ref sl, .ref fi]))] 1 := by
  refine Tw.of RL rfl [(0, .ref x), (1, vI n0), (2, .long (lI s0)), (4, .ref out)] rfl (by decide +kernel) (Nat.le_of_ble_eq_true rfl) ?_
  intro p e s m args below meth c F htab hr hlocks hK hX hZ hP ls hl
  refine lv_aload F.1 F.2.1 dL_runScript_0 (lv_at hl 3 rfl) ?_
  refine rr_iconst F dL_runScript_2 ?_
  refine lv_aload_n F.1 F.2.1 dL_runScript_3 rfl (lv_at hl 0 rfl) ?_
  refine lv_iload_n F.1 F.2.1 dL_runScript_4 rfl (lv_at hl 1 rfl) ?_
  refine lv_lload_n F.1 F.2.1 dL_runScript_5 rfl (lv_at hl 2 rfl) ?_
  refine rr_thrV (rest := [vI 0, .ref out]) F hK hX hZ htab (t_X6_runScript_10 l hnt D cy sa x tx st sk hi sl fi n0 s0 r_n0 h1) hP sf_X6_runScript tw822 6 rfl rfl ⟨Nat.le_of_ble_eq_true rfl, Nat.le_of_ble_eq_true rfl, Nat.le_of_ble_eq_true rfl, Nat.le_of_ble_eq_true rfl⟩ hl rfl (Nat.le_of_ble_eq_true rfl) dL_runScript_6 [] ⟨0, 11, 14, 13⟩ [] rfl (fun z hz => nomatch hz) (by decide) (by decide) tw266 cast_xIA (fun q9 H hS => ?_)
  refine lv_astore (lv' := [(5, .ref q9), (0, .ref x), (1, vI n0), (2, .long (lI s0)), (4, .ref out)]) F.1 F.2.1 dL_runScript_14 hl (by decide) rfl (fun ls hl => ?_)
  refine rr_iconst F dL_runScript_16 ?_
  exact rr_twret F hr hlocks hS dL_runScript_17 rfl
set_option maxRecDepth 100000 in
set_option maxHeartbeats 4000000 in
theorem r_runScript_60 (l : Launch) (hnt : l.stackTraces = false) (D : va_G) (cy : Nat → ClassId) (sa : Nat → Nat) (x tx st sk hi sl fi : Nat) (n0 s0 : Int) (out : Nat) (r_n0 : inR n0) (s_r : inL s0) (h1 : 1 ≤ n0 ∧ n0 ≤ 3) (h2 : ¬ (0 ≤ s0 ∧ s0 < pw n0)) : Tw l yL_runScript cL_runScript 6 (some FieldType.int) [(0, 11, 14, 13)] 7 [.ref x, vI n0, .long (lI s0), .ref out] D cy sa [(x, .inr (6, [.ref tx, .ref st, .ref sk, .ref hi, .ref sl, .ref fi]))] 1 := by
  refine Tw.of RL rfl [(0, .ref x), (1, vI n0), (2, .long (lI s0)), (4, .ref out)] rfl (by decide +kernel) (Nat.le_of_ble_eq_true rfl) ?_
  intro p e s m args below meth c F htab hr hlocks hK hX hZ hP ls hl
  refine lv_aload F.1 F.2.1 dL_runScript_0 (lv_at hl 3 rfl) ?_
  refine rr_iconst F dL_runScript_2 ?_
  refine lv_aload_n F.1 F.2.1 dL_runScript_3 rfl (lv_at hl 0 rfl) ?_
  refine lv_iload_n F.1 F.2.1 dL_runScript_4 rfl (lv_at hl 1 rfl) ?_
  refine lv_lload_n F.1 F.2.1 dL_runScript_5 rfl (lv_at hl 2 rfl) ?_
  refine rr_thrV (rest := [vI 0, .ref out]) F hK hX hZ htab (t_X6_runScript_60 l hnt D cy sa x tx st sk hi sl fi n0 s0 r_n0 s_r h1 h2) hP sf_X6_runScript tw822 6 rfl rfl ⟨Nat.le_of_ble_eq_true rfl, Nat.le_of_ble_eq_true rfl, Nat.le_of_ble_eq_true rfl, Nat.le_of_ble_eq_true rfl⟩ hl rfl (Nat.le_of_ble_eq_true rfl) dL_runScript_6 [] ⟨0, 11, 14, 13⟩ [] rfl (fun z hz => nomatch hz) (by decide) (by decide) tw266 cast_xIA (fun q9 H hS => ?_)
  refine lv_astore (lv' := [(5, .ref q9), (0, .ref x), (1, vI n0), (2, .long (lI s0)), (4, .ref out)]) F.1 F.2.1 dL_runScript_14 hl (by decide) rfl (fun ls hl => ?_)
  refine rr_iconst F dL_runScript_16 ?_
  exact rr_twret F hr hlocks hS dL_runScript_17 rfl
set_option maxRecDepth 100000 in
set_option maxHeartbeats 4000000 in
theorem r_simulate_11 (l : Launch) (hnt : l.stackTraces = false) (D : va_G) (cy : Nat → ClassId) (sa : Nat → Nat) (x tx st sk hi sl fi : Nat) (s0 t0 : Int) (out : Nat) (r_t0 : inR t0) (h1 : ¬ (1 ≤ t0 ∧ t0 ≤ 60)) : Tw l yL_simulate cL_simulate 6 (some FieldType.int) [(0, 11, 14, 13)] 7 [.ref x, .long (lI s0), vI t0, .ref out] D cy sa [(x, .inr (6, [.ref tx, .ref st, .ref sk, .ref hi, .ref sl, .ref fi]))] 1 := by
  refine Tw.of RL rfl [(0, .ref x), (1, .long (lI s0)), (3, vI t0), (4, .ref out)] rfl (by decide +kernel) (Nat.le_of_ble_eq_true rfl) ?_
  intro p e s m args below meth c F htab hr hlocks hK hX hZ hP ls hl
  refine lv_aload F.1 F.2.1 dL_simulate_0 (lv_at hl 3 rfl) ?_
  refine rr_iconst F dL_simulate_2 ?_
  refine lv_aload_n F.1 F.2.1 dL_simulate_3 rfl (lv_at hl 0 rfl) ?_
  refine lv_lload_n F.1 F.2.1 dL_simulate_4 rfl (lv_at hl 1 rfl) ?_
  refine lv_iload_n F.1 F.2.1 dL_simulate_5 rfl (lv_at hl 2 rfl) ?_
  refine rr_thrV (rest := [vI 0, .ref out]) F hK hX hZ htab (t_X6_simulate_11 l hnt D cy sa x tx st sk hi sl fi s0 t0 r_t0 h1) hP sf_X6_simulate tw838 6 rfl rfl ⟨Nat.le_of_ble_eq_true rfl, Nat.le_of_ble_eq_true rfl, Nat.le_of_ble_eq_true rfl, Nat.le_of_ble_eq_true rfl⟩ hl rfl (Nat.le_of_ble_eq_true rfl) dL_simulate_6 [] ⟨0, 11, 14, 13⟩ [] rfl (fun z hz => nomatch hz) (by decide) (by decide) tw266 cast_xIA (fun q9 H hS => ?_)
  refine lv_astore (lv' := [(5, .ref q9), (0, .ref x), (1, .long (lI s0)), (3, vI t0), (4, .ref out)]) F.1 F.2.1 dL_simulate_14 hl (by decide) rfl (fun ls hl => ?_)
  refine rr_iconst F dL_simulate_16 ?_
  exact rr_twret F hr hlocks hS dL_simulate_17 rfl
set_option maxRecDepth 100000 in
set_option maxHeartbeats 4000000 in
theorem r_save_9 (l : Launch) (hnt : l.stackTraces = false) (D : va_G) (cy : Nat → ClassId) (sa : Nat → Nat) (x tx st sk hi sl fi : Nat) (i0 : Int) (out : Nat) (r_i0 : inR i0) (h1 : ¬ (0 ≤ i0 ∧ i0 ≤ 1)) : Tw l yL_save cL_save 4 (some FieldType.int) [(0, 9, 12, 23)] 7 [.ref x, vI i0, .ref out] D cy sa [(x, .inr (6, [.ref tx, .ref st, .ref sk, .ref hi, .ref sl, .ref fi]))] 1 := by
  refine Tw.of RL rfl [(0, .ref x), (1, vI i0), (2, .ref out)] rfl (by decide +kernel) (Nat.le_of_ble_eq_true rfl) ?_
  intro p e s m args below meth c F htab hr hlocks hK hX hZ hP ls hl
  refine lv_aload_n F.1 F.2.1 dL_save_0 rfl (lv_at hl 2 rfl) ?_
  refine rr_iconst F dL_save_1 ?_
  refine lv_aload_n F.1 F.2.1 dL_save_2 rfl (lv_at hl 0 rfl) ?_
  refine lv_iload_n F.1 F.2.1 dL_save_3 rfl (lv_at hl 1 rfl) ?_
  refine rr_thrV (rest := [vI 0, .ref out]) F hK hX hZ htab (t_X6_save_9 l hnt D cy sa x tx st sk hi sl fi i0 r_i0 h1) hP sf_X6_save tw851 6 rfl rfl ⟨Nat.le_of_ble_eq_true rfl, Nat.le_of_ble_eq_true rfl, Nat.le_of_ble_eq_true rfl, Nat.le_of_ble_eq_true rfl⟩ hl rfl (Nat.le_of_ble_eq_true rfl) dL_save_4 [] ⟨0, 9, 12, 23⟩ [] rfl (fun z hz => nomatch hz) (by decide) (by decide) tw400 cast_xIO (fun q9 H hS => ?_)
  refine lv_astore_n (lv' := [(3, .ref q9), (0, .ref x), (1, vI i0), (2, .ref out)]) F.1 F.2.1 dL_save_12 rfl hl (by decide) rfl (fun ls hl => ?_)
  refine rr_iconst F dL_save_13 ?_
  exact rr_twret F hr hlocks hS dL_save_14 rfl
set_option maxRecDepth 100000 in
set_option maxHeartbeats 4000000 in
theorem r_restore_9 (l : Launch) (hnt : l.stackTraces = false) (D : va_G) (cy : Nat → ClassId) (sa : Nat → Nat) (x tx st sk hi sl fi : Nat) (i0 : Int) (out : Nat) (r_i0 : inR i0) (h1 : ¬ (0 ≤ i0 ∧ i0 ≤ 1)) : Tw l yL_restore cL_restore 4 (some FieldType.int) [(0, 9, 12, 23), (0, 9, 15, 15)] 7 [.ref x, vI i0, .ref out] D cy sa [(x, .inr (6, [.ref tx, .ref st, .ref sk, .ref hi, .ref sl, .ref fi]))] 1 := by
  refine Tw.of RL rfl [(0, .ref x), (1, vI i0), (2, .ref out)] rfl (by decide +kernel) (Nat.le_of_ble_eq_true rfl) ?_
  intro p e s m args below meth c F htab hr hlocks hK hX hZ hP ls hl
  refine lv_aload_n F.1 F.2.1 dL_restore_0 rfl (lv_at hl 2 rfl) ?_
  refine rr_iconst F dL_restore_1 ?_
  refine lv_aload_n F.1 F.2.1 dL_restore_2 rfl (lv_at hl 0 rfl) ?_
  refine lv_iload_n F.1 F.2.1 dL_restore_3 rfl (lv_at hl 1 rfl) ?_
  refine rr_thrV (rest := [vI 0, .ref out]) F hK hX hZ htab (t_X6_restore_9 l hnt D cy sa x tx st sk hi sl fi i0 r_i0 h1) hP sf_X6_restore tw859 6 rfl rfl ⟨Nat.le_of_ble_eq_true rfl, Nat.le_of_ble_eq_true rfl, Nat.le_of_ble_eq_true rfl, Nat.le_of_ble_eq_true rfl⟩ hl rfl (Nat.le_of_ble_eq_true rfl) dL_restore_4 [] ⟨0, 9, 12, 23⟩ [⟨0, 9, 15, 15⟩] rfl (fun z hz => nomatch hz) (by decide) (by decide) tw400 cast_xIO (fun q9 H hS => ?_)
  refine lv_astore_n (lv' := [(3, .ref q9), (0, .ref x), (1, vI i0), (2, .ref out)]) F.1 F.2.1 dL_restore_12 rfl hl (by decide) rfl (fun ls hl => ?_)
  refine rr_iconst F dL_restore_13 ?_
  exact rr_twret F hr hlocks hS dL_restore_14 rfl
set_option maxRecDepth 100000 in
set_option maxHeartbeats 4000000 in
theorem r_restore_29 (l : Launch) (hnt : l.stackTraces = false) (D : va_G) (cy : Nat → ClassId) (sa : Nat → Nat) (x tx st sk hi sl fi : Nat) (fv : Int → Int) (i0 : Int) (out : Nat) (r_i0 : inR i0) (h1 : 0 ≤ i0 ∧ i0 ≤ 1) (h2 : fv i0 = 0) : Tw l yL_restore cL_restore 4 (some FieldType.int) [(0, 9, 12, 23), (0, 9, 15, 15)] 7 [.ref x, vI i0, .ref out] D cy sa [(x, .inr (6, [.ref tx, .ref st, .ref sk, .ref hi, .ref sl, .ref fi])), (fi, .inl (cy 2, 2, .inl (iA fv)))] 2 := by
  refine Tw.of RL rfl [(0, .ref x), (1, vI i0), (2, .ref out)] rfl (by decide +kernel) (Nat.le_of_ble_eq_true rfl) ?_
  intro p e s m args below meth c F htab hr hlocks hK hX hZ hP ls hl
  refine lv_aload_n F.1 F.2.1 dL_restore_0 rfl (lv_at hl 2 rfl) ?_
  refine rr_iconst F dL_restore_1 ?_
  refine lv_aload_n F.1 F.2.1 dL_restore_2 rfl (lv_at hl 0 rfl) ?_
  refine lv_iload_n F.1 F.2.1 dL_restore_3 rfl (lv_at hl 1 rfl) ?_
  refine rr_thrV (rest := [vI 0, .ref out]) F hK hX hZ htab (t_X6_restore_29 l hnt D cy sa x tx st sk hi sl fi fv i0 r_i0 h1 h2) hP sf_X6_restore tw859 6 rfl rfl ⟨Nat.le_of_ble_eq_true rfl, Nat.le_of_ble_eq_true rfl, Nat.le_of_ble_eq_true rfl, Nat.le_of_ble_eq_true rfl⟩ hl rfl (Nat.le_of_ble_eq_true rfl) dL_restore_4 [⟨0, 9, 12, 23⟩] ⟨0, 9, 15, 15⟩ [] rfl (List.forall_mem_cons.mpr ⟨⟨by decide, xIO, tw400, by decide +kernel⟩, (fun z hz => nomatch hz)⟩) (by decide) (by decide) tw267 cast_xIS (fun q9 H hS => ?_)
  refine lv_astore_n (lv' := [(3, .ref q9), (0, .ref x), (1, vI i0), (2, .ref out)]) F.1 F.2.1 dL_restore_15 rfl hl (by decide) rfl (fun ls hl => ?_)
  refine rr_iconst F dL_restore_16 ?_
  exact rr_twret F hr hlocks hS dL_restore_17 rfl
