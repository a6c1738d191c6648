set_option maxRecDepth 100000 in
set_option maxHeartbeats 4000000 in
theorem c_X7_triesAct (l : Launch) (D : va_G) (cy : Nat → ClassId) (mo no th pa sl sv tx : Nat) (tr ss ty : Int) (a : Int → Int) (kd i c0 : Int) (hM : MR a) (hk : 1 ≤ kd ∧ kd ≤ 4) (hi : inR i) (hc : inR c0) : Wr l yX7_triesAct cX7_triesAct 6 (some FieldType.boolean) 2 [.ref mo, vI kd, vI i, vI c0] D cy [(mo, .inr (7, [vI tr, .ref no, .ref th, .ref pa, vI ss, .ref sl, .ref sv, .ref tx, vI ty])), (th, .inl (cy 1, 118, .inl (iA a)))] [(mo, .inr (7, [vI tr, .ref no, .ref th, .ref pa, vI ss, .ref sl, .ref sv, .ref tx, vI ty])), (th, .inl (cy 1, 118, .inl (iA (tryR a kd i c0))))] (some (vI (b2i (pB (okA a kd i c0))))) := by
  refine Wr.of RX7 rfl [(0, .ref mo), (1, vI kd), (2, vI i), (3, vI c0)] rfl (by decide +kernel) (Nat.le_of_ble_eq_true rfl) ?_
  intro p e s m args below meth c F hr hlocks hK hP hD hS hA ls hl
  have hn0 := hM.n
  have hw0 := hM.nw
  have hc0 := hM.wc
  refine rr_iconst F dX7_triesAct_0 ?_
  refine lv_istore (lv' := [(4, vI 0), (0, .ref mo), (1, vI kd), (2, vI i), (3, vI c0)]) F.1 F.2.1 dX7_triesAct_1 hl (by decide) rfl (fun ls hl => ?_)
  refine rr_iconst F dX7_triesAct_3 ?_
  refine lv_istore (lv' := [(5, vI 0), (4, vI 0), (0, .ref mo), (1, vI kd), (2, vI i), (3, vI c0)]) F.1 F.2.1 dX7_triesAct_4 hl (by decide) rfl (fun ls hl => ?_)
  refine lv_iload_n F.1 F.2.1 dX7_triesAct_6 rfl (lv_at hl 3 rfl) ?_
  rcases (show (kd < 1 ∨ 3 < kd) ∨ kd = 1 ∨ kd = 2 ∨ kd = 3 by omega) with c_7 | c_7 | c_7 | c_7
  · refine rr_tabOut F (tgt := 186) dX7_triesAct_7 ⟨by omega, by omega⟩ c_7 rfl ?_
    refine lv_aload_n F.1 F.2.1 dX7_triesAct_186 rfl (lv_at hl 2 rfl) ?_
    refine gf7_2 F hK hP 0 rfl tw876 dX7_triesAct_187 ?_
    refine lv_iload_n F.1 F.2.1 dX7_triesAct_190 rfl (lv_at hl 4 rfl) ?_
    refine rr_rdS (rest := []) F hK (c_X7_canPlace l D cy th a i (by first | assumption | omega | exact ⟨by omega, by omega⟩) (by first | assumption | omega | exact ⟨by omega, by omega⟩)) (hP.sub [1] rfl) sf_X7_canPlace tw1231 ⟨Nat.le_of_ble_eq_true rfl, Nat.le_of_ble_eq_true rfl⟩ hl rfl (Nat.le_of_ble_eq_true rfl) dX7_triesAct_191 ⟨Nat.zero_le _, Nat.zero_le _⟩ ?_
    refine rr_ifP_eq F (tgt := 205) dX7_triesAct_194 (by decide) (fun c_194 => ?_) (fun c_194 => ?_)
    · refine rr_iconst F dX7_triesAct_205 ?_
      refine lv_istore (lv' := [(5, vI 0), (4, vI 0), (0, .ref mo), (1, vI kd), (2, vI i), (3, vI c0)]) F.1 F.2.1 dX7_triesAct_206 hl (by decide) rfl (fun ls hl => ?_)
      refine lv_iload F.1 F.2.1 dX7_triesAct_208 (lv_at hl 0 rfl) ?_
      refine rr_if_eq F (tgt := 224) dX7_triesAct_210 (by decide) ⟨by omega, by omega⟩ (fun c_210 => ?_) (fun c_210 => ?_)
      · refine rr_iconst F dX7_triesAct_224 ?_
        refine lv_istore (lv' := [(4, vI 0), (5, vI 0), (0, .ref mo), (1, vI kd), (2, vI i), (3, vI c0)]) F.1 F.2.1 dX7_triesAct_225 hl (by decide) rfl (fun ls hl => ?_)
        refine lv_iload F.1 F.2.1 dX7_triesAct_227 (lv_at hl 1 rfl) ?_
        exact rr_wzret F hr hlocks (b := false) dX7_triesAct_229 hP hS (by first | (rw [tryR_y (by unfold okA; omega)]; unfold actR; repeat' (first | rfl | split | omega)) | rw [tryR_n (by unfold okA; omega)]) rfl (b2i_f (by unfold okA; omega))
      · exfalso; omega
    · refine lv_iload_n F.1 F.2.1 dX7_triesAct_197 rfl (lv_at hl 5 rfl) ?_
      refine rr_if_ne F (tgt := 205) dX7_triesAct_198 (by decide) hc (fun c_198 => ?_) (fun c_198 => ?_)
      · refine rr_iconst F dX7_triesAct_205 ?_
        refine lv_istore (lv' := [(5, vI 0), (4, vI 0), (0, .ref mo), (1, vI kd), (2, vI i), (3, vI c0)]) F.1 F.2.1 dX7_triesAct_206 hl (by decide) rfl (fun ls hl => ?_)
        refine lv_iload F.1 F.2.1 dX7_triesAct_208 (lv_at hl 0 rfl) ?_
        refine rr_if_eq F (tgt := 224) dX7_triesAct_210 (by decide) ⟨by omega, by omega⟩ (fun c_210 => ?_) (fun c_210 => ?_)
        · refine rr_iconst F dX7_triesAct_224 ?_
          refine lv_istore (lv' := [(4, vI 0), (5, vI 0), (0, .ref mo), (1, vI kd), (2, vI i), (3, vI c0)]) F.1 F.2.1 dX7_triesAct_225 hl (by decide) rfl (fun ls hl => ?_)
          refine lv_iload F.1 F.2.1 dX7_triesAct_227 (lv_at hl 1 rfl) ?_
          exact rr_wzret F hr hlocks (b := false) dX7_triesAct_229 hP hS (by first | (rw [tryR_y (by unfold okA; omega)]; unfold actR; repeat' (first | rfl | split | omega)) | rw [tryR_n (by unfold okA; omega)]) rfl (b2i_f (by unfold okA; omega))
        · exfalso; omega
      · refine rr_iconst F dX7_triesAct_201 ?_
        refine lv_goto (tgt := 206) F.1 F.2.1 dX7_triesAct_202 (by decide) ?_
        refine lv_istore (lv' := [(5, vI 1), (4, vI 0), (0, .ref mo), (1, vI kd), (2, vI i), (3, vI c0)]) F.1 F.2.1 dX7_triesAct_206 hl (by decide) rfl (fun ls hl => ?_)
        refine lv_iload F.1 F.2.1 dX7_triesAct_208 (lv_at hl 0 rfl) ?_
        refine rr_if_eq F (tgt := 224) dX7_triesAct_210 (by decide) ⟨by omega, by omega⟩ (fun c_210 => ?_) (fun c_210 => ?_)
        · exfalso; omega
        · refine lv_aload_n F.1 F.2.1 dX7_triesAct_213 rfl (lv_at hl 2 rfl) ?_
          refine gf7_2 F hK hP 0 rfl tw876 dX7_triesAct_214 ?_
          refine lv_iload_n F.1 F.2.1 dX7_triesAct_217 rfl (lv_at hl 4 rfl) ?_
          refine rr_wrS (rest := []) (wr := [(mo, .inr (7, [vI tr, .ref no, .ref th, .ref pa, vI ss, .ref sl, .ref sv, .ref tx, vI ty]))]) (ws2 := [(mo, .inr (7, [vI tr, .ref no, .ref th, .ref pa, vI ss, .ref sl, .ref sv, .ref tx, vI ty])), (th, .inl (cy 1, 118, .inl (iA (zrZ (updZ (delZ (updZ a 0 (a 0 - 1)) (1 + i) (1 + (a 0 - 1))) (1 + (a 0 - 1)) 0) 96 117))))]) F hK (c_X7_erases l D cy th a i (by first | assumption | omega | exact ⟨by omega, by omega⟩) (by first | assumption | omega | exact ⟨by omega, by omega⟩)) hP hD hS hA sf_X7_erases tw1139 ⟨Nat.le_of_ble_eq_true rfl, Nat.le_of_ble_eq_true rfl⟩ hl rfl (Nat.le_of_ble_eq_true rfl) dX7_triesAct_218 ⟨Nat.zero_le _, Nat.zero_le _⟩ [1] [0] [0, 1] rfl rfl (by decide) (by decide) (by decide) rfl rfl (by decide) (fun H locs hP hD hS => ?_)
          have hP : va_P D vwCl [(mo, .inr (7, [vI tr, .ref no, .ref th, .ref pa, vI ss, .ref sl, .ref sv, .ref tx, vI ty])), (th, .inl (cy 1, 118, .inl (iA (zrZ (updZ (delZ (updZ a 0 (a 0 - 1)) (1 + i) (1 + (a 0 - 1))) (1 + (a 0 - 1)) 0) 96 117))))] H := hP
          have hD : va_D _ [(mo, .inr (7, [vI tr, .ref no, .ref th, .ref pa, vI ss, .ref sl, .ref sv, .ref tx, vI ty])), (th, .inl (cy 1, 118, .inl (iA (zrZ (updZ (delZ (updZ a 0 (a 0 - 1)) (1 + i) (1 + (a 0 - 1))) (1 + (a 0 - 1)) 0) 96 117))))] := hD
          refine lv_goto (tgt := 225) F.1 F.2.1 dX7_triesAct_221 (by decide) ?_
          refine lv_istore (lv' := [(4, vI (a 0 - 1)), (5, vI 1), (0, .ref mo), (1, vI kd), (2, vI i), (3, vI c0)]) F.1 F.2.1 dX7_triesAct_225 hl (by decide) rfl (fun ls hl => ?_)
          refine lv_iload F.1 F.2.1 dX7_triesAct_227 (lv_at hl 1 rfl) ?_
          exact rr_wzret F hr hlocks (b := true) dX7_triesAct_229 hP hS (by first | (rw [tryR_y (by unfold okA; omega)]; unfold actR; repeat' (first | rfl | split | omega)) | rw [tryR_n (by unfold okA; omega)]) rfl (b2i_t (by unfold okA; omega))
  · refine rr_tabIn F (tgt := 32) 0 dX7_triesAct_7 ⟨by omega, by omega⟩ (by omega) (by omega) rfl rfl ?_
    refine lv_aload_n F.1 F.2.1 dX7_triesAct_32 rfl (lv_at hl 2 rfl) ?_
    refine gf7_2 F hK hP 0 rfl tw876 dX7_triesAct_33 ?_
    refine lv_iload_n F.1 F.2.1 dX7_triesAct_36 rfl (lv_at hl 4 rfl) ?_
    refine rr_rdS (rest := []) F hK (c_X7_canPlace l D cy th a i (by first | assumption | omega | exact ⟨by omega, by omega⟩) (by first | assumption | omega | exact ⟨by omega, by omega⟩)) (hP.sub [1] rfl) sf_X7_canPlace tw1231 ⟨Nat.le_of_ble_eq_true rfl, Nat.le_of_ble_eq_true rfl⟩ hl rfl (Nat.le_of_ble_eq_true rfl) dX7_triesAct_37 ⟨Nat.zero_le _, Nat.zero_le _⟩ ?_
    refine rr_ifP_eq F (tgt := 54) dX7_triesAct_40 (by decide) (fun c_40 => ?_) (fun c_40 => ?_)
    · refine rr_iconst F dX7_triesAct_54 ?_
      refine lv_istore (lv' := [(5, vI 0), (4, vI 0), (0, .ref mo), (1, vI kd), (2, vI i), (3, vI c0)]) F.1 F.2.1 dX7_triesAct_55 hl (by decide) rfl (fun ls hl => ?_)
      refine lv_iload F.1 F.2.1 dX7_triesAct_57 (lv_at hl 0 rfl) ?_
      refine rr_if_eq F (tgt := 74) dX7_triesAct_59 (by decide) ⟨by omega, by omega⟩ (fun c_59 => ?_) (fun c_59 => ?_)
      · refine rr_iconst F dX7_triesAct_74 ?_
        refine lv_istore (lv' := [(4, vI 0), (5, vI 0), (0, .ref mo), (1, vI kd), (2, vI i), (3, vI c0)]) F.1 F.2.1 dX7_triesAct_75 hl (by decide) rfl (fun ls hl => ?_)
        refine lv_iload F.1 F.2.1 dX7_triesAct_77 (lv_at hl 1 rfl) ?_
        exact rr_wzret F hr hlocks (b := false) dX7_triesAct_79 hP hS (by first | (rw [tryR_y (by unfold okA; omega)]; unfold actR; repeat' (first | rfl | split | omega)) | rw [tryR_n (by unfold okA; omega)]) rfl (b2i_f (by unfold okA; omega))
      · exfalso; omega
    · refine lv_iload_n F.1 F.2.1 dX7_triesAct_43 rfl (lv_at hl 5 rfl) ?_
      refine rr_rdS (rest := []) F hK (c_X7_isSign l D cy c0 (by first | assumption | omega | exact ⟨by omega, by omega⟩)) (hP.sub [] rfl) sf_X7_isSign tw1115 ⟨Nat.le_of_ble_eq_true rfl, Nat.le_of_ble_eq_true rfl⟩ hl rfl (Nat.le_of_ble_eq_true rfl) dX7_triesAct_44 ⟨Nat.zero_le _, Nat.zero_le _⟩ ?_
      refine rr_ifP_eq F (tgt := 54) dX7_triesAct_47 (by decide) (fun c_47 => ?_) (fun c_47 => ?_)
      · refine rr_iconst F dX7_triesAct_54 ?_
        refine lv_istore (lv' := [(5, vI 0), (4, vI 0), (0, .ref mo), (1, vI kd), (2, vI i), (3, vI c0)]) F.1 F.2.1 dX7_triesAct_55 hl (by decide) rfl (fun ls hl => ?_)
        refine lv_iload F.1 F.2.1 dX7_triesAct_57 (lv_at hl 0 rfl) ?_
        refine rr_if_eq F (tgt := 74) dX7_triesAct_59 (by decide) ⟨by omega, by omega⟩ (fun c_59 => ?_) (fun c_59 => ?_)
        · refine rr_iconst F dX7_triesAct_74 ?_
          refine lv_istore (lv' := [(4, vI 0), (5, vI 0), (0, .ref mo), (1, vI kd), (2, vI i), (3, vI c0)]) F.1 F.2.1 dX7_triesAct_75 hl (by decide) rfl (fun ls hl => ?_)
          refine lv_iload F.1 F.2.1 dX7_triesAct_77 (lv_at hl 1 rfl) ?_
          exact rr_wzret F hr hlocks (b := false) dX7_triesAct_79 hP hS (by first | (rw [tryR_y (by unfold okA; omega)]; unfold actR; repeat' (first | rfl | split | omega)) | rw [tryR_n (by unfold okA; omega)]) rfl (b2i_f (by unfold okA; omega))
        · exfalso; omega
      · refine rr_iconst F dX7_triesAct_50 ?_
        refine lv_goto (tgt := 55) F.1 F.2.1 dX7_triesAct_51 (by decide) ?_
        refine lv_istore (lv' := [(5, vI 1), (4, vI 0), (0, .ref mo), (1, vI kd), (2, vI i), (3, vI c0)]) F.1 F.2.1 dX7_triesAct_55 hl (by decide) rfl (fun ls hl => ?_)
        refine lv_iload F.1 F.2.1 dX7_triesAct_57 (lv_at hl 0 rfl) ?_
        refine rr_if_eq F (tgt := 74) dX7_triesAct_59 (by decide) ⟨by omega, by omega⟩ (fun c_59 => ?_) (fun c_59 => ?_)
        · exfalso; omega
        · refine lv_aload_n F.1 F.2.1 dX7_triesAct_62 rfl (lv_at hl 2 rfl) ?_
          refine gf7_2 F hK hP 0 rfl tw876 dX7_triesAct_63 ?_
          refine lv_iload_n F.1 F.2.1 dX7_triesAct_66 rfl (lv_at hl 4 rfl) ?_
          refine lv_iload_n F.1 F.2.1 dX7_triesAct_67 rfl (lv_at hl 5 rfl) ?_
          refine rr_wrS (rest := []) (wr := [(mo, .inr (7, [vI tr, .ref no, .ref th, .ref pa, vI ss, .ref sl, .ref sv, .ref tx, vI ty]))]) (ws2 := [(mo, .inr (7, [vI tr, .ref no, .ref th, .ref pa, vI ss, .ref sl, .ref sv, .ref tx, vI ty])), (th, .inl (cy 1, 118, .inl (iA (updZ a (1 + i) c0))))]) F hK (c_X7_carves l D cy th a i c0 (by first | assumption | omega | exact ⟨by omega, by omega⟩)) hP hD hS hA sf_X7_carves tw1118 ⟨Nat.le_of_ble_eq_true rfl, Nat.le_of_ble_eq_true rfl⟩ hl rfl (Nat.le_of_ble_eq_true rfl) dX7_triesAct_68 ⟨Nat.zero_le _, Nat.zero_le _⟩ [1] [0] [0, 1] rfl rfl (by decide) (by decide) (by decide) rfl rfl (by decide) (fun H locs hP hD hS => ?_)
          have hP : va_P D vwCl [(mo, .inr (7, [vI tr, .ref no, .ref th, .ref pa, vI ss, .ref sl, .ref sv, .ref tx, vI ty])), (th, .inl (cy 1, 118, .inl (iA (updZ a (1 + i) c0))))] H := hP
          have hD : va_D _ [(mo, .inr (7, [vI tr, .ref no, .ref th, .ref pa, vI ss, .ref sl, .ref sv, .ref tx, vI ty])), (th, .inl (cy 1, 118, .inl (iA (updZ a (1 + i) c0))))] := hD
          refine lv_goto (tgt := 75) F.1 F.2.1 dX7_triesAct_71 (by decide) ?_
          refine lv_istore (lv' := [(4, vI (a (1 + i))), (5, vI 1), (0, .ref mo), (1, vI kd), (2, vI i), (3, vI c0)]) F.1 F.2.1 dX7_triesAct_75 hl (by decide) rfl (fun ls hl => ?_)
          refine lv_iload F.1 F.2.1 dX7_triesAct_77 (lv_at hl 1 rfl) ?_
          exact rr_wzret F hr hlocks (b := true) dX7_triesAct_79 hP hS (by first | (rw [tryR_y (by unfold okA; omega)]; unfold actR; repeat' (first | rfl | split | omega)) | rw [tryR_n (by unfold okA; omega)]) rfl (b2i_t (by unfold okA; omega))
  · refine rr_tabIn F (tgt := 80) 1 dX7_triesAct_7 ⟨by omega, by omega⟩ (by omega) (by omega) rfl rfl ?_
    refine lv_aload_n F.1 F.2.1 dX7_triesAct_80 rfl (lv_at hl 2 rfl) ?_
    refine gf7_2 F hK hP 0 rfl tw876 dX7_triesAct_81 ?_
    refine lv_iload_n F.1 F.2.1 dX7_triesAct_84 rfl (lv_at hl 4 rfl) ?_
    refine rr_rdS (rest := []) F hK (c_X7_canPlace l D cy th a i (by first | assumption | omega | exact ⟨by omega, by omega⟩) (by first | assumption | omega | exact ⟨by omega, by omega⟩)) (hP.sub [1] rfl) sf_X7_canPlace tw1231 ⟨Nat.le_of_ble_eq_true rfl, Nat.le_of_ble_eq_true rfl⟩ hl rfl (Nat.le_of_ble_eq_true rfl) dX7_triesAct_85 ⟨Nat.zero_le _, Nat.zero_le _⟩ ?_
    refine rr_ifP_eq F (tgt := 99) dX7_triesAct_88 (by decide) (fun c_88 => ?_) (fun c_88 => ?_)
    · refine rr_iconst F dX7_triesAct_99 ?_
      refine lv_istore (lv' := [(5, vI 0), (4, vI 0), (0, .ref mo), (1, vI kd), (2, vI i), (3, vI c0)]) F.1 F.2.1 dX7_triesAct_100 hl (by decide) rfl (fun ls hl => ?_)
      refine lv_iload F.1 F.2.1 dX7_triesAct_102 (lv_at hl 0 rfl) ?_
      refine rr_if_eq F (tgt := 118) dX7_triesAct_104 (by decide) ⟨by omega, by omega⟩ (fun c_104 => ?_) (fun c_104 => ?_)
      · refine rr_iconst F dX7_triesAct_118 ?_
        refine lv_istore (lv' := [(4, vI 0), (5, vI 0), (0, .ref mo), (1, vI kd), (2, vI i), (3, vI c0)]) F.1 F.2.1 dX7_triesAct_119 hl (by decide) rfl (fun ls hl => ?_)
        refine lv_iload F.1 F.2.1 dX7_triesAct_121 (lv_at hl 1 rfl) ?_
        exact rr_wzret F hr hlocks (b := false) dX7_triesAct_123 hP hS (by first | (rw [tryR_y (by unfold okA; omega)]; unfold actR; repeat' (first | rfl | split | omega)) | rw [tryR_n (by unfold okA; omega)]) rfl (b2i_f (by unfold okA; omega))
      · exfalso; omega
    · refine lv_iload_n F.1 F.2.1 dX7_triesAct_91 rfl (lv_at hl 5 rfl) ?_
      refine rr_if_ne F (tgt := 99) dX7_triesAct_92 (by decide) hc (fun c_92 => ?_) (fun c_92 => ?_)
      · refine rr_iconst F dX7_triesAct_99 ?_
        refine lv_istore (lv' := [(5, vI 0), (4, vI 0), (0, .ref mo), (1, vI kd), (2, vI i), (3, vI c0)]) F.1 F.2.1 dX7_triesAct_100 hl (by decide) rfl (fun ls hl => ?_)
        refine lv_iload F.1 F.2.1 dX7_triesAct_102 (lv_at hl 0 rfl) ?_
        refine rr_if_eq F (tgt := 118) dX7_triesAct_104 (by decide) ⟨by omega, by omega⟩ (fun c_104 => ?_) (fun c_104 => ?_)
        · refine rr_iconst F dX7_triesAct_118 ?_
          refine lv_istore (lv' := [(4, vI 0), (5, vI 0), (0, .ref mo), (1, vI kd), (2, vI i), (3, vI c0)]) F.1 F.2.1 dX7_triesAct_119 hl (by decide) rfl (fun ls hl => ?_)
          refine lv_iload F.1 F.2.1 dX7_triesAct_121 (lv_at hl 1 rfl) ?_
          exact rr_wzret F hr hlocks (b := false) dX7_triesAct_123 hP hS (by first | (rw [tryR_y (by unfold okA; omega)]; unfold actR; repeat' (first | rfl | split | omega)) | rw [tryR_n (by unfold okA; omega)]) rfl (b2i_f (by unfold okA; omega))
        · exfalso; omega
      · refine rr_iconst F dX7_triesAct_95 ?_
        refine lv_goto (tgt := 100) F.1 F.2.1 dX7_triesAct_96 (by decide) ?_
        refine lv_istore (lv' := [(5, vI 1), (4, vI 0), (0, .ref mo), (1, vI kd), (2, vI i), (3, vI c0)]) F.1 F.2.1 dX7_triesAct_100 hl (by decide) rfl (fun ls hl => ?_)
        refine lv_iload F.1 F.2.1 dX7_triesAct_102 (lv_at hl 0 rfl) ?_
        refine rr_if_eq F (tgt := 118) dX7_triesAct_104 (by decide) ⟨by omega, by omega⟩ (fun c_104 => ?_) (fun c_104 => ?_)
        · exfalso; omega
        · refine lv_aload_n F.1 F.2.1 dX7_triesAct_107 rfl (lv_at hl 2 rfl) ?_
          refine gf7_2 F hK hP 0 rfl tw876 dX7_triesAct_108 ?_
          refine lv_iload_n F.1 F.2.1 dX7_triesAct_111 rfl (lv_at hl 4 rfl) ?_
          refine rr_wrS (rest := []) (wr := [(mo, .inr (7, [vI tr, .ref no, .ref th, .ref pa, vI ss, .ref sl, .ref sv, .ref tx, vI ty]))]) (ws2 := [(mo, .inr (7, [vI tr, .ref no, .ref th, .ref pa, vI ss, .ref sl, .ref sv, .ref tx, vI ty])), (th, .inl (cy 1, 118, .inl (iA (updZ a (1 + i) (if a (1 + i) = 0 then 0 else 9)))))]) F hK (c_X7_wears l D cy th a i (by first | assumption | omega | exact ⟨by omega, by omega⟩) (by first | assumption | omega | exact ⟨by omega, by omega⟩)) hP hD hS hA sf_X7_wears tw1125 ⟨Nat.le_of_ble_eq_true rfl, Nat.le_of_ble_eq_true rfl⟩ hl rfl (Nat.le_of_ble_eq_true rfl) dX7_triesAct_112 ⟨Nat.zero_le _, Nat.zero_le _⟩ [1] [0] [0, 1] rfl rfl (by decide) (by decide) (by decide) rfl rfl (by decide) (fun H locs hP hD hS => ?_)
          have hP : va_P D vwCl [(mo, .inr (7, [vI tr, .ref no, .ref th, .ref pa, vI ss, .ref sl, .ref sv, .ref tx, vI ty])), (th, .inl (cy 1, 118, .inl (iA (updZ a (1 + i) (if a (1 + i) = 0 then 0 else 9)))))] H := hP
          have hD : va_D _ [(mo, .inr (7, [vI tr, .ref no, .ref th, .ref pa, vI ss, .ref sl, .ref sv, .ref tx, vI ty])), (th, .inl (cy 1, 118, .inl (iA (updZ a (1 + i) (if a (1 + i) = 0 then 0 else 9)))))] := hD
          refine lv_goto (tgt := 119) F.1 F.2.1 dX7_triesAct_115 (by decide) ?_
          refine lv_istore (lv' := [(4, vI (cnt (fun u_j => (updZ a (1 + i) (if a (1 + i) = 0 then 0 else 9)) (1 + u_j) = 9) (a 0))), (5, vI 1), (0, .ref mo), (1, vI kd), (2, vI i), (3, vI c0)]) F.1 F.2.1 dX7_triesAct_119 hl (by decide) rfl (fun ls hl => ?_)
          refine lv_iload F.1 F.2.1 dX7_triesAct_121 (lv_at hl 1 rfl) ?_
          exact rr_wzret F hr hlocks (b := true) dX7_triesAct_123 hP hS (by first | (rw [tryR_y (by unfold okA; omega)]; unfold actR; repeat' (first | rfl | split | omega)) | rw [tryR_n (by unfold okA; omega)]) rfl (b2i_t (by unfold okA; omega))
  · refine rr_tabIn F (tgt := 124) 2 dX7_triesAct_7 ⟨by omega, by omega⟩ (by omega) (by omega) rfl rfl ?_
    refine lv_iload_n F.1 F.2.1 dX7_triesAct_124 rfl (lv_at hl 4 rfl) ?_
    refine rr_iconst F dX7_triesAct_125 ?_
    refine lv_aload_n F.1 F.2.1 dX7_triesAct_126 rfl (lv_at hl 2 rfl) ?_
    refine gf7_2 F hK hP 0 rfl tw876 dX7_triesAct_127 ?_
    refine rr_iconst F dX7_triesAct_130 ?_
    refine rr_iald F hK hP 1 rfl (by omega) (by omega) (by decide) dX7_triesAct_131 ?_
    refine rr_rdS (rest := []) F hK (c_X7_in l D cy i 0 (a 0) (by first | assumption | omega | exact ⟨by omega, by omega⟩) (by first | assumption | omega | exact ⟨by omega, by omega⟩) (by first | assumption | omega | exact ⟨by omega, by omega⟩)) (hP.sub [] rfl) sf_X7_in tw921 ⟨Nat.le_of_ble_eq_true rfl, Nat.le_of_ble_eq_true rfl⟩ hl rfl (Nat.le_of_ble_eq_true rfl) dX7_triesAct_132 ⟨Nat.zero_le _, Nat.zero_le _⟩ ?_
    refine rr_ifP_eq F (tgt := 160) dX7_triesAct_135 (by decide) (fun c_135 => ?_) (fun c_135 => ?_)
    · refine rr_iconst F dX7_triesAct_160 ?_
      refine lv_istore (lv' := [(5, vI 0), (4, vI 0), (0, .ref mo), (1, vI kd), (2, vI i), (3, vI c0)]) F.1 F.2.1 dX7_triesAct_161 hl (by decide) rfl (fun ls hl => ?_)
      refine lv_iload F.1 F.2.1 dX7_triesAct_163 (lv_at hl 0 rfl) ?_
      refine rr_if_eq F (tgt := 180) dX7_triesAct_165 (by decide) ⟨by omega, by omega⟩ (fun c_165 => ?_) (fun c_165 => ?_)
      · refine rr_iconst F dX7_triesAct_180 ?_
        refine lv_istore (lv' := [(4, vI 0), (5, vI 0), (0, .ref mo), (1, vI kd), (2, vI i), (3, vI c0)]) F.1 F.2.1 dX7_triesAct_181 hl (by decide) rfl (fun ls hl => ?_)
        refine lv_iload F.1 F.2.1 dX7_triesAct_183 (lv_at hl 1 rfl) ?_
        exact rr_wzret F hr hlocks (b := false) dX7_triesAct_185 hP hS (by first | (rw [tryR_y (by unfold okA; omega)]; unfold actR; repeat' (first | rfl | split | omega)) | rw [tryR_n (by unfold okA; omega)]) rfl (b2i_f (by unfold okA; omega))
      · exfalso; omega
    · refine lv_iload_n F.1 F.2.1 dX7_triesAct_138 rfl (lv_at hl 5 rfl) ?_
      refine rr_rdS (rest := []) F hK (c_X7_isSign l D cy c0 (by first | assumption | omega | exact ⟨by omega, by omega⟩)) (hP.sub [] rfl) sf_X7_isSign tw1115 ⟨Nat.le_of_ble_eq_true rfl, Nat.le_of_ble_eq_true rfl⟩ hl rfl (Nat.le_of_ble_eq_true rfl) dX7_triesAct_139 ⟨Nat.zero_le _, Nat.zero_le _⟩ ?_
      refine rr_ifP_eq F (tgt := 160) dX7_triesAct_142 (by decide) (fun c_142 => ?_) (fun c_142 => ?_)
      · refine rr_iconst F dX7_triesAct_160 ?_
        refine lv_istore (lv' := [(5, vI 0), (4, vI 0), (0, .ref mo), (1, vI kd), (2, vI i), (3, vI c0)]) F.1 F.2.1 dX7_triesAct_161 hl (by decide) rfl (fun ls hl => ?_)
        refine lv_iload F.1 F.2.1 dX7_triesAct_163 (lv_at hl 0 rfl) ?_
        refine rr_if_eq F (tgt := 180) dX7_triesAct_165 (by decide) ⟨by omega, by omega⟩ (fun c_165 => ?_) (fun c_165 => ?_)
        · refine rr_iconst F dX7_triesAct_180 ?_
          refine lv_istore (lv' := [(4, vI 0), (5, vI 0), (0, .ref mo), (1, vI kd), (2, vI i), (3, vI c0)]) F.1 F.2.1 dX7_triesAct_181 hl (by decide) rfl (fun ls hl => ?_)
          refine lv_iload F.1 F.2.1 dX7_triesAct_183 (lv_at hl 1 rfl) ?_
          exact rr_wzret F hr hlocks (b := false) dX7_triesAct_185 hP hS (by first | (rw [tryR_y (by unfold okA; omega)]; unfold actR; repeat' (first | rfl | split | omega)) | rw [tryR_n (by unfold okA; omega)]) rfl (b2i_f (by unfold okA; omega))
        · exfalso; omega
      · refine lv_aload_n F.1 F.2.1 dX7_triesAct_145 rfl (lv_at hl 2 rfl) ?_
        refine gf7_2 F hK hP 0 rfl tw876 dX7_triesAct_146 ?_
        refine rr_iconst F dX7_triesAct_149 ?_
        refine rr_iald F hK hP 1 rfl (by omega) (by omega) (by decide) dX7_triesAct_150 ?_
        refine rr_bipush F dX7_triesAct_151 (by decide) ?_
        refine rr_icmp_ge F (tgt := 160) dX7_triesAct_153 (by decide) ⟨by omega, by omega⟩ ⟨by omega, by omega⟩ (fun c_153 => ?_) (fun c_153 => ?_)
        · refine rr_iconst F dX7_triesAct_160 ?_
          refine lv_istore (lv' := [(5, vI 0), (4, vI 0), (0, .ref mo), (1, vI kd), (2, vI i), (3, vI c0)]) F.1 F.2.1 dX7_triesAct_161 hl (by decide) rfl (fun ls hl => ?_)
          refine lv_iload F.1 F.2.1 dX7_triesAct_163 (lv_at hl 0 rfl) ?_
          refine rr_if_eq F (tgt := 180) dX7_triesAct_165 (by decide) ⟨by omega, by omega⟩ (fun c_165 => ?_) (fun c_165 => ?_)
          · refine rr_iconst F dX7_triesAct_180 ?_
            refine lv_istore (lv' := [(4, vI 0), (5, vI 0), (0, .ref mo), (1, vI kd), (2, vI i), (3, vI c0)]) F.1 F.2.1 dX7_triesAct_181 hl (by decide) rfl (fun ls hl => ?_)
            refine lv_iload F.1 F.2.1 dX7_triesAct_183 (lv_at hl 1 rfl) ?_
            exact rr_wzret F hr hlocks (b := false) dX7_triesAct_185 hP hS (by first | (rw [tryR_y (by unfold okA; omega)]; unfold actR; repeat' (first | rfl | split | omega)) | rw [tryR_n (by unfold okA; omega)]) rfl (b2i_f (by unfold okA; omega))
          · exfalso; omega
        · refine rr_iconst F dX7_triesAct_156 ?_
          refine lv_goto (tgt := 161) F.1 F.2.1 dX7_triesAct_157 (by decide) ?_
          refine lv_istore (lv' := [(5, vI 1), (4, vI 0), (0, .ref mo), (1, vI kd), (2, vI i), (3, vI c0)]) F.1 F.2.1 dX7_triesAct_161 hl (by decide) rfl (fun ls hl => ?_)
          refine lv_iload F.1 F.2.1 dX7_triesAct_163 (lv_at hl 0 rfl) ?_
          refine rr_if_eq F (tgt := 180) dX7_triesAct_165 (by decide) ⟨by omega, by omega⟩ (fun c_165 => ?_) (fun c_165 => ?_)
          · exfalso; omega
          · refine lv_aload_n F.1 F.2.1 dX7_triesAct_168 rfl (lv_at hl 2 rfl) ?_
            refine gf7_2 F hK hP 0 rfl tw876 dX7_triesAct_169 ?_
            refine lv_iload_n F.1 F.2.1 dX7_triesAct_172 rfl (lv_at hl 4 rfl) ?_
            refine lv_iload_n F.1 F.2.1 dX7_triesAct_173 rfl (lv_at hl 5 rfl) ?_
            refine rr_wrS (rest := []) (wr := [(mo, .inr (7, [vI tr, .ref no, .ref th, .ref pa, vI ss, .ref sl, .ref sv, .ref tx, vI ty]))]) (ws2 := [(mo, .inr (7, [vI tr, .ref no, .ref th, .ref pa, vI ss, .ref sl, .ref sv, .ref tx, vI ty])), (th, .inl (cy 1, 118, .inl (iA (zrZ (updZ (updZ (insZ a (1 + a 0) (1 + i)) (1 + i) c0) 0 (a 0 + 1)) 96 117))))]) F hK (c_X7_inserts l D cy th a i c0 (by first | assumption | omega | exact ⟨by omega, by omega⟩) (by first | assumption | omega | exact ⟨by omega, by omega⟩)) hP hD hS hA sf_X7_inserts tw1132 ⟨Nat.le_of_ble_eq_true rfl, Nat.le_of_ble_eq_true rfl⟩ hl rfl (Nat.le_of_ble_eq_true rfl) dX7_triesAct_174 ⟨Nat.zero_le _, Nat.zero_le _⟩ [1] [0] [0, 1] rfl rfl (by decide) (by decide) (by decide) rfl rfl (by decide) (fun H locs hP hD hS => ?_)
            have hP : va_P D vwCl [(mo, .inr (7, [vI tr, .ref no, .ref th, .ref pa, vI ss, .ref sl, .ref sv, .ref tx, vI ty])), (th, .inl (cy 1, 118, .inl (iA (zrZ (updZ (updZ (insZ a (1 + a 0) (1 + i)) (1 + i) c0) 0 (a 0 + 1)) 96 117))))] H := hP
            have hD : va_D _ [(mo, .inr (7, [vI tr, .ref no, .ref th, .ref pa, vI ss, .ref sl, .ref sv, .ref tx, vI ty])), (th, .inl (cy 1, 118, .inl (iA (zrZ (updZ (updZ (insZ a (1 + a 0) (1 + i)) (1 + i) c0) 0 (a 0 + 1)) 96 117))))] := hD
            refine lv_goto (tgt := 181) F.1 F.2.1 dX7_triesAct_177 (by decide) ?_
            refine lv_istore (lv' := [(4, vI (a 0 + 1)), (5, vI 1), (0, .ref mo), (1, vI kd), (2, vI i), (3, vI c0)]) F.1 F.2.1 dX7_triesAct_181 hl (by decide) rfl (fun ls hl => ?_)
            refine lv_iload F.1 F.2.1 dX7_triesAct_183 (lv_at hl 1 rfl) ?_
            exact rr_wzret F hr hlocks (b := true) dX7_triesAct_185 hP hS (by first | (rw [tryR_y (by unfold okA; omega)]; unfold actR; repeat' (first | rfl | split | omega)) | rw [tryR_n (by unfold okA; omega)]) rfl (b2i_t (by unfold okA; omega))
set_option maxRecDepth 100000 in
set_option maxHeartbeats 4000000 in
theorem c_X7_takesTurn (l : Launch) (D : va_G) (cy : Nat → ClassId) (mo no th pa sl sv tx : Nat) (tr ss ty : Int) (a : Int → Int) (r : Int) (hM : MR a) (hr : 0 ≤ r ∧ r < 2147483648) (hsp : 0 ≤ a 117 ∧ a 117 ≤ 100000000) : Wr l yX7_takesTurn cX7_takesTurn 7 (none) 7 [.ref mo, vI r] D cy [(mo, .inr (7, [vI tr, .ref no, .ref th, .ref pa, vI ss, .ref sl, .ref sv, .ref tx, vI ty])), (th, .inl (cy 1, 118, .inl (iA a)))] [(mo, .inr (7, [vI tr, .ref no, .ref th, .ref pa, vI ss, .ref sl, .ref sv, .ref tx, vI ty])), (th, .inl (cy 1, 118, .inl (iA (turnR a r))))] none := by
  refine Wr.of RX7 rfl [(0, .ref mo), (1, vI r)] rfl (by decide +kernel) (Nat.le_of_ble_eq_true rfl) ?_
  intro p e s m args below meth c F hr hlocks hK hP hD hS hA ls hl
  have hn0 := hM.n
  have hw0 := hM.nw
  have hc0 := hM.wc
  refine lv_iload_n F.1 F.2.1 dX7_takesTurn_0 rfl (lv_at hl 1 rfl) ?_
  refine rr_bipush F dX7_takesTurn_1 (by decide) ?_
  refine rr_idiv F (z := r / 16) dX7_takesTurn_3 ⟨by omega, by omega⟩ ⟨by omega, by omega⟩ (Int.tdiv_eq_ediv_of_nonneg (by omega)) ?_
  refine rr_bipush F dX7_takesTurn_4 (by decide) ?_
  refine rr_irem F (z := (r / 16) % 24) dX7_takesTurn_6 ⟨by omega, by omega⟩ ⟨by omega, by omega⟩ (Int.tmod_eq_emod_of_nonneg (by omega)) ?_
  refine lv_istore_n (lv' := [(2, vI ((r / 16) % 24)), (0, .ref mo), (1, vI r)]) F.1 F.2.1 dX7_takesTurn_7 rfl hl (by decide) rfl (fun ls hl => ?_)
  refine lv_iload_n F.1 F.2.1 dX7_takesTurn_8 rfl (lv_at hl 2 rfl) ?_
  refine rr_sipush F dX7_takesTurn_9 (by decide) ?_
  refine rr_idiv F (z := r / 512) dX7_takesTurn_12 ⟨by omega, by omega⟩ ⟨by omega, by omega⟩ (Int.tdiv_eq_ediv_of_nonneg (by omega)) ?_
  refine rr_bipush F dX7_takesTurn_13 (by decide) ?_
  refine rr_irem F (z := (r / 512) % 9) dX7_takesTurn_15 ⟨by omega, by omega⟩ ⟨by omega, by omega⟩ (Int.tmod_eq_emod_of_nonneg (by omega)) ?_
  refine lv_istore_n (lv' := [(3, vI ((r / 512) % 9)), (2, vI ((r / 16) % 24)), (0, .ref mo), (1, vI r)]) F.1 F.2.1 dX7_takesTurn_16 rfl hl (by decide) rfl (fun ls hl => ?_)
  refine lv_iload_n F.1 F.2.1 dX7_takesTurn_17 rfl (lv_at hl 3 rfl) ?_
  refine rr_bipush F dX7_takesTurn_18 (by decide) ?_
  refine rr_irem F (z := r % 16) dX7_takesTurn_20 ⟨by omega, by omega⟩ ⟨by omega, by omega⟩ (Int.tmod_eq_emod_of_nonneg (by omega)) ?_
  refine lv_istore (lv' := [(4, vI (r % 16)), (3, vI ((r / 512) % 9)), (2, vI ((r / 16) % 24)), (0, .ref mo), (1, vI r)]) F.1 F.2.1 dX7_takesTurn_21 hl (by decide) rfl (fun ls hl => ?_)
  refine lv_iload F.1 F.2.1 dX7_takesTurn_23 (lv_at hl 0 rfl) ?_
  refine rr_bipush F dX7_takesTurn_25 (by decide) ?_
  refine rr_icmp_ge F (tgt := 88) dX7_takesTurn_27 (by decide) ⟨by omega, by omega⟩ ⟨by omega, by omega⟩ (fun c_27 => ?_) (fun c_27 => ?_)
  · refine rr_iconst F dX7_takesTurn_88 ?_
    refine lv_istore (lv' := [(5, vI 0), (4, vI (r % 16)), (3, vI ((r / 512) % 9)), (2, vI ((r / 16) % 24)), (0, .ref mo), (1, vI r)]) F.1 F.2.1 dX7_takesTurn_89 hl (by decide) rfl (fun ls hl => ?_)
    refine lv_iload F.1 F.2.1 dX7_takesTurn_91 (lv_at hl 1 rfl) ?_
    refine rr_bipush F dX7_takesTurn_93 (by decide) ?_
    refine rr_icmp_ne F (tgt := 174) dX7_takesTurn_95 (by decide) ⟨by omega, by omega⟩ ⟨by omega, by omega⟩ (fun c_95 => ?_) (fun c_95 => ?_)
    · refine lv_iload F.1 F.2.1 dX7_takesTurn_174 (lv_at hl 1 rfl) ?_
      refine rr_bipush F dX7_takesTurn_176 (by decide) ?_
      refine rr_icmp_ne F (tgt := 219) dX7_takesTurn_178 (by decide) ⟨by omega, by omega⟩ ⟨by omega, by omega⟩ (fun c_178 => ?_) (fun c_178 => ?_)
      · refine lv_aload_n F.1 F.2.1 dX7_takesTurn_219 rfl (lv_at hl 4 rfl) ?_
        refine gf7_2 F hK hP 0 rfl tw876 dX7_takesTurn_220 ?_
        refine rr_iconst F dX7_takesTurn_223 ?_
        refine lv_iload_n F.1 F.2.1 dX7_takesTurn_224 rfl (lv_at hl 5 rfl) ?_
        refine rr_bipush F dX7_takesTurn_225 (by decide) ?_
        refine rr_idiv F (z := r / 16) dX7_takesTurn_227 ⟨by omega, by omega⟩ ⟨by omega, by omega⟩ (Int.tdiv_eq_ediv_of_nonneg (by omega)) ?_
        refine rr_bipush F dX7_takesTurn_228 (by decide) ?_
        refine rr_irem F (z := (r / 16) % 9) dX7_takesTurn_230 ⟨by omega, by omega⟩ ⟨by omega, by omega⟩ (Int.tmod_eq_emod_of_nonneg (by omega)) ?_
        refine rr_iadd F (z := 1 + ((r / 16) % 9)) dX7_takesTurn_231 (by first | rfl | omega) ?_
        refine rr_wrS (rest := []) (wr := [(mo, .inr (7, [vI tr, .ref no, .ref th, .ref pa, vI ss, .ref sl, .ref sv, .ref tx, vI ty]))]) (ws2 := [(mo, .inr (7, [vI tr, .ref no, .ref th, .ref pa, vI ss, .ref sl, .ref sv, .ref tx, vI ty])), (th, .inl (cy 1, 118, .inl (iA (updZ (goR a 0 (1 + ((r / 16) % 9))) 117 (a 117 + (1 + ((r / 16) % 9)))))))]) F hK (c_X7_goes l D cy th a (1 + ((r / 16) % 9)) (by first | assumption | omega | exact ⟨by omega, by omega⟩) (by first | assumption | omega | exact ⟨by omega, by omega⟩) (by first | assumption | omega | exact ⟨by omega, by omega⟩)) hP hD hS hA sf_X7_goes tw1163 ⟨Nat.le_of_ble_eq_true rfl, Nat.le_of_ble_eq_true rfl⟩ hl rfl (Nat.le_of_ble_eq_true rfl) dX7_takesTurn_232 ⟨Nat.zero_le _, Nat.zero_le _⟩ [1] [0] [0, 1] rfl rfl (by decide) (by decide) (by decide) rfl rfl (by decide) (fun H locs hP hD hS => ?_)
        have hP : va_P D vwCl [(mo, .inr (7, [vI tr, .ref no, .ref th, .ref pa, vI ss, .ref sl, .ref sv, .ref tx, vI ty])), (th, .inl (cy 1, 118, .inl (iA (updZ (goR a 0 (1 + ((r / 16) % 9))) 117 (a 117 + (1 + ((r / 16) % 9)))))))] H := hP
        have hD : va_D _ [(mo, .inr (7, [vI tr, .ref no, .ref th, .ref pa, vI ss, .ref sl, .ref sv, .ref tx, vI ty])), (th, .inl (cy 1, 118, .inl (iA (updZ (goR a 0 (1 + ((r / 16) % 9))) 117 (a 117 + (1 + ((r / 16) % 9)))))))] := hD
        refine lv_istore (lv' := [(5, vI (sm (fun u_w => knb (a 0) (rq a) (a 25) (rbl a) (rbc a) (a (97 + 5 * u_w + 1)) (goR a 0 (1 + ((r / 16) % 9)) (97 + 5 * u_w + 4)) 0) (a 96))), (4, vI (r % 16)), (3, vI ((r / 512) % 9)), (2, vI ((r / 16) % 24)), (0, .ref mo), (1, vI r)]) F.1 F.2.1 dX7_takesTurn_235 hl (by decide) rfl (fun ls hl => ?_)
        exact rr_wvret F hr hlocks dX7_takesTurn_237 hP hS (by unfold turnR; repeat' (first | rfl | split | omega))
      · refine lv_iload_n F.1 F.2.1 dX7_takesTurn_181 rfl (lv_at hl 5 rfl) ?_
        refine rr_bipush F dX7_takesTurn_182 (by decide) ?_
        refine rr_idiv F (z := r / 16) dX7_takesTurn_184 ⟨by omega, by omega⟩ ⟨by omega, by omega⟩ (Int.tdiv_eq_ediv_of_nonneg (by omega)) ?_
        refine rr_iconst F dX7_takesTurn_185 ?_
        refine rr_irem F (z := (r / 16) % 4) dX7_takesTurn_186 ⟨by omega, by omega⟩ ⟨by omega, by omega⟩ (Int.tmod_eq_emod_of_nonneg (by omega)) ?_
        refine lv_aload_n F.1 F.2.1 dX7_takesTurn_187 rfl (lv_at hl 4 rfl) ?_
        refine gf7_2 F hK hP 0 rfl tw876 dX7_takesTurn_188 ?_
        refine rr_bipush F dX7_takesTurn_191 (by decide) ?_
        refine rr_iald F hK hP 1 rfl (by omega) (by omega) (by decide) dX7_takesTurn_193 ?_
        refine rr_icmp_ge F (tgt := 213) dX7_takesTurn_194 (by decide) ⟨by omega, by omega⟩ ⟨by omega, by omega⟩ (fun c_194 => ?_) (fun c_194 => ?_)
        · refine rr_iconst F dX7_takesTurn_213 ?_
          refine lv_istore (lv' := [(5, vI 0), (4, vI (r % 16)), (3, vI ((r / 512) % 9)), (2, vI ((r / 16) % 24)), (0, .ref mo), (1, vI r)]) F.1 F.2.1 dX7_takesTurn_214 hl (by decide) rfl (fun ls hl => ?_)
          refine lv_goto (tgt := 237) F.1 F.2.1 dX7_takesTurn_216 (by decide) ?_
          exact rr_wvret F hr hlocks dX7_takesTurn_237 hP hS (by unfold turnR; repeat' (first | rfl | split | omega))
        · refine lv_aload_n F.1 F.2.1 dX7_takesTurn_197 rfl (lv_at hl 4 rfl) ?_
          refine gf7_2 F hK hP 0 rfl tw876 dX7_takesTurn_198 ?_
          refine lv_iload_n F.1 F.2.1 dX7_takesTurn_201 rfl (lv_at hl 5 rfl) ?_
          refine rr_bipush F dX7_takesTurn_202 (by decide) ?_
          refine rr_idiv F (z := r / 16) dX7_takesTurn_204 ⟨by omega, by omega⟩ ⟨by omega, by omega⟩ (Int.tdiv_eq_ediv_of_nonneg (by omega)) ?_
          refine rr_iconst F dX7_takesTurn_205 ?_
          refine rr_irem F (z := (r / 16) % 4) dX7_takesTurn_206 ⟨by omega, by omega⟩ ⟨by omega, by omega⟩ (Int.tmod_eq_emod_of_nonneg (by omega)) ?_
          refine rr_wrS (rest := []) (wr := [(mo, .inr (7, [vI tr, .ref no, .ref th, .ref pa, vI ss, .ref sl, .ref sv, .ref tx, vI ty]))]) (ws2 := [(mo, .inr (7, [vI tr, .ref no, .ref th, .ref pa, vI ss, .ref sl, .ref sv, .ref tx, vI ty])), (th, .inl (cy 1, 118, .inl (iA (updZ (updZ a (97 + 5 * ((r / 16) % 4) + 1) (1 - a (97 + 5 * ((r / 16) % 4) + 1))) (97 + 5 * ((r / 16) % 4) + 4) (bor (a (97 + 5 * ((r / 16) % 4) + 4)) (vw (a 0) (a (97 + 5 * ((r / 16) % 4) + 0)) (1 - a (97 + 5 * ((r / 16) % 4) + 1)) (a (97 + 5 * ((r / 16) % 4) + 3))))))))]) F hK (c_X7_turns l D cy th a ((r / 16) % 4) (by first | assumption | omega | exact ⟨by omega, by omega⟩) (by first | assumption | omega | exact ⟨by omega, by omega⟩) (hM.w (by omega) (by omega))) hP hD hS hA sf_X7_turns tw1156 ⟨Nat.le_of_ble_eq_true rfl, Nat.le_of_ble_eq_true rfl⟩ hl rfl (Nat.le_of_ble_eq_true rfl) dX7_takesTurn_207 ⟨Nat.zero_le _, Nat.zero_le _⟩ [1] [0] [0, 1] rfl rfl (by decide) (by decide) (by decide) rfl rfl (by decide) (fun H locs hP hD hS => ?_)
          have hP : va_P D vwCl [(mo, .inr (7, [vI tr, .ref no, .ref th, .ref pa, vI ss, .ref sl, .ref sv, .ref tx, vI ty])), (th, .inl (cy 1, 118, .inl (iA (updZ (updZ a (97 + 5 * ((r / 16) % 4) + 1) (1 - a (97 + 5 * ((r / 16) % 4) + 1))) (97 + 5 * ((r / 16) % 4) + 4) (bor (a (97 + 5 * ((r / 16) % 4) + 4)) (vw (a 0) (a (97 + 5 * ((r / 16) % 4) + 0)) (1 - a (97 + 5 * ((r / 16) % 4) + 1)) (a (97 + 5 * ((r / 16) % 4) + 3))))))))] H := hP
          have hD : va_D _ [(mo, .inr (7, [vI tr, .ref no, .ref th, .ref pa, vI ss, .ref sl, .ref sv, .ref tx, vI ty])), (th, .inl (cy 1, 118, .inl (iA (updZ (updZ a (97 + 5 * ((r / 16) % 4) + 1) (1 - a (97 + 5 * ((r / 16) % 4) + 1))) (97 + 5 * ((r / 16) % 4) + 4) (bor (a (97 + 5 * ((r / 16) % 4) + 4)) (vw (a 0) (a (97 + 5 * ((r / 16) % 4) + 0)) (1 - a (97 + 5 * ((r / 16) % 4) + 1)) (a (97 + 5 * ((r / 16) % 4) + 3))))))))] := hD
          refine lv_goto (tgt := 214) F.1 F.2.1 dX7_takesTurn_210 (by decide) ?_
          refine lv_istore (lv' := [(5, vI (cnt (bit (bor (a (97 + 5 * ((r / 16) % 4) + 4)) (vw (a 0) (a (97 + 5 * ((r / 16) % 4) + 0)) (1 - a (97 + 5 * ((r / 16) % 4) + 1)) (a (97 + 5 * ((r / 16) % 4) + 3))))) 24)), (4, vI (r % 16)), (3, vI ((r / 512) % 9)), (2, vI ((r / 16) % 24)), (0, .ref mo), (1, vI r)]) F.1 F.2.1 dX7_takesTurn_214 hl (by decide) rfl (fun ls hl => ?_)
          refine lv_goto (tgt := 237) F.1 F.2.1 dX7_takesTurn_216 (by decide) ?_
          exact rr_wvret F hr hlocks dX7_takesTurn_237 hP hS (by unfold turnR; repeat' (first | rfl | split | omega))
    · refine lv_aload_n F.1 F.2.1 dX7_takesTurn_98 rfl (lv_at hl 4 rfl) ?_
      refine gf7_2 F hK hP 0 rfl tw876 dX7_takesTurn_99 ?_
      refine lv_iload_n F.1 F.2.1 dX7_takesTurn_102 rfl (lv_at hl 3 rfl) ?_
      refine rr_rdS (rest := []) F hK (c_X7_canPlace l D cy th a ((r / 16) % 24) (by first | assumption | omega | exact ⟨by omega, by omega⟩) (by first | assumption | omega | exact ⟨by omega, by omega⟩)) (hP.sub [1] rfl) sf_X7_canPlace tw1231 ⟨Nat.le_of_ble_eq_true rfl, Nat.le_of_ble_eq_true rfl⟩ hl rfl (Nat.le_of_ble_eq_true rfl) dX7_takesTurn_103 ⟨Nat.zero_le _, Nat.zero_le _⟩ ?_
      refine rr_ifP_eq F (tgt := 124) dX7_takesTurn_106 (by decide) (fun c_106 => ?_) (fun c_106 => ?_)
      · refine rr_iconst F dX7_takesTurn_124 ?_
        refine lv_istore (lv' := [(6, vI 0), (5, vI 0), (4, vI (r % 16)), (3, vI ((r / 512) % 9)), (2, vI ((r / 16) % 24)), (0, .ref mo), (1, vI r)]) F.1 F.2.1 dX7_takesTurn_125 hl (by decide) rfl (fun ls hl => ?_)
        refine lv_iload F.1 F.2.1 dX7_takesTurn_127 (lv_at hl 0 rfl) ?_
        refine rr_if_eq F (tgt := 168) dX7_takesTurn_129 (by decide) ⟨by omega, by omega⟩ (fun c_129 => ?_) (fun c_129 => ?_)
        · refine rr_iconst F dX7_takesTurn_168 ?_
          refine lv_istore (lv' := [(5, vI 0), (6, vI 0), (4, vI (r % 16)), (3, vI ((r / 512) % 9)), (2, vI ((r / 16) % 24)), (0, .ref mo), (1, vI r)]) F.1 F.2.1 dX7_takesTurn_169 hl (by decide) rfl (fun ls hl => ?_)
          refine lv_goto (tgt := 237) F.1 F.2.1 dX7_takesTurn_171 (by decide) ?_
          exact rr_wvret F hr hlocks dX7_takesTurn_237 hP hS (by unfold turnR; repeat' (first | rfl | split | omega))
        · exfalso; omega
      · refine lv_aload_n F.1 F.2.1 dX7_takesTurn_109 rfl (lv_at hl 4 rfl) ?_
        refine gf7_2 F hK hP 0 rfl tw876 dX7_takesTurn_110 ?_
        refine rr_bipush F dX7_takesTurn_113 (by decide) ?_
        refine rr_iald F hK hP 1 rfl (by omega) (by omega) (by decide) dX7_takesTurn_115 ?_
        refine rr_iconst F dX7_takesTurn_116 ?_
        refine rr_icmp_ge F (tgt := 124) dX7_takesTurn_117 (by decide) ⟨by omega, by omega⟩ ⟨by omega, by omega⟩ (fun c_117 => ?_) (fun c_117 => ?_)
        · refine rr_iconst F dX7_takesTurn_124 ?_
          refine lv_istore (lv' := [(6, vI 0), (5, vI 0), (4, vI (r % 16)), (3, vI ((r / 512) % 9)), (2, vI ((r / 16) % 24)), (0, .ref mo), (1, vI r)]) F.1 F.2.1 dX7_takesTurn_125 hl (by decide) rfl (fun ls hl => ?_)
          refine lv_iload F.1 F.2.1 dX7_takesTurn_127 (lv_at hl 0 rfl) ?_
          refine rr_if_eq F (tgt := 168) dX7_takesTurn_129 (by decide) ⟨by omega, by omega⟩ (fun c_129 => ?_) (fun c_129 => ?_)
          · refine rr_iconst F dX7_takesTurn_168 ?_
            refine lv_istore (lv' := [(5, vI 0), (6, vI 0), (4, vI (r % 16)), (3, vI ((r / 512) % 9)), (2, vI ((r / 16) % 24)), (0, .ref mo), (1, vI r)]) F.1 F.2.1 dX7_takesTurn_169 hl (by decide) rfl (fun ls hl => ?_)
            refine lv_goto (tgt := 237) F.1 F.2.1 dX7_takesTurn_171 (by decide) ?_
            exact rr_wvret F hr hlocks dX7_takesTurn_237 hP hS (by unfold turnR; repeat' (first | rfl | split | omega))
          · exfalso; omega
        · refine rr_iconst F dX7_takesTurn_120 ?_
          refine lv_goto (tgt := 125) F.1 F.2.1 dX7_takesTurn_121 (by decide) ?_
          refine lv_istore (lv' := [(6, vI 1), (5, vI 0), (4, vI (r % 16)), (3, vI ((r / 512) % 9)), (2, vI ((r / 16) % 24)), (0, .ref mo), (1, vI r)]) F.1 F.2.1 dX7_takesTurn_125 hl (by decide) rfl (fun ls hl => ?_)
          refine lv_iload F.1 F.2.1 dX7_takesTurn_127 (lv_at hl 0 rfl) ?_
          refine rr_if_eq F (tgt := 168) dX7_takesTurn_129 (by decide) ⟨by omega, by omega⟩ (fun c_129 => ?_) (fun c_129 => ?_)
          · exfalso; omega
          · refine lv_aload_n F.1 F.2.1 dX7_takesTurn_132 rfl (lv_at hl 5 rfl) ?_
            refine gf7_2 F hK hP 0 rfl tw876 dX7_takesTurn_133 ?_
            refine lv_iload_n F.1 F.2.1 dX7_takesTurn_136 rfl (lv_at hl 4 rfl) ?_
            refine lv_iload_n F.1 F.2.1 dX7_takesTurn_137 rfl (lv_at hl 6 rfl) ?_
            refine rr_sipush F dX7_takesTurn_138 (by decide) ?_
            refine rr_idiv F (z := r / 512) dX7_takesTurn_141 ⟨by omega, by omega⟩ ⟨by omega, by omega⟩ (Int.tdiv_eq_ediv_of_nonneg (by omega)) ?_
            refine rr_iconst F dX7_takesTurn_142 ?_
            refine rr_irem F (z := (r / 512) % 2) dX7_takesTurn_143 ⟨by omega, by omega⟩ ⟨by omega, by omega⟩ (Int.tmod_eq_emod_of_nonneg (by omega)) ?_
            refine rr_iconst F dX7_takesTurn_144 ?_
            refine lv_iload_n F.1 F.2.1 dX7_takesTurn_145 rfl (lv_at hl 6 rfl) ?_
            refine rr_sipush F dX7_takesTurn_146 (by decide) ?_
            refine rr_idiv F (z := r / 1024) dX7_takesTurn_149 ⟨by omega, by omega⟩ ⟨by omega, by omega⟩ (Int.tdiv_eq_ediv_of_nonneg (by omega)) ?_
            refine rr_iconst F dX7_takesTurn_150 ?_
            refine rr_irem F (z := (r / 1024) % 3) dX7_takesTurn_151 ⟨by omega, by omega⟩ ⟨by omega, by omega⟩ (Int.tmod_eq_emod_of_nonneg (by omega)) ?_
            refine rr_iadd F (z := 1 + ((r / 1024) % 3)) dX7_takesTurn_152 (by first | rfl | omega) ?_
            refine rr_iconst F dX7_takesTurn_153 ?_
            refine lv_iload_n F.1 F.2.1 dX7_takesTurn_154 rfl (lv_at hl 6 rfl) ?_
            refine rr_sipush F dX7_takesTurn_155 (by decide) ?_
            refine rr_idiv F (z := r / 4096) dX7_takesTurn_158 ⟨by omega, by omega⟩ ⟨by omega, by omega⟩ (Int.tdiv_eq_ediv_of_nonneg (by omega)) ?_
            refine rr_iconst F dX7_takesTurn_159 ?_
            refine rr_irem F (z := (r / 4096) % 5) dX7_takesTurn_160 ⟨by omega, by omega⟩ ⟨by omega, by omega⟩ (Int.tmod_eq_emod_of_nonneg (by omega)) ?_
            refine rr_iadd F (z := 1 + ((r / 4096) % 5)) dX7_takesTurn_161 (by first | rfl | omega) ?_
            refine rr_wrS (rest := []) (wr := [(mo, .inr (7, [vI tr, .ref no, .ref th, .ref pa, vI ss, .ref sl, .ref sv, .ref tx, vI ty]))]) (ws2 := [(mo, .inr (7, [vI tr, .ref no, .ref th, .ref pa, vI ss, .ref sl, .ref sv, .ref tx, vI ty])), (th, .inl (cy 1, 118, .inl (iA (updZ (updZ (updZ (updZ (updZ (updZ (updZ a (97 + 5 * a 96 + 0) ((r / 16) % 24)) (97 + 5 * a 96 + 1) ((r / 512) % 2)) (97 + 5 * a 96 + 2) (1 + ((r / 1024) % 3))) (97 + 5 * a 96 + 3) (1 + ((r / 4096) % 5))) (97 + 5 * a 96 + 4) 0) 96 (a 96 + 1)) (97 + 5 * a 96 + 4) (bor 0 (vw (a 0) ((r / 16) % 24) ((r / 512) % 2) (1 + ((r / 4096) % 5))))))))]) F hK (c_X7_comes l D cy th a ((r / 16) % 24) ((r / 512) % 2) (1 + ((r / 1024) % 3)) (1 + ((r / 4096) % 5)) (by first | assumption | omega | exact ⟨by omega, by omega⟩) (by first | assumption | omega | exact ⟨by omega, by omega⟩) (by first | assumption | omega | exact ⟨by omega, by omega⟩) (by first | assumption | omega | exact ⟨by omega, by omega⟩) (by first | assumption | omega | exact ⟨by omega, by omega⟩) (by first | assumption | omega | exact ⟨by omega, by omega⟩)) hP hD hS hA sf_X7_comes tw1146 ⟨Nat.le_of_ble_eq_true rfl, Nat.le_of_ble_eq_true rfl⟩ hl rfl (Nat.le_of_ble_eq_true rfl) dX7_takesTurn_162 ⟨Nat.zero_le _, Nat.zero_le _⟩ [1] [0] [0, 1] rfl rfl (by decide) (by decide) (by decide) rfl rfl (by decide) (fun H locs hP hD hS => ?_)
            have hP : va_P D vwCl [(mo, .inr (7, [vI tr, .ref no, .ref th, .ref pa, vI ss, .ref sl, .ref sv, .ref tx, vI ty])), (th, .inl (cy 1, 118, .inl (iA (updZ (updZ (updZ (updZ (updZ (updZ (updZ a (97 + 5 * a 96 + 0) ((r / 16) % 24)) (97 + 5 * a 96 + 1) ((r / 512) % 2)) (97 + 5 * a 96 + 2) (1 + ((r / 1024) % 3))) (97 + 5 * a 96 + 3) (1 + ((r / 4096) % 5))) (97 + 5 * a 96 + 4) 0) 96 (a 96 + 1)) (97 + 5 * a 96 + 4) (bor 0 (vw (a 0) ((r / 16) % 24) ((r / 512) % 2) (1 + ((r / 4096) % 5))))))))] H := hP
            have hD : va_D _ [(mo, .inr (7, [vI tr, .ref no, .ref th, .ref pa, vI ss, .ref sl, .ref sv, .ref tx, vI ty])), (th, .inl (cy 1, 118, .inl (iA (updZ (updZ (updZ (updZ (updZ (updZ (updZ a (97 + 5 * a 96 + 0) ((r / 16) % 24)) (97 + 5 * a 96 + 1) ((r / 512) % 2)) (97 + 5 * a 96 + 2) (1 + ((r / 1024) % 3))) (97 + 5 * a 96 + 3) (1 + ((r / 4096) % 5))) (97 + 5 * a 96 + 4) 0) 96 (a 96 + 1)) (97 + 5 * a 96 + 4) (bor 0 (vw (a 0) ((r / 16) % 24) ((r / 512) % 2) (1 + ((r / 4096) % 5))))))))] := hD
            refine lv_goto (tgt := 169) F.1 F.2.1 dX7_takesTurn_165 (by decide) ?_
            refine lv_istore (lv' := [(5, vI (a 96)), (6, vI 1), (4, vI (r % 16)), (3, vI ((r / 512) % 9)), (2, vI ((r / 16) % 24)), (0, .ref mo), (1, vI r)]) F.1 F.2.1 dX7_takesTurn_169 hl (by decide) rfl (fun ls hl => ?_)
            refine lv_goto (tgt := 237) F.1 F.2.1 dX7_takesTurn_171 (by decide) ?_
            exact rr_wvret F hr hlocks dX7_takesTurn_237 hP hS (by unfold turnR; repeat' (first | rfl | split | omega))
  · refine lv_aload_n F.1 F.2.1 dX7_takesTurn_30 rfl (lv_at hl 3 rfl) ?_
    refine lv_iload F.1 F.2.1 dX7_takesTurn_31 (lv_at hl 0 rfl) ?_
    refine rr_iconst F dX7_takesTurn_33 ?_
    refine rr_icmp_ge F (tgt := 41) dX7_takesTurn_34 (by decide) ⟨by omega, by omega⟩ ⟨by omega, by omega⟩ (fun c_34 => ?_) (fun c_34 => ?_)
    · refine lv_iload F.1 F.2.1 dX7_takesTurn_41 (lv_at hl 0 rfl) ?_
      refine rr_iconst F dX7_takesTurn_43 ?_
      refine rr_icmp_ne F (tgt := 51) dX7_takesTurn_44 (by decide) ⟨by omega, by omega⟩ ⟨by omega, by omega⟩ (fun c_44 => ?_) (fun c_44 => ?_)
      · refine lv_iload F.1 F.2.1 dX7_takesTurn_51 (lv_at hl 0 rfl) ?_
        refine rr_bipush F dX7_takesTurn_53 (by decide) ?_
        refine rr_icmp_ge F (tgt := 62) dX7_takesTurn_55 (by decide) ⟨by omega, by omega⟩ ⟨by omega, by omega⟩ (fun c_55 => ?_) (fun c_55 => ?_)
        · refine rr_iconst F dX7_takesTurn_62 ?_
          refine lv_iload_n F.1 F.2.1 dX7_takesTurn_63 rfl (lv_at hl 2 rfl) ?_
          refine lv_iload F.1 F.2.1 dX7_takesTurn_64 (lv_at hl 0 rfl) ?_
          refine rr_iconst F dX7_takesTurn_66 ?_
          refine rr_icmp_eq F (tgt := 77) dX7_takesTurn_67 (by decide) ⟨by omega, by omega⟩ ⟨by omega, by omega⟩ (fun c_67 => ?_) (fun c_67 => ?_)
          · refine rr_iconst F dX7_takesTurn_77 ?_
            refine lv_goto (tgt := 82) F.1 F.2.1 dX7_takesTurn_78 (by decide) ?_
            refine rr_wrV (rest := []) (wr := []) (ws2 := [(mo, .inr (7, [vI tr, .ref no, .ref th, .ref pa, vI ss, .ref sl, .ref sv, .ref tx, vI ty])), (th, .inl (cy 1, 118, .inl (iA (tryR a 4 ((r / 16) % 24) 0))))]) F hK (c_X7_triesAct l D cy mo no th pa sl sv tx tr ss ty a 4 ((r / 16) % 24) 0 (by first | assumption | omega | exact ⟨by omega, by omega⟩) (by first | assumption | omega | exact ⟨by omega, by omega⟩) (by first | assumption | omega | exact ⟨by omega, by omega⟩) (by first | assumption | omega | exact ⟨by omega, by omega⟩)) hP hD hS hA sf_X7_triesAct tw1227 7 rfl rfl ⟨Nat.le_of_ble_eq_true rfl, Nat.le_of_ble_eq_true rfl⟩ hl rfl (Nat.le_of_ble_eq_true rfl) dX7_takesTurn_82 ⟨Nat.zero_le _, Nat.zero_le _⟩ [0, 1] [] [0, 1] rfl rfl (by decide) (by decide) (by decide) rfl rfl (by decide) (fun H locs hP hD hS => ?_)
            have hP : va_P D vwCl [(mo, .inr (7, [vI tr, .ref no, .ref th, .ref pa, vI ss, .ref sl, .ref sv, .ref tx, vI ty])), (th, .inl (cy 1, 118, .inl (iA (tryR a 4 ((r / 16) % 24) 0))))] H := hP
            have hD : va_D _ [(mo, .inr (7, [vI tr, .ref no, .ref th, .ref pa, vI ss, .ref sl, .ref sv, .ref tx, vI ty])), (th, .inl (cy 1, 118, .inl (iA (tryR a 4 ((r / 16) % 24) 0))))] := hD
            refine lv_istore (lv' := [(5, vI (b2i (pB (okA a 4 ((r / 16) % 24) 0)))), (4, vI (r % 16)), (3, vI ((r / 512) % 9)), (2, vI ((r / 16) % 24)), (0, .ref mo), (1, vI r)]) F.1 F.2.1 dX7_takesTurn_85 hl (by decide) rfl (fun ls hl => ?_)
            exact rr_wvret F hr hlocks dX7_takesTurn_87 hP hS (by unfold turnR; repeat' (first | rfl | split | omega))
          · refine lv_iload F.1 F.2.1 dX7_takesTurn_70 (lv_at hl 0 rfl) ?_
            refine rr_bipush F dX7_takesTurn_72 (by decide) ?_
            refine rr_icmp_ne F (tgt := 81) dX7_takesTurn_74 (by decide) ⟨by omega, by omega⟩ ⟨by omega, by omega⟩ (fun c_74 => ?_) (fun c_74 => ?_)
            · refine lv_iload_n F.1 F.2.1 dX7_takesTurn_81 rfl (lv_at hl 1 rfl) ?_
              refine rr_wrV (rest := []) (wr := []) (ws2 := [(mo, .inr (7, [vI tr, .ref no, .ref th, .ref pa, vI ss, .ref sl, .ref sv, .ref tx, vI ty])), (th, .inl (cy 1, 118, .inl (iA (tryR a 4 ((r / 16) % 24) ((r / 512) % 9)))))]) F hK (c_X7_triesAct l D cy mo no th pa sl sv tx tr ss ty a 4 ((r / 16) % 24) ((r / 512) % 9) (by first | assumption | omega | exact ⟨by omega, by omega⟩) (by first | assumption | omega | exact ⟨by omega, by omega⟩) (by first | assumption | omega | exact ⟨by omega, by omega⟩) (by first | assumption | omega | exact ⟨by omega, by omega⟩)) hP hD hS hA sf_X7_triesAct tw1227 7 rfl rfl ⟨Nat.le_of_ble_eq_true rfl, Nat.le_of_ble_eq_true rfl⟩ hl rfl (Nat.le_of_ble_eq_true rfl) dX7_takesTurn_82 ⟨Nat.zero_le _, Nat.zero_le _⟩ [0, 1] [] [0, 1] rfl rfl (by decide) (by decide) (by decide) rfl rfl (by decide) (fun H locs hP hD hS => ?_)
              have hP : va_P D vwCl [(mo, .inr (7, [vI tr, .ref no, .ref th, .ref pa, vI ss, .ref sl, .ref sv, .ref tx, vI ty])), (th, .inl (cy 1, 118, .inl (iA (tryR a 4 ((r / 16) % 24) ((r / 512) % 9)))))] H := hP
              have hD : va_D _ [(mo, .inr (7, [vI tr, .ref no, .ref th, .ref pa, vI ss, .ref sl, .ref sv, .ref tx, vI ty])), (th, .inl (cy 1, 118, .inl (iA (tryR a 4 ((r / 16) % 24) ((r / 512) % 9)))))] := hD
              refine lv_istore (lv' := [(5, vI (b2i (pB (okA a 4 ((r / 16) % 24) ((r / 512) % 9))))), (4, vI (r % 16)), (3, vI ((r / 512) % 9)), (2, vI ((r / 16) % 24)), (0, .ref mo), (1, vI r)]) F.1 F.2.1 dX7_takesTurn_85 hl (by decide) rfl (fun ls hl => ?_)
              exact rr_wvret F hr hlocks dX7_takesTurn_87 hP hS (by unfold turnR; repeat' (first | rfl | split | omega))
            · refine rr_iconst F dX7_takesTurn_77 ?_
              refine lv_goto (tgt := 82) F.1 F.2.1 dX7_takesTurn_78 (by decide) ?_
              refine rr_wrV (rest := []) (wr := []) (ws2 := [(mo, .inr (7, [vI tr, .ref no, .ref th, .ref pa, vI ss, .ref sl, .ref sv, .ref tx, vI ty])), (th, .inl (cy 1, 118, .inl (iA (tryR a 4 ((r / 16) % 24) 0))))]) F hK (c_X7_triesAct l D cy mo no th pa sl sv tx tr ss ty a 4 ((r / 16) % 24) 0 (by first | assumption | omega | exact ⟨by omega, by omega⟩) (by first | assumption | omega | exact ⟨by omega, by omega⟩) (by first | assumption | omega | exact ⟨by omega, by omega⟩) (by first | assumption | omega | exact ⟨by omega, by omega⟩)) hP hD hS hA sf_X7_triesAct tw1227 7 rfl rfl ⟨Nat.le_of_ble_eq_true rfl, Nat.le_of_ble_eq_true rfl⟩ hl rfl (Nat.le_of_ble_eq_true rfl) dX7_takesTurn_82 ⟨Nat.zero_le _, Nat.zero_le _⟩ [0, 1] [] [0, 1] rfl rfl (by decide) (by decide) (by decide) rfl rfl (by decide) (fun H locs hP hD hS => ?_)
              have hP : va_P D vwCl [(mo, .inr (7, [vI tr, .ref no, .ref th, .ref pa, vI ss, .ref sl, .ref sv, .ref tx, vI ty])), (th, .inl (cy 1, 118, .inl (iA (tryR a 4 ((r / 16) % 24) 0))))] H := hP
              have hD : va_D _ [(mo, .inr (7, [vI tr, .ref no, .ref th, .ref pa, vI ss, .ref sl, .ref sv, .ref tx, vI ty])), (th, .inl (cy 1, 118, .inl (iA (tryR a 4 ((r / 16) % 24) 0))))] := hD
              refine lv_istore (lv' := [(5, vI (b2i (pB (okA a 4 ((r / 16) % 24) 0)))), (4, vI (r % 16)), (3, vI ((r / 512) % 9)), (2, vI ((r / 16) % 24)), (0, .ref mo), (1, vI r)]) F.1 F.2.1 dX7_takesTurn_85 hl (by decide) rfl (fun ls hl => ?_)
              exact rr_wvret F hr hlocks dX7_takesTurn_87 hP hS (by unfold turnR; repeat' (first | rfl | split | omega))
        · refine rr_iconst F dX7_takesTurn_58 ?_
          refine lv_goto (tgt := 63) F.1 F.2.1 dX7_takesTurn_59 (by decide) ?_
          refine lv_iload_n F.1 F.2.1 dX7_takesTurn_63 rfl (lv_at hl 2 rfl) ?_
          refine lv_iload F.1 F.2.1 dX7_takesTurn_64 (lv_at hl 0 rfl) ?_
          refine rr_iconst F dX7_takesTurn_66 ?_
          refine rr_icmp_eq F (tgt := 77) dX7_takesTurn_67 (by decide) ⟨by omega, by omega⟩ ⟨by omega, by omega⟩ (fun c_67 => ?_) (fun c_67 => ?_)
          · refine rr_iconst F dX7_takesTurn_77 ?_
            refine lv_goto (tgt := 82) F.1 F.2.1 dX7_takesTurn_78 (by decide) ?_
            refine rr_wrV (rest := []) (wr := []) (ws2 := [(mo, .inr (7, [vI tr, .ref no, .ref th, .ref pa, vI ss, .ref sl, .ref sv, .ref tx, vI ty])), (th, .inl (cy 1, 118, .inl (iA (tryR a 3 ((r / 16) % 24) 0))))]) F hK (c_X7_triesAct l D cy mo no th pa sl sv tx tr ss ty a 3 ((r / 16) % 24) 0 (by first | assumption | omega | exact ⟨by omega, by omega⟩) (by first | assumption | omega | exact ⟨by omega, by omega⟩) (by first | assumption | omega | exact ⟨by omega, by omega⟩) (by first | assumption | omega | exact ⟨by omega, by omega⟩)) hP hD hS hA sf_X7_triesAct tw1227 7 rfl rfl ⟨Nat.le_of_ble_eq_true rfl, Nat.le_of_ble_eq_true rfl⟩ hl rfl (Nat.le_of_ble_eq_true rfl) dX7_takesTurn_82 ⟨Nat.zero_le _, Nat.zero_le _⟩ [0, 1] [] [0, 1] rfl rfl (by decide) (by decide) (by decide) rfl rfl (by decide) (fun H locs hP hD hS => ?_)
            have hP : va_P D vwCl [(mo, .inr (7, [vI tr, .ref no, .ref th, .ref pa, vI ss, .ref sl, .ref sv, .ref tx, vI ty])), (th, .inl (cy 1, 118, .inl (iA (tryR a 3 ((r / 16) % 24) 0))))] H := hP
            have hD : va_D _ [(mo, .inr (7, [vI tr, .ref no, .ref th, .ref pa, vI ss, .ref sl, .ref sv, .ref tx, vI ty])), (th, .inl (cy 1, 118, .inl (iA (tryR a 3 ((r / 16) % 24) 0))))] := hD
            refine lv_istore (lv' := [(5, vI (b2i (pB (okA a 3 ((r / 16) % 24) 0)))), (4, vI (r % 16)), (3, vI ((r / 512) % 9)), (2, vI ((r / 16) % 24)), (0, .ref mo), (1, vI r)]) F.1 F.2.1 dX7_takesTurn_85 hl (by decide) rfl (fun ls hl => ?_)
            exact rr_wvret F hr hlocks dX7_takesTurn_87 hP hS (by unfold turnR; repeat' (first | rfl | split | omega))
          · refine lv_iload F.1 F.2.1 dX7_takesTurn_70 (lv_at hl 0 rfl) ?_
            refine rr_bipush F dX7_takesTurn_72 (by decide) ?_
            refine rr_icmp_ne F (tgt := 81) dX7_takesTurn_74 (by decide) ⟨by omega, by omega⟩ ⟨by omega, by omega⟩ (fun c_74 => ?_) (fun c_74 => ?_)
            · refine lv_iload_n F.1 F.2.1 dX7_takesTurn_81 rfl (lv_at hl 1 rfl) ?_
              refine rr_wrV (rest := []) (wr := []) (ws2 := [(mo, .inr (7, [vI tr, .ref no, .ref th, .ref pa, vI ss, .ref sl, .ref sv, .ref tx, vI ty])), (th, .inl (cy 1, 118, .inl (iA (tryR a 3 ((r / 16) % 24) ((r / 512) % 9)))))]) F hK (c_X7_triesAct l D cy mo no th pa sl sv tx tr ss ty a 3 ((r / 16) % 24) ((r / 512) % 9) (by first | assumption | omega | exact ⟨by omega, by omega⟩) (by first | assumption | omega | exact ⟨by omega, by omega⟩) (by first | assumption | omega | exact ⟨by omega, by omega⟩) (by first | assumption | omega | exact ⟨by omega, by omega⟩)) hP hD hS hA sf_X7_triesAct tw1227 7 rfl rfl ⟨Nat.le_of_ble_eq_true rfl, Nat.le_of_ble_eq_true rfl⟩ hl rfl (Nat.le_of_ble_eq_true rfl) dX7_takesTurn_82 ⟨Nat.zero_le _, Nat.zero_le _⟩ [0, 1] [] [0, 1] rfl rfl (by decide) (by decide) (by decide) rfl rfl (by decide) (fun H locs hP hD hS => ?_)
              have hP : va_P D vwCl [(mo, .inr (7, [vI tr, .ref no, .ref th, .ref pa, vI ss, .ref sl, .ref sv, .ref tx, vI ty])), (th, .inl (cy 1, 118, .inl (iA (tryR a 3 ((r / 16) % 24) ((r / 512) % 9)))))] H := hP
              have hD : va_D _ [(mo, .inr (7, [vI tr, .ref no, .ref th, .ref pa, vI ss, .ref sl, .ref sv, .ref tx, vI ty])), (th, .inl (cy 1, 118, .inl (iA (tryR a 3 ((r / 16) % 24) ((r / 512) % 9)))))] := hD
              refine lv_istore (lv' := [(5, vI (b2i (pB (okA a 3 ((r / 16) % 24) ((r / 512) % 9))))), (4, vI (r % 16)), (3, vI ((r / 512) % 9)), (2, vI ((r / 16) % 24)), (0, .ref mo), (1, vI r)]) F.1 F.2.1 dX7_takesTurn_85 hl (by decide) rfl (fun ls hl => ?_)
              exact rr_wvret F hr hlocks dX7_takesTurn_87 hP hS (by unfold turnR; repeat' (first | rfl | split | omega))
            · refine rr_iconst F dX7_takesTurn_77 ?_
              refine lv_goto (tgt := 82) F.1 F.2.1 dX7_takesTurn_78 (by decide) ?_
              refine rr_wrV (rest := []) (wr := []) (ws2 := [(mo, .inr (7, [vI tr, .ref no, .ref th, .ref pa, vI ss, .ref sl, .ref sv, .ref tx, vI ty])), (th, .inl (cy 1, 118, .inl (iA (tryR a 3 ((r / 16) % 24) 0))))]) F hK (c_X7_triesAct l D cy mo no th pa sl sv tx tr ss ty a 3 ((r / 16) % 24) 0 (by first | assumption | omega | exact ⟨by omega, by omega⟩) (by first | assumption | omega | exact ⟨by omega, by omega⟩) (by first | assumption | omega | exact ⟨by omega, by omega⟩) (by first | assumption | omega | exact ⟨by omega, by omega⟩)) hP hD hS hA sf_X7_triesAct tw1227 7 rfl rfl ⟨Nat.le_of_ble_eq_true rfl, Nat.le_of_ble_eq_true rfl⟩ hl rfl (Nat.le_of_ble_eq_true rfl) dX7_takesTurn_82 ⟨Nat.zero_le _, Nat.zero_le _⟩ [0, 1] [] [0, 1] rfl rfl (by decide) (by decide) (by decide) rfl rfl (by decide) (fun H locs hP hD hS => ?_)
              have hP : va_P D vwCl [(mo, .inr (7, [vI tr, .ref no, .ref th, .ref pa, vI ss, .ref sl, .ref sv, .ref tx, vI ty])), (th, .inl (cy 1, 118, .inl (iA (tryR a 3 ((r / 16) % 24) 0))))] H := hP
              have hD : va_D _ [(mo, .inr (7, [vI tr, .ref no, .ref th, .ref pa, vI ss, .ref sl, .ref sv, .ref tx, vI ty])), (th, .inl (cy 1, 118, .inl (iA (tryR a 3 ((r / 16) % 24) 0))))] := hD
              refine lv_istore (lv' := [(5, vI (b2i (pB (okA a 3 ((r / 16) % 24) 0)))), (4, vI (r % 16)), (3, vI ((r / 512) % 9)), (2, vI ((r / 16) % 24)), (0, .ref mo), (1, vI r)]) F.1 F.2.1 dX7_takesTurn_85 hl (by decide) rfl (fun ls hl => ?_)
              exact rr_wvret F hr hlocks dX7_takesTurn_87 hP hS (by unfold turnR; repeat' (first | rfl | split | omega))
      · refine rr_iconst F dX7_takesTurn_47 ?_
        refine lv_goto (tgt := 63) F.1 F.2.1 dX7_takesTurn_48 (by decide) ?_
        refine lv_iload_n F.1 F.2.1 dX7_takesTurn_63 rfl (lv_at hl 2 rfl) ?_
        refine lv_iload F.1 F.2.1 dX7_takesTurn_64 (lv_at hl 0 rfl) ?_
        refine rr_iconst F dX7_takesTurn_66 ?_
        refine rr_icmp_eq F (tgt := 77) dX7_takesTurn_67 (by decide) ⟨by omega, by omega⟩ ⟨by omega, by omega⟩ (fun c_67 => ?_) (fun c_67 => ?_)
        · refine rr_iconst F dX7_takesTurn_77 ?_
          refine lv_goto (tgt := 82) F.1 F.2.1 dX7_takesTurn_78 (by decide) ?_
          refine rr_wrV (rest := []) (wr := []) (ws2 := [(mo, .inr (7, [vI tr, .ref no, .ref th, .ref pa, vI ss, .ref sl, .ref sv, .ref tx, vI ty])), (th, .inl (cy 1, 118, .inl (iA (tryR a 2 ((r / 16) % 24) 0))))]) F hK (c_X7_triesAct l D cy mo no th pa sl sv tx tr ss ty a 2 ((r / 16) % 24) 0 (by first | assumption | omega | exact ⟨by omega, by omega⟩) (by first | assumption | omega | exact ⟨by omega, by omega⟩) (by first | assumption | omega | exact ⟨by omega, by omega⟩) (by first | assumption | omega | exact ⟨by omega, by omega⟩)) hP hD hS hA sf_X7_triesAct tw1227 7 rfl rfl ⟨Nat.le_of_ble_eq_true rfl, Nat.le_of_ble_eq_true rfl⟩ hl rfl (Nat.le_of_ble_eq_true rfl) dX7_takesTurn_82 ⟨Nat.zero_le _, Nat.zero_le _⟩ [0, 1] [] [0, 1] rfl rfl (by decide) (by decide) (by decide) rfl rfl (by decide) (fun H locs hP hD hS => ?_)
          have hP : va_P D vwCl [(mo, .inr (7, [vI tr, .ref no, .ref th, .ref pa, vI ss, .ref sl, .ref sv, .ref tx, vI ty])), (th, .inl (cy 1, 118, .inl (iA (tryR a 2 ((r / 16) % 24) 0))))] H := hP
          have hD : va_D _ [(mo, .inr (7, [vI tr, .ref no, .ref th, .ref pa, vI ss, .ref sl, .ref sv, .ref tx, vI ty])), (th, .inl (cy 1, 118, .inl (iA (tryR a 2 ((r / 16) % 24) 0))))] := hD
          refine lv_istore (lv' := [(5, vI (b2i (pB (okA a 2 ((r / 16) % 24) 0)))), (4, vI (r % 16)), (3, vI ((r / 512) % 9)), (2, vI ((r / 16) % 24)), (0, .ref mo), (1, vI r)]) F.1 F.2.1 dX7_takesTurn_85 hl (by decide) rfl (fun ls hl => ?_)
          exact rr_wvret F hr hlocks dX7_takesTurn_87 hP hS (by unfold turnR; repeat' (first | rfl | split | omega))
        · refine lv_iload F.1 F.2.1 dX7_takesTurn_70 (lv_at hl 0 rfl) ?_
          refine rr_bipush F dX7_takesTurn_72 (by decide) ?_
          refine rr_icmp_ne F (tgt := 81) dX7_takesTurn_74 (by decide) ⟨by omega, by omega⟩ ⟨by omega, by omega⟩ (fun c_74 => ?_) (fun c_74 => ?_)
          · refine lv_iload_n F.1 F.2.1 dX7_takesTurn_81 rfl (lv_at hl 1 rfl) ?_
            refine rr_wrV (rest := []) (wr := []) (ws2 := [(mo, .inr (7, [vI tr, .ref no, .ref th, .ref pa, vI ss, .ref sl, .ref sv, .ref tx, vI ty])), (th, .inl (cy 1, 118, .inl (iA (tryR a 2 ((r / 16) % 24) ((r / 512) % 9)))))]) F hK (c_X7_triesAct l D cy mo no th pa sl sv tx tr ss ty a 2 ((r / 16) % 24) ((r / 512) % 9) (by first | assumption | omega | exact ⟨by omega, by omega⟩) (by first | assumption | omega | exact ⟨by omega, by omega⟩) (by first | assumption | omega | exact ⟨by omega, by omega⟩) (by first | assumption | omega | exact ⟨by omega, by omega⟩)) hP hD hS hA sf_X7_triesAct tw1227 7 rfl rfl ⟨Nat.le_of_ble_eq_true rfl, Nat.le_of_ble_eq_true rfl⟩ hl rfl (Nat.le_of_ble_eq_true rfl) dX7_takesTurn_82 ⟨Nat.zero_le _, Nat.zero_le _⟩ [0, 1] [] [0, 1] rfl rfl (by decide) (by decide) (by decide) rfl rfl (by decide) (fun H locs hP hD hS => ?_)
            have hP : va_P D vwCl [(mo, .inr (7, [vI tr, .ref no, .ref th, .ref pa, vI ss, .ref sl, .ref sv, .ref tx, vI ty])), (th, .inl (cy 1, 118, .inl (iA (tryR a 2 ((r / 16) % 24) ((r / 512) % 9)))))] H := hP
            have hD : va_D _ [(mo, .inr (7, [vI tr, .ref no, .ref th, .ref pa, vI ss, .ref sl, .ref sv, .ref tx, vI ty])), (th, .inl (cy 1, 118, .inl (iA (tryR a 2 ((r / 16) % 24) ((r / 512) % 9)))))] := hD
            refine lv_istore (lv' := [(5, vI (b2i (pB (okA a 2 ((r / 16) % 24) ((r / 512) % 9))))), (4, vI (r % 16)), (3, vI ((r / 512) % 9)), (2, vI ((r / 16) % 24)), (0, .ref mo), (1, vI r)]) F.1 F.2.1 dX7_takesTurn_85 hl (by decide) rfl (fun ls hl => ?_)
            exact rr_wvret F hr hlocks dX7_takesTurn_87 hP hS (by unfold turnR; repeat' (first | rfl | split | omega))
          · refine rr_iconst F dX7_takesTurn_77 ?_
            refine lv_goto (tgt := 82) F.1 F.2.1 dX7_takesTurn_78 (by decide) ?_
            refine rr_wrV (rest := []) (wr := []) (ws2 := [(mo, .inr (7, [vI tr, .ref no, .ref th, .ref pa, vI ss, .ref sl, .ref sv, .ref tx, vI ty])), (th, .inl (cy 1, 118, .inl (iA (tryR a 2 ((r / 16) % 24) 0))))]) F hK (c_X7_triesAct l D cy mo no th pa sl sv tx tr ss ty a 2 ((r / 16) % 24) 0 (by first | assumption | omega | exact ⟨by omega, by omega⟩) (by first | assumption | omega | exact ⟨by omega, by omega⟩) (by first | assumption | omega | exact ⟨by omega, by omega⟩) (by first | assumption | omega | exact ⟨by omega, by omega⟩)) hP hD hS hA sf_X7_triesAct tw1227 7 rfl rfl ⟨Nat.le_of_ble_eq_true rfl, Nat.le_of_ble_eq_true rfl⟩ hl rfl (Nat.le_of_ble_eq_true rfl) dX7_takesTurn_82 ⟨Nat.zero_le _, Nat.zero_le _⟩ [0, 1] [] [0, 1] rfl rfl (by decide) (by decide) (by decide) rfl rfl (by decide) (fun H locs hP hD hS => ?_)
            have hP : va_P D vwCl [(mo, .inr (7, [vI tr, .ref no, .ref th, .ref pa, vI ss, .ref sl, .ref sv, .ref tx, vI ty])), (th, .inl (cy 1, 118, .inl (iA (tryR a 2 ((r / 16) % 24) 0))))] H := hP
            have hD : va_D _ [(mo, .inr (7, [vI tr, .ref no, .ref th, .ref pa, vI ss, .ref sl, .ref sv, .ref tx, vI ty])), (th, .inl (cy 1, 118, .inl (iA (tryR a 2 ((r / 16) % 24) 0))))] := hD
            refine lv_istore (lv' := [(5, vI (b2i (pB (okA a 2 ((r / 16) % 24) 0)))), (4, vI (r % 16)), (3, vI ((r / 512) % 9)), (2, vI ((r / 16) % 24)), (0, .ref mo), (1, vI r)]) F.1 F.2.1 dX7_takesTurn_85 hl (by decide) rfl (fun ls hl => ?_)
            exact rr_wvret F hr hlocks dX7_takesTurn_87 hP hS (by unfold turnR; repeat' (first | rfl | split | omega))
    · refine rr_iconst F dX7_takesTurn_37 ?_
      refine lv_goto (tgt := 63) F.1 F.2.1 dX7_takesTurn_38 (by decide) ?_
      refine lv_iload_n F.1 F.2.1 dX7_takesTurn_63 rfl (lv_at hl 2 rfl) ?_
      refine lv_iload F.1 F.2.1 dX7_takesTurn_64 (lv_at hl 0 rfl) ?_
      refine rr_iconst F dX7_takesTurn_66 ?_
      refine rr_icmp_eq F (tgt := 77) dX7_takesTurn_67 (by decide) ⟨by omega, by omega⟩ ⟨by omega, by omega⟩ (fun c_67 => ?_) (fun c_67 => ?_)
      · refine rr_iconst F dX7_takesTurn_77 ?_
        refine lv_goto (tgt := 82) F.1 F.2.1 dX7_takesTurn_78 (by decide) ?_
        refine rr_wrV (rest := []) (wr := []) (ws2 := [(mo, .inr (7, [vI tr, .ref no, .ref th, .ref pa, vI ss, .ref sl, .ref sv, .ref tx, vI ty])), (th, .inl (cy 1, 118, .inl (iA (tryR a 1 ((r / 16) % 24) 0))))]) F hK (c_X7_triesAct l D cy mo no th pa sl sv tx tr ss ty a 1 ((r / 16) % 24) 0 (by first | assumption | omega | exact ⟨by omega, by omega⟩) (by first | assumption | omega | exact ⟨by omega, by omega⟩) (by first | assumption | omega | exact ⟨by omega, by omega⟩) (by first | assumption | omega | exact ⟨by omega, by omega⟩)) hP hD hS hA sf_X7_triesAct tw1227 7 rfl rfl ⟨Nat.le_of_ble_eq_true rfl, Nat.le_of_ble_eq_true rfl⟩ hl rfl (Nat.le_of_ble_eq_true rfl) dX7_takesTurn_82 ⟨Nat.zero_le _, Nat.zero_le _⟩ [0, 1] [] [0, 1] rfl rfl (by decide) (by decide) (by decide) rfl rfl (by decide) (fun H locs hP hD hS => ?_)
        have hP : va_P D vwCl [(mo, .inr (7, [vI tr, .ref no, .ref th, .ref pa, vI ss, .ref sl, .ref sv, .ref tx, vI ty])), (th, .inl (cy 1, 118, .inl (iA (tryR a 1 ((r / 16) % 24) 0))))] H := hP
        have hD : va_D _ [(mo, .inr (7, [vI tr, .ref no, .ref th, .ref pa, vI ss, .ref sl, .ref sv, .ref tx, vI ty])), (th, .inl (cy 1, 118, .inl (iA (tryR a 1 ((r / 16) % 24) 0))))] := hD
        refine lv_istore (lv' := [(5, vI (b2i (pB (okA a 1 ((r / 16) % 24) 0)))), (4, vI (r % 16)), (3, vI ((r / 512) % 9)), (2, vI ((r / 16) % 24)), (0, .ref mo), (1, vI r)]) F.1 F.2.1 dX7_takesTurn_85 hl (by decide) rfl (fun ls hl => ?_)
        exact rr_wvret F hr hlocks dX7_takesTurn_87 hP hS (by unfold turnR; repeat' (first | rfl | split | omega))
      · refine lv_iload F.1 F.2.1 dX7_takesTurn_70 (lv_at hl 0 rfl) ?_
        refine rr_bipush F dX7_takesTurn_72 (by decide) ?_
        refine rr_icmp_ne F (tgt := 81) dX7_takesTurn_74 (by decide) ⟨by omega, by omega⟩ ⟨by omega, by omega⟩ (fun c_74 => ?_) (fun c_74 => ?_)
        · refine lv_iload_n F.1 F.2.1 dX7_takesTurn_81 rfl (lv_at hl 1 rfl) ?_
          refine rr_wrV (rest := []) (wr := []) (ws2 := [(mo, .inr (7, [vI tr, .ref no, .ref th, .ref pa, vI ss, .ref sl, .ref sv, .ref tx, vI ty])), (th, .inl (cy 1, 118, .inl (iA (tryR a 1 ((r / 16) % 24) ((r / 512) % 9)))))]) F hK (c_X7_triesAct l D cy mo no th pa sl sv tx tr ss ty a 1 ((r / 16) % 24) ((r / 512) % 9) (by first | assumption | omega | exact ⟨by omega, by omega⟩) (by first | assumption | omega | exact ⟨by omega, by omega⟩) (by first | assumption | omega | exact ⟨by omega, by omega⟩) (by first | assumption | omega | exact ⟨by omega, by omega⟩)) hP hD hS hA sf_X7_triesAct tw1227 7 rfl rfl ⟨Nat.le_of_ble_eq_true rfl, Nat.le_of_ble_eq_true rfl⟩ hl rfl (Nat.le_of_ble_eq_true rfl) dX7_takesTurn_82 ⟨Nat.zero_le _, Nat.zero_le _⟩ [0, 1] [] [0, 1] rfl rfl (by decide) (by decide) (by decide) rfl rfl (by decide) (fun H locs hP hD hS => ?_)
          have hP : va_P D vwCl [(mo, .inr (7, [vI tr, .ref no, .ref th, .ref pa, vI ss, .ref sl, .ref sv, .ref tx, vI ty])), (th, .inl (cy 1, 118, .inl (iA (tryR a 1 ((r / 16) % 24) ((r / 512) % 9)))))] H := hP
          have hD : va_D _ [(mo, .inr (7, [vI tr, .ref no, .ref th, .ref pa, vI ss, .ref sl, .ref sv, .ref tx, vI ty])), (th, .inl (cy 1, 118, .inl (iA (tryR a 1 ((r / 16) % 24) ((r / 512) % 9)))))] := hD
          refine lv_istore (lv' := [(5, vI (b2i (pB (okA a 1 ((r / 16) % 24) ((r / 512) % 9))))), (4, vI (r % 16)), (3, vI ((r / 512) % 9)), (2, vI ((r / 16) % 24)), (0, .ref mo), (1, vI r)]) F.1 F.2.1 dX7_takesTurn_85 hl (by decide) rfl (fun ls hl => ?_)
          exact rr_wvret F hr hlocks dX7_takesTurn_87 hP hS (by unfold turnR; repeat' (first | rfl | split | omega))
        · refine rr_iconst F dX7_takesTurn_77 ?_
          refine lv_goto (tgt := 82) F.1 F.2.1 dX7_takesTurn_78 (by decide) ?_
          refine rr_wrV (rest := []) (wr := []) (ws2 := [(mo, .inr (7, [vI tr, .ref no, .ref th, .ref pa, vI ss, .ref sl, .ref sv, .ref tx, vI ty])), (th, .inl (cy 1, 118, .inl (iA (tryR a 1 ((r / 16) % 24) 0))))]) F hK (c_X7_triesAct l D cy mo no th pa sl sv tx tr ss ty a 1 ((r / 16) % 24) 0 (by first | assumption | omega | exact ⟨by omega, by omega⟩) (by first | assumption | omega | exact ⟨by omega, by omega⟩) (by first | assumption | omega | exact ⟨by omega, by omega⟩) (by first | assumption | omega | exact ⟨by omega, by omega⟩)) hP hD hS hA sf_X7_triesAct tw1227 7 rfl rfl ⟨Nat.le_of_ble_eq_true rfl, Nat.le_of_ble_eq_true rfl⟩ hl rfl (Nat.le_of_ble_eq_true rfl) dX7_takesTurn_82 ⟨Nat.zero_le _, Nat.zero_le _⟩ [0, 1] [] [0, 1] rfl rfl (by decide) (by decide) (by decide) rfl rfl (by decide) (fun H locs hP hD hS => ?_)
          have hP : va_P D vwCl [(mo, .inr (7, [vI tr, .ref no, .ref th, .ref pa, vI ss, .ref sl, .ref sv, .ref tx, vI ty])), (th, .inl (cy 1, 118, .inl (iA (tryR a 1 ((r / 16) % 24) 0))))] H := hP
          have hD : va_D _ [(mo, .inr (7, [vI tr, .ref no, .ref th, .ref pa, vI ss, .ref sl, .ref sv, .ref tx, vI ty])), (th, .inl (cy 1, 118, .inl (iA (tryR a 1 ((r / 16) % 24) 0))))] := hD
          refine lv_istore (lv' := [(5, vI (b2i (pB (okA a 1 ((r / 16) % 24) 0)))), (4, vI (r % 16)), (3, vI ((r / 512) % 9)), (2, vI ((r / 16) % 24)), (0, .ref mo), (1, vI r)]) F.1 F.2.1 dX7_takesTurn_85 hl (by decide) rfl (fun ls hl => ?_)
          exact rr_wvret F hr hlocks dX7_takesTurn_87 hP hS (by unfold turnR; repeat' (first | rfl | split | omega))
set_option maxRecDepth 100000 in
set_option maxHeartbeats 4000000 in
theorem c_X7_tries (l : Launch) (D : va_G) (cy : Nat → ClassId) (mo no th pa sl sv tx : Nat) (tr ss ty : Int) (a : Int → Int) (x : Int) (hM : MR a) (hx : 0 ≤ x ∧ x < 10000) (hsp : 0 ≤ a 117 ∧ a 117 ≤ 100000000) : Wr l yX7_tries cX7_tries 6 (some FieldType.boolean) 7 [.ref mo, vI x] D cy [(mo, .inr (7, [vI tr, .ref no, .ref th, .ref pa, vI ss, .ref sl, .ref sv, .ref tx, vI ty])), (th, .inl (cy 1, 118, .inl (iA a)))] [(mo, .inr (7, [vI tr, .ref no, .ref th, .ref pa, vI ss, .ref sl, .ref sv, .ref tx, vI ty])), (th, .inl (cy 1, 118, .inl (iA (tryT a x))))] (some (vI (b2i (pB (okT a x))))) := by
  refine Wr.of RX7 rfl [(0, .ref mo), (1, vI x)] rfl (by decide +kernel) (Nat.le_of_ble_eq_true rfl) ?_
  intro p e s m args below meth c F hr hlocks hK hP hD hS hA ls hl
  have hn0 := hM.n
  have hw0 := hM.nw
  have hc0 := hM.wc
  refine lv_iload_n F.1 F.2.1 dX7_tries_0 rfl (lv_at hl 1 rfl) ?_
  refine rr_sipush F dX7_tries_1 (by decide) ?_
  refine rr_idiv F (z := x / 1000) dX7_tries_4 ⟨by omega, by omega⟩ ⟨by omega, by omega⟩ (Int.tdiv_eq_ediv_of_nonneg (by omega)) ?_
  refine lv_istore_n (lv' := [(2, vI (x / 1000)), (0, .ref mo), (1, vI x)]) F.1 F.2.1 dX7_tries_5 rfl hl (by decide) rfl (fun ls hl => ?_)
  refine lv_iload_n F.1 F.2.1 dX7_tries_6 rfl (lv_at hl 2 rfl) ?_
  refine rr_sipush F dX7_tries_7 (by decide) ?_
  refine rr_irem F (z := x % 1000) dX7_tries_10 ⟨by omega, by omega⟩ ⟨by omega, by omega⟩ (Int.tmod_eq_emod_of_nonneg (by omega)) ?_
  refine lv_istore_n (lv' := [(3, vI (x % 1000)), (2, vI (x / 1000)), (0, .ref mo), (1, vI x)]) F.1 F.2.1 dX7_tries_11 rfl hl (by decide) rfl (fun ls hl => ?_)
  refine lv_iload_n F.1 F.2.1 dX7_tries_12 rfl (lv_at hl 0 rfl) ?_
  refine rr_bipush F dX7_tries_13 (by decide) ?_
  refine rr_idiv F (z := (x % 1000) / 100) dX7_tries_15 ⟨by omega, by omega⟩ ⟨by omega, by omega⟩ (Int.tdiv_eq_ediv_of_nonneg (by omega)) ?_
  refine lv_istore (lv' := [(4, vI ((x % 1000) / 100)), (3, vI (x % 1000)), (2, vI (x / 1000)), (0, .ref mo), (1, vI x)]) F.1 F.2.1 dX7_tries_16 hl (by decide) rfl (fun ls hl => ?_)
  refine lv_iload_n F.1 F.2.1 dX7_tries_18 rfl (lv_at hl 1 rfl) ?_
  refine rr_bipush F dX7_tries_19 (by decide) ?_
  refine rr_irem F (z := (x % 1000) % 100) dX7_tries_21 ⟨by omega, by omega⟩ ⟨by omega, by omega⟩ (Int.tmod_eq_emod_of_nonneg (by omega)) ?_
  refine lv_istore (lv' := [(5, vI ((x % 1000) % 100)), (4, vI ((x % 1000) / 100)), (3, vI (x % 1000)), (2, vI (x / 1000)), (0, .ref mo), (1, vI x)]) F.1 F.2.1 dX7_tries_22 hl (by decide) rfl (fun ls hl => ?_)
  refine lv_iload_n F.1 F.2.1 dX7_tries_24 rfl (lv_at hl 3 rfl) ?_
  rcases (show (x / 1000 < 1 ∨ 9 < x / 1000) ∨ x / 1000 = 1 ∨ x / 1000 = 2 ∨ x / 1000 = 3 ∨ x / 1000 = 4 ∨ x / 1000 = 5 ∨ x / 1000 = 6 ∨ x / 1000 = 7 ∨ x / 1000 = 8 ∨ x / 1000 = 9 by omega) with c_25 | c_25 | c_25 | c_25 | c_25 | c_25 | c_25 | c_25 | c_25 | c_25
  · refine rr_tabOut F (tgt := 234) dX7_tries_25 ⟨by omega, by omega⟩ c_25 rfl ?_
    refine rr_iconst F dX7_tries_234 ?_
    exact rr_wzret F hr hlocks (b := false) dX7_tries_235 hP hS (by unfold tryT; repeat' (first | rfl | split | omega)) rfl (b2i_f (fun h => by unfold okT at h; rcases h with h | h | h | h | h | h <;> omega))
  · refine rr_tabIn F (tgt := 76) 0 dX7_tries_25 ⟨by omega, by omega⟩ (by omega) (by omega) rfl rfl ?_
    refine lv_aload_n F.1 F.2.1 dX7_tries_76 rfl (lv_at hl 4 rfl) ?_
    refine lv_iload_n F.1 F.2.1 dX7_tries_77 rfl (lv_at hl 3 rfl) ?_
    refine lv_iload_n F.1 F.2.1 dX7_tries_78 rfl (lv_at hl 2 rfl) ?_
    refine rr_bipush F dX7_tries_79 (by decide) ?_
    refine rr_idiv F (z := (x % 1000) / 10) dX7_tries_81 ⟨by omega, by omega⟩ ⟨by omega, by omega⟩ (Int.tdiv_eq_ediv_of_nonneg (by omega)) ?_
    refine lv_iload_n F.1 F.2.1 dX7_tries_82 rfl (lv_at hl 2 rfl) ?_
    refine rr_bipush F dX7_tries_83 (by decide) ?_
    refine rr_irem F (z := (x % 1000) % 10) dX7_tries_85 ⟨by omega, by omega⟩ ⟨by omega, by omega⟩ (Int.tmod_eq_emod_of_nonneg (by omega)) ?_
    refine rr_wrV (rest := []) (wr := []) (ws2 := [(mo, .inr (7, [vI tr, .ref no, .ref th, .ref pa, vI ss, .ref sl, .ref sv, .ref tx, vI ty])), (th, .inl (cy 1, 118, .inl (iA (tryR a (x / 1000) ((x % 1000) / 10) ((x % 1000) % 10)))))]) F hK (c_X7_triesAct l D cy mo no th pa sl sv tx tr ss ty a (x / 1000) ((x % 1000) / 10) ((x % 1000) % 10) (by first | assumption | omega | exact ⟨by omega, by omega⟩) (by first | assumption | omega | exact ⟨by omega, by omega⟩) (by first | assumption | omega | exact ⟨by omega, by omega⟩) (by first | assumption | omega | exact ⟨by omega, by omega⟩)) hP hD hS hA sf_X7_triesAct tw1227 7 rfl rfl ⟨Nat.le_of_ble_eq_true rfl, Nat.le_of_ble_eq_true rfl⟩ hl rfl (Nat.le_of_ble_eq_true rfl) dX7_tries_86 ⟨Nat.zero_le _, Nat.zero_le _⟩ [0, 1] [] [0, 1] rfl rfl (by decide) (by decide) (by decide) rfl rfl (by decide) (fun H locs hP hD hS => ?_)
    have hP : va_P D vwCl [(mo, .inr (7, [vI tr, .ref no, .ref th, .ref pa, vI ss, .ref sl, .ref sv, .ref tx, vI ty])), (th, .inl (cy 1, 118, .inl (iA (tryR a (x / 1000) ((x % 1000) / 10) ((x % 1000) % 10)))))] H := hP
    have hD : va_D _ [(mo, .inr (7, [vI tr, .ref no, .ref th, .ref pa, vI ss, .ref sl, .ref sv, .ref tx, vI ty])), (th, .inl (cy 1, 118, .inl (iA (tryR a (x / 1000) ((x % 1000) / 10) ((x % 1000) % 10)))))] := hD
    exact rr_wzret F hr hlocks (b := (pB (okA a (x / 1000) ((x % 1000) / 10) ((x % 1000) % 10)))) dX7_tries_89 hP hS (by unfold tryT; repeat' (first | rfl | split | omega)) rfl (congrArg b2i (pB_eq (by unfold okT; constructor <;> intro h <;> first | exact Or.inl ⟨by omega, h⟩ | (rcases h with h | h | h | h | h | h; exact h.2; all_goals (exfalso; omega)))))
  · refine rr_tabIn F (tgt := 76) 1 dX7_tries_25 ⟨by omega, by omega⟩ (by omega) (by omega) rfl rfl ?_
    refine lv_aload_n F.1 F.2.1 dX7_tries_76 rfl (lv_at hl 4 rfl) ?_
    refine lv_iload_n F.1 F.2.1 dX7_tries_77 rfl (lv_at hl 3 rfl) ?_
    refine lv_iload_n F.1 F.2.1 dX7_tries_78 rfl (lv_at hl 2 rfl) ?_
    refine rr_bipush F dX7_tries_79 (by decide) ?_
    refine rr_idiv F (z := (x % 1000) / 10) dX7_tries_81 ⟨by omega, by omega⟩ ⟨by omega, by omega⟩ (Int.tdiv_eq_ediv_of_nonneg (by omega)) ?_
    refine lv_iload_n F.1 F.2.1 dX7_tries_82 rfl (lv_at hl 2 rfl) ?_
    refine rr_bipush F dX7_tries_83 (by decide) ?_
    refine rr_irem F (z := (x % 1000) % 10) dX7_tries_85 ⟨by omega, by omega⟩ ⟨by omega, by omega⟩ (Int.tmod_eq_emod_of_nonneg (by omega)) ?_
    refine rr_wrV (rest := []) (wr := []) (ws2 := [(mo, .inr (7, [vI tr, .ref no, .ref th, .ref pa, vI ss, .ref sl, .ref sv, .ref tx, vI ty])), (th, .inl (cy 1, 118, .inl (iA (tryR a (x / 1000) ((x % 1000) / 10) ((x % 1000) % 10)))))]) F hK (c_X7_triesAct l D cy mo no th pa sl sv tx tr ss ty a (x / 1000) ((x % 1000) / 10) ((x % 1000) % 10) (by first | assumption | omega | exact ⟨by omega, by omega⟩) (by first | assumption | omega | exact ⟨by omega, by omega⟩) (by first | assumption | omega | exact ⟨by omega, by omega⟩) (by first | assumption | omega | exact ⟨by omega, by omega⟩)) hP hD hS hA sf_X7_triesAct tw1227 7 rfl rfl ⟨Nat.le_of_ble_eq_true rfl, Nat.le_of_ble_eq_true rfl⟩ hl rfl (Nat.le_of_ble_eq_true rfl) dX7_tries_86 ⟨Nat.zero_le _, Nat.zero_le _⟩ [0, 1] [] [0, 1] rfl rfl (by decide) (by decide) (by decide) rfl rfl (by decide) (fun H locs hP hD hS => ?_)
    have hP : va_P D vwCl [(mo, .inr (7, [vI tr, .ref no, .ref th, .ref pa, vI ss, .ref sl, .ref sv, .ref tx, vI ty])), (th, .inl (cy 1, 118, .inl (iA (tryR a (x / 1000) ((x % 1000) / 10) ((x % 1000) % 10)))))] H := hP
    have hD : va_D _ [(mo, .inr (7, [vI tr, .ref no, .ref th, .ref pa, vI ss, .ref sl, .ref sv, .ref tx, vI ty])), (th, .inl (cy 1, 118, .inl (iA (tryR a (x / 1000) ((x % 1000) / 10) ((x % 1000) % 10)))))] := hD
    exact rr_wzret F hr hlocks (b := (pB (okA a (x / 1000) ((x % 1000) / 10) ((x % 1000) % 10)))) dX7_tries_89 hP hS (by unfold tryT; repeat' (first | rfl | split | omega)) rfl (congrArg b2i (pB_eq (by unfold okT; constructor <;> intro h <;> first | exact Or.inl ⟨by omega, h⟩ | (rcases h with h | h | h | h | h | h; exact h.2; all_goals (exfalso; omega)))))
  · refine rr_tabIn F (tgt := 76) 2 dX7_tries_25 ⟨by omega, by omega⟩ (by omega) (by omega) rfl rfl ?_
    refine lv_aload_n F.1 F.2.1 dX7_tries_76 rfl (lv_at hl 4 rfl) ?_
    refine lv_iload_n F.1 F.2.1 dX7_tries_77 rfl (lv_at hl 3 rfl) ?_
    refine lv_iload_n F.1 F.2.1 dX7_tries_78 rfl (lv_at hl 2 rfl) ?_
    refine rr_bipush F dX7_tries_79 (by decide) ?_
    refine rr_idiv F (z := (x % 1000) / 10) dX7_tries_81 ⟨by omega, by omega⟩ ⟨by omega, by omega⟩ (Int.tdiv_eq_ediv_of_nonneg (by omega)) ?_
    refine lv_iload_n F.1 F.2.1 dX7_tries_82 rfl (lv_at hl 2 rfl) ?_
    refine rr_bipush F dX7_tries_83 (by decide) ?_
    refine rr_irem F (z := (x % 1000) % 10) dX7_tries_85 ⟨by omega, by omega⟩ ⟨by omega, by omega⟩ (Int.tmod_eq_emod_of_nonneg (by omega)) ?_
    refine rr_wrV (rest := []) (wr := []) (ws2 := [(mo, .inr (7, [vI tr, .ref no, .ref th, .ref pa, vI ss, .ref sl, .ref sv, .ref tx, vI ty])), (th, .inl (cy 1, 118, .inl (iA (tryR a (x / 1000) ((x % 1000) / 10) ((x % 1000) % 10)))))]) F hK (c_X7_triesAct l D cy mo no th pa sl sv tx tr ss ty a (x / 1000) ((x % 1000) / 10) ((x % 1000) % 10) (by first | assumption | omega | exact ⟨by omega, by omega⟩) (by first | assumption | omega | exact ⟨by omega, by omega⟩) (by first | assumption | omega | exact ⟨by omega, by omega⟩) (by first | assumption | omega | exact ⟨by omega, by omega⟩)) hP hD hS hA sf_X7_triesAct tw1227 7 rfl rfl ⟨Nat.le_of_ble_eq_true rfl, Nat.le_of_ble_eq_true rfl⟩ hl rfl (Nat.le_of_ble_eq_true rfl) dX7_tries_86 ⟨Nat.zero_le _, Nat.zero_le _⟩ [0, 1] [] [0, 1] rfl rfl (by decide) (by decide) (by decide) rfl rfl (by decide) (fun H locs hP hD hS => ?_)
    have hP : va_P D vwCl [(mo, .inr (7, [vI tr, .ref no, .ref th, .ref pa, vI ss, .ref sl, .ref sv, .ref tx, vI ty])), (th, .inl (cy 1, 118, .inl (iA (tryR a (x / 1000) ((x % 1000) / 10) ((x % 1000) % 10)))))] H := hP
    have hD : va_D _ [(mo, .inr (7, [vI tr, .ref no, .ref th, .ref pa, vI ss, .ref sl, .ref sv, .ref tx, vI ty])), (th, .inl (cy 1, 118, .inl (iA (tryR a (x / 1000) ((x % 1000) / 10) ((x % 1000) % 10)))))] := hD
    exact rr_wzret F hr hlocks (b := (pB (okA a (x / 1000) ((x % 1000) / 10) ((x % 1000) % 10)))) dX7_tries_89 hP hS (by unfold tryT; repeat' (first | rfl | split | omega)) rfl (congrArg b2i (pB_eq (by unfold okT; constructor <;> intro h <;> first | exact Or.inl ⟨by omega, h⟩ | (rcases h with h | h | h | h | h | h; exact h.2; all_goals (exfalso; omega)))))
  · refine rr_tabIn F (tgt := 76) 3 dX7_tries_25 ⟨by omega, by omega⟩ (by omega) (by omega) rfl rfl ?_
    refine lv_aload_n F.1 F.2.1 dX7_tries_76 rfl (lv_at hl 4 rfl) ?_
    refine lv_iload_n F.1 F.2.1 dX7_tries_77 rfl (lv_at hl 3 rfl) ?_
    refine lv_iload_n F.1 F.2.1 dX7_tries_78 rfl (lv_at hl 2 rfl) ?_
    refine rr_bipush F dX7_tries_79 (by decide) ?_
    refine rr_idiv F (z := (x % 1000) / 10) dX7_tries_81 ⟨by omega, by omega⟩ ⟨by omega, by omega⟩ (Int.tdiv_eq_ediv_of_nonneg (by omega)) ?_
    refine lv_iload_n F.1 F.2.1 dX7_tries_82 rfl (lv_at hl 2 rfl) ?_
    refine rr_bipush F dX7_tries_83 (by decide) ?_
    refine rr_irem F (z := (x % 1000) % 10) dX7_tries_85 ⟨by omega, by omega⟩ ⟨by omega, by omega⟩ (Int.tmod_eq_emod_of_nonneg (by omega)) ?_
    refine rr_wrV (rest := []) (wr := []) (ws2 := [(mo, .inr (7, [vI tr, .ref no, .ref th, .ref pa, vI ss, .ref sl, .ref sv, .ref tx, vI ty])), (th, .inl (cy 1, 118, .inl (iA (tryR a (x / 1000) ((x % 1000) / 10) ((x % 1000) % 10)))))]) F hK (c_X7_triesAct l D cy mo no th pa sl sv tx tr ss ty a (x / 1000) ((x % 1000) / 10) ((x % 1000) % 10) (by first | assumption | omega | exact ⟨by omega, by omega⟩) (by first | assumption | omega | exact ⟨by omega, by omega⟩) (by first | assumption | omega | exact ⟨by omega, by omega⟩) (by first | assumption | omega | exact ⟨by omega, by omega⟩)) hP hD hS hA sf_X7_triesAct tw1227 7 rfl rfl ⟨Nat.le_of_ble_eq_true rfl, Nat.le_of_ble_eq_true rfl⟩ hl rfl (Nat.le_of_ble_eq_true rfl) dX7_tries_86 ⟨Nat.zero_le _, Nat.zero_le _⟩ [0, 1] [] [0, 1] rfl rfl (by decide) (by decide) (by decide) rfl rfl (by decide) (fun H locs hP hD hS => ?_)
    have hP : va_P D vwCl [(mo, .inr (7, [vI tr, .ref no, .ref th, .ref pa, vI ss, .ref sl, .ref sv, .ref tx, vI ty])), (th, .inl (cy 1, 118, .inl (iA (tryR a (x / 1000) ((x % 1000) / 10) ((x % 1000) % 10)))))] H := hP
    have hD : va_D _ [(mo, .inr (7, [vI tr, .ref no, .ref th, .ref pa, vI ss, .ref sl, .ref sv, .ref tx, vI ty])), (th, .inl (cy 1, 118, .inl (iA (tryR a (x / 1000) ((x % 1000) / 10) ((x % 1000) % 10)))))] := hD
    exact rr_wzret F hr hlocks (b := (pB (okA a (x / 1000) ((x % 1000) / 10) ((x % 1000) % 10)))) dX7_tries_89 hP hS (by unfold tryT; repeat' (first | rfl | split | omega)) rfl (congrArg b2i (pB_eq (by unfold okT; constructor <;> intro h <;> first | exact Or.inl ⟨by omega, h⟩ | (rcases h with h | h | h | h | h | h; exact h.2; all_goals (exfalso; omega)))))
  · refine rr_tabIn F (tgt := 90) 4 dX7_tries_25 ⟨by omega, by omega⟩ (by omega) (by omega) rfl rfl ?_
    refine lv_iload_n F.1 F.2.1 dX7_tries_90 rfl (lv_at hl 2 rfl) ?_
    refine rr_iconst F dX7_tries_91 ?_
    refine rr_bipush F dX7_tries_92 (by decide) ?_
    refine rr_rdS (rest := []) F hK (c_X7_in l D cy (x % 1000) 1 50 (by first | assumption | omega | exact ⟨by omega, by omega⟩) (by first | assumption | omega | exact ⟨by omega, by omega⟩) (by first | assumption | omega | exact ⟨by omega, by omega⟩)) (hP.sub [] rfl) sf_X7_in tw921 ⟨Nat.le_of_ble_eq_true rfl, Nat.le_of_ble_eq_true rfl⟩ hl rfl (Nat.le_of_ble_eq_true rfl) dX7_tries_94 ⟨Nat.zero_le _, Nat.zero_le _⟩ ?_
    refine rr_ifP_eq F (tgt := 115) dX7_tries_97 (by decide) (fun c_97 => ?_) (fun c_97 => ?_)
    · refine rr_iconst F dX7_tries_115 ?_
      exact rr_wzret F hr hlocks (b := false) dX7_tries_116 hP hS (by unfold tryT; repeat' (first | rfl | split | omega)) rfl (b2i_f (fun h => by unfold okT at h; rcases h with h | h | h | h | h | h <;> omega))
    · refine lv_aload_n F.1 F.2.1 dX7_tries_100 rfl (lv_at hl 4 rfl) ?_
      refine gf7_2 F hK hP 0 rfl tw876 dX7_tries_101 ?_
      refine lv_iload_n F.1 F.2.1 dX7_tries_104 rfl (lv_at hl 2 rfl) ?_
      refine rr_wrS (rest := []) (wr := [(mo, .inr (7, [vI tr, .ref no, .ref th, .ref pa, vI ss, .ref sl, .ref sv, .ref tx, vI ty]))]) (ws2 := [(mo, .inr (7, [vI tr, .ref no, .ref th, .ref pa, vI ss, .ref sl, .ref sv, .ref tx, vI ty])), (th, .inl (cy 1, 118, .inl (iA (updZ (goR a 0 (x % 1000)) 117 (a 117 + (x % 1000))))))]) F hK (c_X7_goes l D cy th a (x % 1000) (by first | assumption | omega | exact ⟨by omega, by omega⟩) (by first | assumption | omega | exact ⟨by omega, by omega⟩) (by first | assumption | omega | exact ⟨by omega, by omega⟩)) hP hD hS hA sf_X7_goes tw1163 ⟨Nat.le_of_ble_eq_true rfl, Nat.le_of_ble_eq_true rfl⟩ hl rfl (Nat.le_of_ble_eq_true rfl) dX7_tries_105 ⟨Nat.zero_le _, Nat.zero_le _⟩ [1] [0] [0, 1] rfl rfl (by decide) (by decide) (by decide) rfl rfl (by decide) (fun H locs hP hD hS => ?_)
      have hP : va_P D vwCl [(mo, .inr (7, [vI tr, .ref no, .ref th, .ref pa, vI ss, .ref sl, .ref sv, .ref tx, vI ty])), (th, .inl (cy 1, 118, .inl (iA (updZ (goR a 0 (x % 1000)) 117 (a 117 + (x % 1000))))))] H := hP
      have hD : va_D _ [(mo, .inr (7, [vI tr, .ref no, .ref th, .ref pa, vI ss, .ref sl, .ref sv, .ref tx, vI ty])), (th, .inl (cy 1, 118, .inl (iA (updZ (goR a 0 (x % 1000)) 117 (a 117 + (x % 1000))))))] := hD
      have gv := goR_v hM (t := x % 1000)
      refine rr_if_lt F (tgt := 115) dX7_tries_108 (by decide) ⟨by omega, by omega⟩ (fun c_108 => ?_) (fun c_108 => ?_)
      · refine rr_iconst F dX7_tries_115 ?_
        exact rr_wzret F hr hlocks (b := false) dX7_tries_116 hP hS (by unfold tryT; repeat' (first | rfl | split | omega)) rfl (b2i_f (fun h => by unfold okT at h; rcases h with h | h | h | h | h | h <;> omega))
      · refine rr_iconst F dX7_tries_111 ?_
        refine lv_goto (tgt := 116) F.1 F.2.1 dX7_tries_112 (by decide) ?_
        exact rr_wzret F hr hlocks (b := true) dX7_tries_116 hP hS (by unfold tryT; repeat' (first | rfl | split | omega)) rfl (b2i_t (Or.inr (Or.inl (by omega))))
  · refine rr_tabIn F (tgt := 117) 5 dX7_tries_25 ⟨by omega, by omega⟩ (by omega) (by omega) rfl rfl ?_
    refine lv_iload F.1 F.2.1 dX7_tries_117 (lv_at hl 1 rfl) ?_
    refine rr_rdS (rest := []) F hK (c_X7_isWay l D cy ((x % 1000) / 100) (by first | assumption | omega | exact ⟨by omega, by omega⟩)) (hP.sub [] rfl) sf_X7_isWay tw1004 ⟨Nat.le_of_ble_eq_true rfl, Nat.le_of_ble_eq_true rfl⟩ hl rfl (Nat.le_of_ble_eq_true rfl) dX7_tries_119 ⟨Nat.zero_le _, Nat.zero_le _⟩ ?_
    refine rr_ifP_eq F (tgt := 143) dX7_tries_122 (by decide) (fun c_122 => ?_) (fun c_122 => ?_)
    · refine rr_iconst F dX7_tries_143 ?_
      exact rr_wzret F hr hlocks (b := false) dX7_tries_144 hP hS (by unfold tryT; repeat' (first | rfl | split | omega)) rfl (b2i_f (fun h => by unfold okT at h; rcases h with h | h | h | h | h | h <;> omega))
    · refine lv_aload_n F.1 F.2.1 dX7_tries_125 rfl (lv_at hl 4 rfl) ?_
      refine gf7_2 F hK hP 0 rfl tw876 dX7_tries_126 ?_
      refine lv_iload F.1 F.2.1 dX7_tries_129 (lv_at hl 1 rfl) ?_
      refine rr_rdS (rest := []) F hK (c_X7_segments l D cy th a ((x % 1000) / 100) (by first | assumption | omega | exact ⟨by omega, by omega⟩) (by first | assumption | omega | exact ⟨by omega, by omega⟩)) (hP.sub [1] rfl) sf_X7_segments tw1011 ⟨Nat.le_of_ble_eq_true rfl, Nat.le_of_ble_eq_true rfl⟩ hl rfl (Nat.le_of_ble_eq_true rfl) dX7_tries_131 ⟨Nat.zero_le _, Nat.zero_le _⟩ ?_
      have q_131_0 := (cnt_rng (fun u_p => 0 < seg (a 0) (rq a) u_p ((x % 1000) / 100)) (n := a 0) (by omega))
      refine lv_iload F.1 F.2.1 dX7_tries_134 (lv_at hl 0 rfl) ?_
      refine rr_icmp_lt F (tgt := 143) dX7_tries_136 (by decide) ⟨by omega, by omega⟩ ⟨by omega, by omega⟩ (fun c_136 => ?_) (fun c_136 => ?_)
      · refine rr_iconst F dX7_tries_143 ?_
        exact rr_wzret F hr hlocks (b := false) dX7_tries_144 hP hS (by unfold tryT; repeat' (first | rfl | split | omega)) rfl (b2i_f (fun h => by unfold okT at h; rcases h with h | h | h | h | h | h <;> omega))
      · refine rr_iconst F dX7_tries_139 ?_
        refine lv_goto (tgt := 144) F.1 F.2.1 dX7_tries_140 (by decide) ?_
        exact rr_wzret F hr hlocks (b := true) dX7_tries_144 hP hS (by unfold tryT; repeat' (first | rfl | split | omega)) rfl (b2i_t (Or.inr (Or.inr (Or.inl (by omega)))))
  · refine rr_tabIn F (tgt := 145) 6 dX7_tries_25 ⟨by omega, by omega⟩ (by omega) (by omega) rfl rfl ?_
    refine lv_iload F.1 F.2.1 dX7_tries_145 (lv_at hl 1 rfl) ?_
    refine rr_rdS (rest := []) F hK (c_X7_isWay l D cy ((x % 1000) / 100) (by first | assumption | omega | exact ⟨by omega, by omega⟩)) (hP.sub [] rfl) sf_X7_isWay tw1004 ⟨Nat.le_of_ble_eq_true rfl, Nat.le_of_ble_eq_true rfl⟩ hl rfl (Nat.le_of_ble_eq_true rfl) dX7_tries_147 ⟨Nat.zero_le _, Nat.zero_le _⟩ ?_
    refine rr_ifP_eq F (tgt := 171) dX7_tries_150 (by decide) (fun c_150 => ?_) (fun c_150 => ?_)
    · refine rr_iconst F dX7_tries_171 ?_
      exact rr_wzret F hr hlocks (b := false) dX7_tries_172 hP hS (by unfold tryT; repeat' (first | rfl | split | omega)) rfl (b2i_f (fun h => by unfold okT at h; rcases h with h | h | h | h | h | h <;> omega))
    · refine lv_aload_n F.1 F.2.1 dX7_tries_153 rfl (lv_at hl 4 rfl) ?_
      refine gf7_2 F hK hP 0 rfl tw876 dX7_tries_154 ?_
      refine lv_iload F.1 F.2.1 dX7_tries_157 (lv_at hl 1 rfl) ?_
      refine rr_rdS (rest := []) F hK (c_X7_sense l D cy th a ((x % 1000) / 100) (by first | assumption | omega | exact ⟨by omega, by omega⟩) (by first | assumption | omega | exact ⟨by omega, by omega⟩)) (hP.sub [1] rfl) sf_X7_sense tw1017 ⟨Nat.le_of_ble_eq_true rfl, Nat.le_of_ble_eq_true rfl⟩ hl rfl (Nat.le_of_ble_eq_true rfl) dX7_tries_159 ⟨Nat.zero_le _, Nat.zero_le _⟩ ?_
      have q_159_0 := (show 0 ≤ sns (a 0) (rq a) (a 25) (rbl a) (rbc a) ((x % 1000) / 100) ∧ sns (a 0) (rq a) (a 25) (rbl a) (rbc a) ((x % 1000) / 100) ≤ a 0 from cnt_rng _ (by omega))
      refine lv_iload F.1 F.2.1 dX7_tries_162 (lv_at hl 0 rfl) ?_
      refine rr_icmp_lt F (tgt := 171) dX7_tries_164 (by decide) ⟨by omega, by omega⟩ ⟨by omega, by omega⟩ (fun c_164 => ?_) (fun c_164 => ?_)
      · refine rr_iconst F dX7_tries_171 ?_
        exact rr_wzret F hr hlocks (b := false) dX7_tries_172 hP hS (by unfold tryT; repeat' (first | rfl | split | omega)) rfl (b2i_f (fun h => by unfold okT at h; rcases h with h | h | h | h | h | h <;> omega))
      · refine rr_iconst F dX7_tries_167 ?_
        refine lv_goto (tgt := 172) F.1 F.2.1 dX7_tries_168 (by decide) ?_
        exact rr_wzret F hr hlocks (b := true) dX7_tries_172 hP hS (by unfold tryT; repeat' (first | rfl | split | omega)) rfl (b2i_t (Or.inr (Or.inr (Or.inr (Or.inl (by omega))))))
  · refine rr_tabIn F (tgt := 173) 7 dX7_tries_25 ⟨by omega, by omega⟩ (by omega) (by omega) rfl rfl ?_
    refine lv_iload F.1 F.2.1 dX7_tries_173 (lv_at hl 1 rfl) ?_
    refine lv_aload_n F.1 F.2.1 dX7_tries_175 rfl (lv_at hl 4 rfl) ?_
    refine gf7_2 F hK hP 0 rfl tw876 dX7_tries_176 ?_
    refine rr_bipush F dX7_tries_179 (by decide) ?_
    refine rr_iald F hK hP 1 rfl (by omega) (by omega) (by decide) dX7_tries_181 ?_
    refine rr_icmp_ge F (tgt := 204) dX7_tries_182 (by decide) ⟨by omega, by omega⟩ ⟨by omega, by omega⟩ (fun c_182 => ?_) (fun c_182 => ?_)
    · refine rr_iconst F dX7_tries_204 ?_
      exact rr_wzret F hr hlocks (b := false) dX7_tries_205 hP hS (by unfold tryT; repeat' (first | rfl | split | omega)) rfl (b2i_f (fun h => by unfold okT at h; rcases h with h | h | h | h | h | h <;> omega))
    · refine lv_aload_n F.1 F.2.1 dX7_tries_185 rfl (lv_at hl 4 rfl) ?_
      refine gf7_2 F hK hP 0 rfl tw876 dX7_tries_186 ?_
      refine lv_iload F.1 F.2.1 dX7_tries_189 (lv_at hl 1 rfl) ?_
      refine rr_iconst F dX7_tries_191 ?_
      refine rr_rdS (rest := []) F hK (c_X7_known l D cy th a ((x % 1000) / 100) 0 (by first | assumption | omega | exact ⟨by omega, by omega⟩) (by first | assumption | omega | exact ⟨by omega, by omega⟩) (by first | assumption | omega | exact ⟨by omega, by omega⟩)) (hP.sub [1] rfl) sf_X7_known tw1082 ⟨Nat.le_of_ble_eq_true rfl, Nat.le_of_ble_eq_true rfl⟩ hl rfl (Nat.le_of_ble_eq_true rfl) dX7_tries_192 ⟨Nat.zero_le _, Nat.zero_le _⟩ ?_
      have q_192_0 := (show 0 ≤ knb (a 0) (rq a) (a 25) (rbl a) (rbc a) (a (97 + 5 * ((x % 1000) / 100) + 1)) (a (97 + 5 * ((x % 1000) / 100) + 4)) 0 ∧ knb (a 0) (rq a) (a 25) (rbl a) (rbc a) (a (97 + 5 * ((x % 1000) / 100) + 1)) (a (97 + 5 * ((x % 1000) / 100) + 4)) 0 ≤ a 0 from cnt_rng _ (by omega))
      refine lv_iload F.1 F.2.1 dX7_tries_195 (lv_at hl 0 rfl) ?_
      refine rr_icmp_lt F (tgt := 204) dX7_tries_197 (by decide) ⟨by omega, by omega⟩ ⟨by omega, by omega⟩ (fun c_197 => ?_) (fun c_197 => ?_)
      · refine rr_iconst F dX7_tries_204 ?_
        exact rr_wzret F hr hlocks (b := false) dX7_tries_205 hP hS (by unfold tryT; repeat' (first | rfl | split | omega)) rfl (b2i_f (fun h => by unfold okT at h; rcases h with h | h | h | h | h | h <;> omega))
      · refine rr_iconst F dX7_tries_200 ?_
        refine lv_goto (tgt := 205) F.1 F.2.1 dX7_tries_201 (by decide) ?_
        exact rr_wzret F hr hlocks (b := true) dX7_tries_205 hP hS (by unfold tryT; repeat' (first | rfl | split | omega)) rfl (b2i_t (Or.inr (Or.inr (Or.inr (Or.inr (Or.inl (by omega)))))))
  · refine rr_tabIn F (tgt := 206) 8 dX7_tries_25 ⟨by omega, by omega⟩ (by omega) (by omega) rfl rfl ?_
    refine lv_iload F.1 F.2.1 dX7_tries_206 (lv_at hl 1 rfl) ?_
    refine rr_rdS (rest := []) F hK (c_X7_isWay l D cy ((x % 1000) / 100) (by first | assumption | omega | exact ⟨by omega, by omega⟩)) (hP.sub [] rfl) sf_X7_isWay tw1004 ⟨Nat.le_of_ble_eq_true rfl, Nat.le_of_ble_eq_true rfl⟩ hl rfl (Nat.le_of_ble_eq_true rfl) dX7_tries_208 ⟨Nat.zero_le _, Nat.zero_le _⟩ ?_
    refine rr_ifP_eq F (tgt := 232) dX7_tries_211 (by decide) (fun c_211 => ?_) (fun c_211 => ?_)
    · refine rr_iconst F dX7_tries_232 ?_
      exact rr_wzret F hr hlocks (b := false) dX7_tries_233 hP hS (by unfold tryT; repeat' (first | rfl | split | omega)) rfl (b2i_f (fun h => by unfold okT at h; rcases h with h | h | h | h | h | h <;> omega))
    · refine lv_aload_n F.1 F.2.1 dX7_tries_214 rfl (lv_at hl 4 rfl) ?_
      refine gf7_2 F hK hP 0 rfl tw876 dX7_tries_215 ?_
      refine lv_iload F.1 F.2.1 dX7_tries_218 (lv_at hl 1 rfl) ?_
      refine rr_rdS (rest := []) F hK (c_X7_readings l D cy th a ((x % 1000) / 100) (by first | assumption | omega | exact ⟨by omega, by omega⟩) (by first | assumption | omega | exact ⟨by omega, by omega⟩)) (hP.sub [1] rfl) sf_X7_readings tw1029 ⟨Nat.le_of_ble_eq_true rfl, Nat.le_of_ble_eq_true rfl⟩ hl rfl (Nat.le_of_ble_eq_true rfl) dX7_tries_220 ⟨Nat.zero_le _, Nat.zero_le _⟩ ?_
      have q_220_0 := (show 0 ≤ rdg (a 0) (rq a) (a 25) (rbl a) (rbc a) ((x % 1000) / 100) ∧ rdg (a 0) (rq a) (a 25) (rbl a) (rbc a) ((x % 1000) / 100) ≤ 1000000 by have pf := prd_fit (q := rq a) (bl := rbl a) (bc := rbc a) (d := ((x % 1000) / 100)) (n := a 0) (nw := a 25) ⟨by omega, by omega⟩ ⟨by omega, by omega⟩ (show 0 ≤ a 0 by omega) (Int.le_refl (a 0)); unfold rdg; split <;> (try split) <;> omega)
      refine lv_iload F.1 F.2.1 dX7_tries_223 (lv_at hl 0 rfl) ?_
      refine rr_icmp_lt F (tgt := 232) dX7_tries_225 (by decide) ⟨by omega, by omega⟩ ⟨by omega, by omega⟩ (fun c_225 => ?_) (fun c_225 => ?_)
      · refine rr_iconst F dX7_tries_232 ?_
        exact rr_wzret F hr hlocks (b := false) dX7_tries_233 hP hS (by unfold tryT; repeat' (first | rfl | split | omega)) rfl (b2i_f (fun h => by unfold okT at h; rcases h with h | h | h | h | h | h <;> omega))
      · refine rr_iconst F dX7_tries_228 ?_
        refine lv_goto (tgt := 233) F.1 F.2.1 dX7_tries_229 (by decide) ?_
        exact rr_wzret F hr hlocks (b := true) dX7_tries_233 hP hS (by unfold tryT; repeat' (first | rfl | split | omega)) rfl (b2i_t (Or.inr (Or.inr (Or.inr (Or.inr (Or.inr (by omega)))))))
