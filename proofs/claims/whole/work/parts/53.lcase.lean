-- the law's cases: laid by law.py
theorem inL_r {z : Int} (h : inR z) : inL z := ⟨by have := h.1; omega, by have := h.2; omega⟩
theorem lcm_r (a b : Int) : inR (lcm a b) := by have := lcm_spec a b; exact ⟨by omega, by omega⟩
theorem sfw_append : SFW yL_append cL_append 4 (some FieldType.int) [(0, 9, 12, 13), (0, 9, 15, 15)] 3 := ⟨tw264, tw0, tw265, by decide +kernel, by decide +kernel, by decide +kernel⟩
theorem sfw_about : SFW yL_about cL_about 4 (some FieldType.int) [(0, 9, 12, 13)] 3 := ⟨tw365, tw0, tw366, by decide +kernel, by decide +kernel, by decide +kernel⟩
theorem sfw_at : SFW yL_at cL_at 4 (some FieldType.int) [(0, 9, 12, 23)] 3 := ⟨tw398, tw0, tw399, by decide +kernel, by decide +kernel, by decide +kernel⟩
theorem sfw_letter : SFW yL_letter cL_letter 5 (some FieldType.int) [(0, 10, 13, 23), (0, 10, 17, 13)] 4 := ⟨tw427, tw0, tw428, by decide +kernel, by decide +kernel, by decide +kernel⟩
theorem sfw_reading : SFW yL_reading cL_reading 5 (some FieldType.int) [(0, 10, 13, 23), (0, 10, 17, 13)] 4 := ⟨tw442, tw0, tw443, by decide +kernel, by decide +kernel, by decide +kernel⟩
theorem sfw_segment : SFW yL_segment cL_segment 6 (some FieldType.int) [(0, 12, 15, 23), (0, 12, 19, 13)] 5 := ⟨tw462, tw0, tw463, by decide +kernel, by decide +kernel, by decide +kernel⟩
theorem sfw_find : SFW yL_find cL_find 6 (some FieldType.int) [(0, 12, 15, 23), (0, 12, 19, 13)] 5 := ⟨tw481, tw0, tw482, by decide +kernel, by decide +kernel, by decide +kernel⟩
theorem sfw_walker : SFW yL_walker cL_walker 5 (some FieldType.int) [(0, 10, 13, 23), (0, 10, 17, 13)] 4 := ⟨tw494, tw0, tw495, by decide +kernel, by decide +kernel, by decide +kernel⟩
theorem sfw_ring : SFW yL_ring cL_ring 3 (some FieldType.int) [(0, 8, 11, 15)] 2 := ⟨tw527, tw0, tw528, by decide +kernel, by decide +kernel, by decide +kernel⟩
theorem sfw_addWord : SFW yL_addWord cL_addWord 3 (some FieldType.int) [(0, 8, 11, 15)] 2 := ⟨tw570, tw0, tw571, by decide +kernel, by decide +kernel, by decide +kernel⟩
theorem sfw_removeWord : SFW yL_removeWord cL_removeWord 4 (some FieldType.int) [(0, 9, 12, 23)] 3 := ⟨tw589, tw0, tw590, by decide +kernel, by decide +kernel, by decide +kernel⟩
theorem sfw_carve : SFW yL_carve cL_carve 5 (some FieldType.int) [(0, 10, 13, 23), (0, 10, 17, 13)] 4 := ⟨tw601, tw0, tw602, by decide +kernel, by decide +kernel, by decide +kernel⟩
theorem sfw_wear : SFW yL_wear cL_wear 4 (some FieldType.int) [(0, 9, 12, 23)] 3 := ⟨tw626, tw0, tw627, by decide +kernel, by decide +kernel, by decide +kernel⟩
theorem sfw_insert : SFW yL_insert cL_insert 5 (some FieldType.int) [(0, 10, 13, 23), (0, 10, 17, 13), (0, 10, 21, 15)] 4 := ⟨tw639, tw0, tw640, by decide +kernel, by decide +kernel, by decide +kernel⟩
theorem sfw_erase : SFW yL_erase cL_erase 4 (some FieldType.int) [(0, 9, 12, 23)] 3 := ⟨tw661, tw0, tw662, by decide +kernel, by decide +kernel, by decide +kernel⟩
theorem sfw_addWalker : SFW yL_addWalker cL_addWalker 7 (some FieldType.int) [(0, 14, 17, 23), (0, 14, 21, 13), (0, 14, 25, 15)] 6 := ⟨tw676, tw0, tw677, by decide +kernel, by decide +kernel, by decide +kernel⟩
theorem sfw_turn : SFW yL_turn cL_turn 4 (some FieldType.int) [(0, 9, 12, 23)] 3 := ⟨tw707, tw0, tw708, by decide +kernel, by decide +kernel, by decide +kernel⟩
theorem sfw_go : SFW yL_go cL_go 4 (some FieldType.int) [(0, 9, 12, 13)] 3 := ⟨tw718, tw0, tw719, by decide +kernel, by decide +kernel, by decide +kernel⟩
theorem sfw_undo : SFW yL_undo cL_undo 3 (some FieldType.int) [(0, 8, 11, 15)] 2 := ⟨tw747, tw0, tw748, by decide +kernel, by decide +kernel, by decide +kernel⟩
theorem sfw_meet : SFW yL_meet cL_meet 5 (some FieldType.int) [(0, 10, 13, 23), (0, 10, 17, 15)] 4 := ⟨tw763, tw0, tw764, by decide +kernel, by decide +kernel, by decide +kernel⟩
theorem sfw_seesAll : SFW yL_seesAll cL_seesAll 4 (some FieldType.int) [(0, 9, 12, 23)] 3 := ⟨tw776, tw0, tw777, by decide +kernel, by decide +kernel, by decide +kernel⟩
theorem sfw_ifWorn : SFW yL_ifWorn cL_ifWorn 5 (some FieldType.int) [(0, 10, 13, 23)] 4 := ⟨tw787, tw0, tw788, by decide +kernel, by decide +kernel, by decide +kernel⟩
theorem sfw_bestDivider : SFW yL_bestDivider cL_bestDivider 5 (some FieldType.int) [(0, 10, 13, 23), (0, 10, 17, 13)] 4 := ⟨tw795, tw0, tw796, by decide +kernel, by decide +kernel, by decide +kernel⟩
theorem sfw_canBe : SFW yL_canBe cL_canBe 5 (some FieldType.int) [(0, 10, 13, 23)] 4 := ⟨tw804, tw0, tw805, by decide +kernel, by decide +kernel, by decide +kernel⟩
theorem sfw_runScript : SFW yL_runScript cL_runScript 6 (some FieldType.int) [(0, 11, 14, 13)] 4 := ⟨tw820, tw0, tw821, by decide +kernel, by decide +kernel, by decide +kernel⟩
theorem sfw_simulate : SFW yL_simulate cL_simulate 6 (some FieldType.int) [(0, 11, 14, 13)] 4 := ⟨tw836, tw0, tw837, by decide +kernel, by decide +kernel, by decide +kernel⟩
theorem sfw_save : SFW yL_save cL_save 4 (some FieldType.int) [(0, 9, 12, 23)] 3 := ⟨tw849, tw0, tw850, by decide +kernel, by decide +kernel, by decide +kernel⟩
theorem sfw_restore : SFW yL_restore cL_restore 4 (some FieldType.int) [(0, 9, 12, 23), (0, 9, 15, 15)] 3 := ⟨tw857, tw0, tw858, by decide +kernel, by decide +kernel, by decide +kernel⟩
set_option maxRecDepth 100000 in
set_option maxHeartbeats 8000000 in
theorem lc_append {p : Program} {l : Launch} {e : Env} {s : State} {m : MethodId} {args : Array Value} {below : List Frame} {meth : Method} {c : Code} {Q : State → Prop} {b L : Nat} {xs : Nat → Int32} {D : va_G} {cy : Nat → ClassId} {sa : Nat → Nat} {u w : NU} {out : Nat} (hnt : l.stackTraces = false) (F : FX p m c cL_law 7 s args RL) (hK : KK D cy s) (hX : XK sa s) (hZ0 : ZK (fun q => s.heap.size ≤ q) s s.heap) (hxs : va_X b L xs s s.heap) (hb : b < s.heap.size) (hL : L ≤ 2560) {N : Int} {tl : Int} {tc : Int → Int} {ol : Int} {ct : Int} {tr : Int} {fv : Int → Int} {a : Int → Int} {G : Int → Int → Int} {ak : Int → Int} {Gk : Int → Int → Int} {As : Nat → Int → Int} {Gs : Nat → Int → Int → Int} {Ah : Nat → Int → Int} {Gh : Nat → Int → Int → Int} {th : Int → Int} {ap : Int → Int} {asl : Int → Int} {of : Nat → Int64} (hI : INV N tl tc ol ct fv a G As Gs Ah Gh ap asl) (hN : 0 ≤ N ∧ N ≤ 80000000) {i : Int} (hi : 0 ≤ i ∧ i + 5 ≤ L) {H : Heap} {locs : List Loc} {cells slots : Nat} {ls : Array Slot} (hP : va_P D vwCl (LW cy u w out tl tc ol ct tr fv a G ak Gk As Gs Ah Gh th ap asl of tl tc ct a fv) H) (hD : va_D (fun q => s.heap.size ≤ q) (LW cy u w out tl tc ol ct tr fv a G ak Gk As Gs Ah Gh th ap asl of tl tc ct a fv)) (hS : va_S (fun q => s.heap.size ≤ q) s.heap H locs) (hl : lv_has ls 7 [(4, vI i), (3, .ref out), (2, .ref (w 0 0)), (1, .ref (u 0 0)), (0, .ref b)]) (hc : cells + 1 ≤ 601024 ∧ slots + 6 ≤ 7293033) (kk : LK p l e s m args below meth c D cy u w out b (N + 50) i (cells + 1) (slots + 6) Q) : W p l e room_1 s m args below meth c H locs cells slots Q (F0 m 176 ls []) := by
  have hT := hI.1
  obtain ⟨hZ, hSV, hsp0, hsp1⟩ := hI.2.1
  have hM := SB.mr hZ
  have hn0 := hM.n
  have hw0 := hM.nw
  have hc0 := hM.wc
  have hol := hI.2.2.1
  have hct := hI.2.2.2.1
  have hbA : ¬ (fun q => s.heap.size ≤ q) b := Nat.not_le.mpr hb
  have hA : ∀ q, s.heap.size ≤ q → (fun q => s.heap.size ≤ q) q := fun q h => h
  have hZ1 : ZK nA s H := (hZ0.kept (fun a h1 h2 => hS.2.1 a h1 h2)).narrow (fun _ h => h.elim)
  refine lv_aload_n F.1 F.2.1 dL_law_176 rfl (lv_at hl 3 rfl) ?_
  refine lv_aload_n F.1 F.2.1 dL_law_177 rfl (lv_at hl 4 rfl) ?_
  refine lv_iload F.1 F.2.1 dL_law_178 (lv_at hl 0 rfl) ?_
  refine rr_iconst F dL_law_180 ?_
  refine rr_iadd F (z := i + 1) dL_law_181 rfl ?_
  refine rr_sld F (A := fun q => s.heap.size ≤ q) hxs hb hbA hS (by omega) (by omega) hL dL_law_182 ?_
  refine lv_aload_n F.1 F.2.1 dL_law_183 rfl (lv_at hl 1 rfl) ?_
  have hb_1 := XI_b xs (i + 1)
  by_cases hx0 : 0 ≤ (XI xs (i + 1)) ∧ (XI xs (i + 1)) ≤ 255
  · by_cases hx1 : tl < 40
    · refine W.widen (k := cells + 1) (n := slots + 6) (by omega) (by omega) ?_
      have hvr : inR (tl + 1) := ⟨by omega, by omega⟩
      refine rr_wwS (rest := []) F hK (w_append l D cy (u 0 0) (u 2 0) (u 3 0) (u 4 0) (u 0 1) (u 0 2) (u 1 0) (u 1 1) tl tc (XI xs (i + 1)) out of hT (by first | assumption | omega | exact ⟨by omega, by omega⟩) (by first | assumption | omega | exact ⟨by omega, by omega⟩) hvr) hP hD hS hA sfw_append tw263 ⟨Nat.le_of_ble_eq_true rfl, Nat.le_of_ble_eq_true rfl⟩ hl rfl (Nat.le_of_ble_eq_true rfl) dL_law_184 ⟨by show cells + 1 ≤ 601024; omega, by show slots + 6 ≤ 7293033; omega⟩ (pm_cTO cy u w out tl tc ol ct tr fv a G ak Gk As Gs Ah Gh th ap asl of tl tc ct a fv) rfl (fun H locs hP hD hS _ => ?_)
      have hP : va_P D vwCl (LW cy u w out (tl + 1) (updZ tc tl (XI xs (i + 1))) ol ct tr fv a G ak Gk As Gs Ah Gh th ap asl (vp_updL of 0 (lI (tl + 1))) tl tc ct a fv) H := hP.perm ((pm_cTO cy u w out (tl + 1) (updZ tc tl (XI xs (i + 1))) ol ct tr fv a G ak Gk As Gs Ah Gh th ap asl (vp_updL of 0 (lI (tl + 1))) tl tc ct a fv).symm)
      have hD : va_D (fun q => s.heap.size ≤ q) (LW cy u w out (tl + 1) (updZ tc tl (XI xs (i + 1))) ol ct tr fv a G ak Gk As Gs Ah Gh th ap asl (vp_updL of 0 (lI (tl + 1))) tl tc ct a fv) := hD.perm ((pm_cTO cy u w out (tl + 1) (updZ tc tl (XI xs (i + 1))) ol ct tr fv a G ak Gk As Gs Ah Gh th ap asl (vp_updL of 0 (lI (tl + 1))) tl tc ct a fv).symm)
      refine lv_istore (lv' := [(5, vI 0), (4, vI i), (3, .ref out), (2, .ref (w 0 0)), (1, .ref (u 0 0)), (0, .ref b)]) F.1 F.2.1 dL_law_187 hl (by decide) rfl (fun ls hl => ?_)
      refine lv_aload_n F.1 F.2.1 dL_law_189 rfl (lv_at hl 3 rfl) ?_
      refine lv_aload_n F.1 F.2.1 dL_law_190 rfl (lv_at hl 5 rfl) ?_
      refine lv_iload F.1 F.2.1 dL_law_191 (lv_at hl 1 rfl) ?_
      refine rr_iconst F dL_law_193 ?_
      refine rr_iadd F (z := i + 1) dL_law_194 rfl ?_
      refine rr_sld F (A := fun q => s.heap.size ≤ q) hxs hb hbA hS (by omega) (by omega) hL dL_law_195 ?_
      refine rr_wrVp (rest := []) F hK (c_X7_append l D cy (w 0 0) (w 0 1) (w 0 2) (w 0 3) (w 0 4) (w 0 5) (w 0 6) tr ct tl tc (XI xs (i + 1)) hT (XI_r _ _) (by first | assumption | omega | exact ⟨by omega, by omega⟩) (by first | assumption | omega | exact ⟨by omega, by omega⟩)) hP hD hS hA sf_X7_append tw917 7 rfl rfl ⟨Nat.le_of_ble_eq_true rfl, Nat.le_of_ble_eq_true rfl⟩ hl rfl (Nat.le_of_ble_eq_true rfl) dL_law_196 ⟨by show cells + 1 ≤ 601024; omega, by show slots + 6 ≤ 7293033; omega⟩ (pm_mT cy u w out (tl + 1) (updZ tc tl (XI xs (i + 1))) ol ct tr fv a G ak Gk As Gs Ah Gh th ap asl (vp_updL of 0 (lI (tl + 1))) tl tc ct a fv) rfl (fun H locs hP hD hS _ => ?_)
      have hP : va_P D vwCl (LW cy u w out (tl + 1) (updZ tc tl (XI xs (i + 1))) ol ct 0 fv a G ak Gk As Gs Ah Gh th ap asl (vp_updL of 0 (lI (tl + 1))) (tl + 1) (updZ tc tl (XI xs (i + 1))) ct a fv) H := hP.perm ((pm_mT cy u w out (tl + 1) (updZ tc tl (XI xs (i + 1))) ol ct 0 fv a G ak Gk As Gs Ah Gh th ap asl (vp_updL of 0 (lI (tl + 1))) (tl + 1) (updZ tc tl (XI xs (i + 1))) ct a fv).symm)
      have hD : va_D (fun q => s.heap.size ≤ q) (LW cy u w out (tl + 1) (updZ tc tl (XI xs (i + 1))) ol ct 0 fv a G ak Gk As Gs Ah Gh th ap asl (vp_updL of 0 (lI (tl + 1))) (tl + 1) (updZ tc tl (XI xs (i + 1))) ct a fv) := hD.perm ((pm_mT cy u w out (tl + 1) (updZ tc tl (XI xs (i + 1))) ol ct 0 fv a G ak Gk As Gs Ah Gh th ap asl (vp_updL of 0 (lI (tl + 1))) (tl + 1) (updZ tc tl (XI xs (i + 1))) ct a fv).symm)
      have hP : va_P D vwCl (LW cy u w out (tl + 1) (updZ tc tl (XI xs (i + 1))) ol ct 0 fv a G ak Gk As Gs Ah Gh th ap asl (vp_updL of 0 (lI (tl + 1))) (tl + 1) (updZ tc tl (XI xs (i + 1))) ct a fv) H := hP
      have hD : va_D (fun q => s.heap.size ≤ q) (LW cy u w out (tl + 1) (updZ tc tl (XI xs (i + 1))) ol ct 0 fv a G ak Gk As Gs Ah Gh th ap asl (vp_updL of 0 (lI (tl + 1))) (tl + 1) (updZ tc tl (XI xs (i + 1))) ct a fv) := hD
      refine lv_istore (lv' := [(6, vI (tl + 1)), (5, vI 0), (4, vI i), (3, .ref out), (2, .ref (w 0 0)), (1, .ref (u 0 0)), (0, .ref b)]) F.1 F.2.1 dL_law_199 hl (by decide) rfl (fun ls hl => ?_)
      refine lv_aload_n F.1 F.2.1 dL_law_201 rfl (lv_at hl 4 rfl) ?_
      refine rr_rdVp (rest := []) F hK (c_X7_thrown l D cy (w 0 0) (w 0 1) (w 0 2) (w 0 3) (w 0 4) (w 0 5) (w 0 6) 0 ct (tl + 1)) hP (pm_m0 cy u w out (tl + 1) (updZ tc tl (XI xs (i + 1))) ol ct 0 fv a G ak Gk As Gs Ah Gh th ap asl (vp_updL of 0 (lI (tl + 1))) (tl + 1) (updZ tc tl (XI xs (i + 1))) ct a fv) sf_X7_thrown tw902 7 rfl rfl ⟨Nat.le_of_ble_eq_true rfl, Nat.le_of_ble_eq_true rfl⟩ hl rfl (Nat.le_of_ble_eq_true rfl) dL_law_202 ⟨by show cells + 1 ≤ 601024; omega, by show slots + 6 ≤ 7293033; omega⟩ ?_
      refine lv_iload F.1 F.2.1 dL_law_205 (lv_at hl 1 rfl) ?_
      refine rr_icmp_eq F (tgt := 212) dL_law_207 (by decide) ⟨by omega, by omega⟩ ⟨by omega, by omega⟩ (fun _ => ?_) (fun z => absurd rfl z)
      refine lv_iload F.1 F.2.1 dL_law_212 (lv_at hl 1 rfl) ?_
      refine rr_if_ne F (tgt := 229) dL_law_214 (by decide) ⟨by omega, by omega⟩ (fun z => absurd rfl z) (fun _ => ?_)
      refine lv_aload_n F.1 F.2.1 dL_law_217 rfl (lv_at hl 3 rfl) ?_
      refine rr_iconst F dL_law_218 ?_
      refine rr_lald0 F hK (hP.perm (pm_o cy u w out (tl + 1) (updZ tc tl (XI xs (i + 1))) ol ct 0 fv a G ak Gk As Gs Ah Gh th ap asl (vp_updL of 0 (lI (tl + 1))) (tl + 1) (updZ tc tl (XI xs (i + 1))) ct a fv)) 0 rfl dL_law_219 ?_
      refine lv_iload F.1 F.2.1 dL_law_220 (lv_at hl 0 rfl) ?_
      refine rr_i2l F dL_law_222 hvr ?_
      refine rr_lcmp F (a := tl + 1) (b := tl + 1) dL_law_223 (inL_r hvr) (inL_r hvr) ?_
      refine rr_if_eq F (tgt := 229) dL_law_224 (by decide) (lcm_r _ _) (fun _ => ?_) (fun z => absurd ((lcm_spec _ _).2.1.mpr rfl) z)
      refine lv_goto (tgt := 2055) F.1 F.2.1 dL_law_229 (by decide) ?_
      exact kk _ _ _ _ _ _ _ _ _ _ _ _ _ _ _ _ _ _ H locs ls ((hI.text ⟨by omega, CH_upd hT.2 (by omega)⟩).mono (by omega)) hP hD hS (lv_sub hl [2, 3, 4, 5, 6] rfl)
    · refine rr_twS (rest := []) F hK hX hZ1 (r_append_31 l hnt D cy sa (u 0 0) (u 2 0) (u 3 0) (u 4 0) (u 0 1) (u 0 2) (u 1 0) (u 1 1) tl tc (XI xs (i + 1)) out hT (by first | assumption | omega | exact ⟨by omega, by omega⟩) (by first | assumption | omega | exact ⟨by omega, by omega⟩)) hP hS sfw_append tw263 ⟨Nat.le_of_ble_eq_true rfl, Nat.le_of_ble_eq_true rfl⟩ hl rfl (Nat.le_of_ble_eq_true rfl) dL_law_184 ⟨by show cells + 1 ≤ 601024; omega, by show slots + 6 ≤ 7293033; omega⟩ (pm_cT cy u w out tl tc ol ct tr fv a G ak Gk As Gs Ah Gh th ap asl of tl tc ct a fv) (fun H locs hP hS _ => ?_)
      refine lv_istore (lv' := [(5, vI 2), (4, vI i), (3, .ref out), (2, .ref (w 0 0)), (1, .ref (u 0 0)), (0, .ref b)]) F.1 F.2.1 dL_law_187 hl (by decide) rfl (fun ls hl => ?_)
      refine lv_aload_n F.1 F.2.1 dL_law_189 rfl (lv_at hl 3 rfl) ?_
      refine lv_aload_n F.1 F.2.1 dL_law_190 rfl (lv_at hl 5 rfl) ?_
      refine lv_iload F.1 F.2.1 dL_law_191 (lv_at hl 1 rfl) ?_
      refine rr_iconst F dL_law_193 ?_
      refine rr_iadd F (z := i + 1) dL_law_194 rfl ?_
      refine rr_sld F (A := fun q => s.heap.size ≤ q) hxs hb hbA hS (by omega) (by omega) hL dL_law_195 ?_
      have hcode : (if 0 ≤ (XI xs (i + 1)) ∧ (XI xs (i + 1)) ≤ 255 then 2 else 1 : Int) = 2 := by first | rfl | ((repeat' split) <;> first | rfl | omega)
      refine rr_wrVp (rest := []) F hK (n_X7_append l D cy (w 0 0) (w 0 1) (w 0 2) (w 0 3) (w 0 4) (w 0 5) (w 0 6) tr ct tl tc (XI xs (i + 1)) hT (XI_r _ _) (by first | assumption | omega)) hP hD hS hA sf_X7_append tw917 7 rfl rfl ⟨Nat.le_of_ble_eq_true rfl, Nat.le_of_ble_eq_true rfl⟩ hl rfl (Nat.le_of_ble_eq_true rfl) dL_law_196 ⟨by show cells + 1 ≤ 601024; omega, by show slots + 6 ≤ 7293033; omega⟩ (pm_mT cy u w out tl tc ol ct tr fv a G ak Gk As Gs Ah Gh th ap asl of tl tc ct a fv) rfl (fun H locs hP hD hS _ => ?_)
      have hP : va_P D vwCl (LW cy u w out tl tc ol ct (if 0 ≤ (XI xs (i + 1)) ∧ (XI xs (i + 1)) ≤ 255 then 2 else 1) fv a G ak Gk As Gs Ah Gh th ap asl of tl tc ct a fv) H := hP.perm ((pm_mT cy u w out tl tc ol ct (if 0 ≤ (XI xs (i + 1)) ∧ (XI xs (i + 1)) ≤ 255 then 2 else 1) fv a G ak Gk As Gs Ah Gh th ap asl of tl tc ct a fv).symm)
      have hD : va_D (fun q => s.heap.size ≤ q) (LW cy u w out tl tc ol ct (if 0 ≤ (XI xs (i + 1)) ∧ (XI xs (i + 1)) ≤ 255 then 2 else 1) fv a G ak Gk As Gs Ah Gh th ap asl of tl tc ct a fv) := hD.perm ((pm_mT cy u w out tl tc ol ct (if 0 ≤ (XI xs (i + 1)) ∧ (XI xs (i + 1)) ≤ 255 then 2 else 1) fv a G ak Gk As Gs Ah Gh th ap asl of tl tc ct a fv).symm)
      rw [hcode] at hP hD
      refine lv_istore (lv' := [(6, vI 0), (5, vI 2), (4, vI i), (3, .ref out), (2, .ref (w 0 0)), (1, .ref (u 0 0)), (0, .ref b)]) F.1 F.2.1 dL_law_199 hl (by decide) rfl (fun ls hl => ?_)
      refine lv_aload_n F.1 F.2.1 dL_law_201 rfl (lv_at hl 4 rfl) ?_
      refine rr_rdVp (rest := []) F hK (c_X7_thrown l D cy (w 0 0) (w 0 1) (w 0 2) (w 0 3) (w 0 4) (w 0 5) (w 0 6) 2 ct tl) hP (pm_m0 cy u w out tl tc ol ct 2 fv a G ak Gk As Gs Ah Gh th ap asl of tl tc ct a fv) sf_X7_thrown tw902 7 rfl rfl ⟨Nat.le_of_ble_eq_true rfl, Nat.le_of_ble_eq_true rfl⟩ hl rfl (Nat.le_of_ble_eq_true rfl) dL_law_202 ⟨by show cells + 1 ≤ 601024; omega, by show slots + 6 ≤ 7293033; omega⟩ ?_
      refine lv_iload F.1 F.2.1 dL_law_205 (lv_at hl 1 rfl) ?_
      refine rr_icmp_eq F (tgt := 212) dL_law_207 (by decide) ⟨by omega, by omega⟩ ⟨by omega, by omega⟩ (fun _ => ?_) (fun z => absurd rfl z)
      refine lv_iload F.1 F.2.1 dL_law_212 (lv_at hl 1 rfl) ?_
      refine rr_if_ne F (tgt := 229) dL_law_214 (by decide) ⟨by omega, by omega⟩ (fun _ => ?_) (fun z => by omega)
      refine lv_goto (tgt := 2055) F.1 F.2.1 dL_law_229 (by decide) ?_
      exact kk _ _ _ _ _ _ _ _ _ _ _ _ _ _ _ _ _ _ H locs ls (hI.mono (by omega)) hP hD hS (lv_sub hl [2, 3, 4, 5, 6] rfl)
  · refine rr_twS (rest := []) F hK hX hZ1 (r_append_11 l hnt D cy sa (u 0 0) (u 1 0) (u 2 0) (u 3 0) (u 4 0) (u 0 1) (u 0 2) (XI xs (i + 1)) out (XI_r _ _) (by first | assumption | omega | exact ⟨by omega, by omega⟩)) hP hS sfw_append tw263 ⟨Nat.le_of_ble_eq_true rfl, Nat.le_of_ble_eq_true rfl⟩ hl rfl (Nat.le_of_ble_eq_true rfl) dL_law_184 ⟨by show cells + 1 ≤ 601024; omega, by show slots + 6 ≤ 7293033; omega⟩ (pm_c0 cy u w out tl tc ol ct tr fv a G ak Gk As Gs Ah Gh th ap asl of tl tc ct a fv) (fun H locs hP hS _ => ?_)
    refine lv_istore (lv' := [(5, vI 1), (4, vI i), (3, .ref out), (2, .ref (w 0 0)), (1, .ref (u 0 0)), (0, .ref b)]) F.1 F.2.1 dL_law_187 hl (by decide) rfl (fun ls hl => ?_)
    refine lv_aload_n F.1 F.2.1 dL_law_189 rfl (lv_at hl 3 rfl) ?_
    refine lv_aload_n F.1 F.2.1 dL_law_190 rfl (lv_at hl 5 rfl) ?_
    refine lv_iload F.1 F.2.1 dL_law_191 (lv_at hl 1 rfl) ?_
    refine rr_iconst F dL_law_193 ?_
    refine rr_iadd F (z := i + 1) dL_law_194 rfl ?_
    refine rr_sld F (A := fun q => s.heap.size ≤ q) hxs hb hbA hS (by omega) (by omega) hL dL_law_195 ?_
    have hcode : (if 0 ≤ (XI xs (i + 1)) ∧ (XI xs (i + 1)) ≤ 255 then 2 else 1 : Int) = 1 := by first | rfl | ((repeat' split) <;> first | rfl | omega)
    refine rr_wrVp (rest := []) F hK (n_X7_append l D cy (w 0 0) (w 0 1) (w 0 2) (w 0 3) (w 0 4) (w 0 5) (w 0 6) tr ct tl tc (XI xs (i + 1)) hT (XI_r _ _) (by first | assumption | omega)) hP hD hS hA sf_X7_append tw917 7 rfl rfl ⟨Nat.le_of_ble_eq_true rfl, Nat.le_of_ble_eq_true rfl⟩ hl rfl (Nat.le_of_ble_eq_true rfl) dL_law_196 ⟨by show cells + 1 ≤ 601024; omega, by show slots + 6 ≤ 7293033; omega⟩ (pm_mT cy u w out tl tc ol ct tr fv a G ak Gk As Gs Ah Gh th ap asl of tl tc ct a fv) rfl (fun H locs hP hD hS _ => ?_)
    have hP : va_P D vwCl (LW cy u w out tl tc ol ct (if 0 ≤ (XI xs (i + 1)) ∧ (XI xs (i + 1)) ≤ 255 then 2 else 1) fv a G ak Gk As Gs Ah Gh th ap asl of tl tc ct a fv) H := hP.perm ((pm_mT cy u w out tl tc ol ct (if 0 ≤ (XI xs (i + 1)) ∧ (XI xs (i + 1)) ≤ 255 then 2 else 1) fv a G ak Gk As Gs Ah Gh th ap asl of tl tc ct a fv).symm)
    have hD : va_D (fun q => s.heap.size ≤ q) (LW cy u w out tl tc ol ct (if 0 ≤ (XI xs (i + 1)) ∧ (XI xs (i + 1)) ≤ 255 then 2 else 1) fv a G ak Gk As Gs Ah Gh th ap asl of tl tc ct a fv) := hD.perm ((pm_mT cy u w out tl tc ol ct (if 0 ≤ (XI xs (i + 1)) ∧ (XI xs (i + 1)) ≤ 255 then 2 else 1) fv a G ak Gk As Gs Ah Gh th ap asl of tl tc ct a fv).symm)
    rw [hcode] at hP hD
    refine lv_istore (lv' := [(6, vI 0), (5, vI 1), (4, vI i), (3, .ref out), (2, .ref (w 0 0)), (1, .ref (u 0 0)), (0, .ref b)]) F.1 F.2.1 dL_law_199 hl (by decide) rfl (fun ls hl => ?_)
    refine lv_aload_n F.1 F.2.1 dL_law_201 rfl (lv_at hl 4 rfl) ?_
    refine rr_rdVp (rest := []) F hK (c_X7_thrown l D cy (w 0 0) (w 0 1) (w 0 2) (w 0 3) (w 0 4) (w 0 5) (w 0 6) 1 ct tl) hP (pm_m0 cy u w out tl tc ol ct 1 fv a G ak Gk As Gs Ah Gh th ap asl of tl tc ct a fv) sf_X7_thrown tw902 7 rfl rfl ⟨Nat.le_of_ble_eq_true rfl, Nat.le_of_ble_eq_true rfl⟩ hl rfl (Nat.le_of_ble_eq_true rfl) dL_law_202 ⟨by show cells + 1 ≤ 601024; omega, by show slots + 6 ≤ 7293033; omega⟩ ?_
    refine lv_iload F.1 F.2.1 dL_law_205 (lv_at hl 1 rfl) ?_
    refine rr_icmp_eq F (tgt := 212) dL_law_207 (by decide) ⟨by omega, by omega⟩ ⟨by omega, by omega⟩ (fun _ => ?_) (fun z => absurd rfl z)
    refine lv_iload F.1 F.2.1 dL_law_212 (lv_at hl 1 rfl) ?_
    refine rr_if_ne F (tgt := 229) dL_law_214 (by decide) ⟨by omega, by omega⟩ (fun _ => ?_) (fun z => by omega)
    refine lv_goto (tgt := 2055) F.1 F.2.1 dL_law_229 (by decide) ?_
    exact kk _ _ _ _ _ _ _ _ _ _ _ _ _ _ _ _ _ _ H locs ls (hI.mono (by omega)) hP hD hS (lv_sub hl [2, 3, 4, 5, 6] rfl)
