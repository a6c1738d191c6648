-- the law's cases: laid by law.py
theorem inL_r {z : Int} (h : inR z) : inL z := ⟨by have := h.1; omega, by have := h.2; omega⟩
theorem lcm_r (a b : Int) : inR (lcm a b) := by have := lcm_spec a b; exact ⟨by omega, by omega⟩
theorem sfw_append : SFW yL_append cL_append 4 (some FieldType.int) [(0, 9, 12, 13), (0, 9, 15, 15)] 3 := ⟨tw264, tw0, tw265, by decide +kernel, by decide +kernel, by decide +kernel⟩
theorem sfw_about : SFW yL_about cL_about 4 (some FieldType.int) [(0, 9, 12, 13)] 3 := ⟨tw365, tw0, tw366, by decide +kernel, by decide +kernel, by decide +kernel⟩
theorem sfw_at : SFW yL_at cL_at 4 (some FieldType.int) [(0, 9, 12, 23)] 3 := ⟨tw398, tw0, tw399, by decide +kernel, by decide +kernel, by decide +kernel⟩
theorem sfw_letter : SFW yL_letter cL_letter 5 (some FieldType.int) [(0, 10, 13, 23), (0, 10, 17, 13)] 4 := ⟨tw427, tw0, tw428, by decide +kernel, by decide +kernel, by decide +kernel⟩
theorem sfw_reading : SFW yL_reading cL_reading 5 (some FieldType.int) [(0, 10, 13, 23), (0, 10, 17, 13)] 4 := ⟨tw442, tw0, tw443, by decide +kernel, by decide +kernel, by decide +kernel⟩
theorem sfw_segment : SFW yL_segment cL_segment 6 (some FieldType.int) [(0, 12, 15, 23), (0, 12, 19, 13)] 5 := ⟨tw462, tw0, tw463, by decide +kernel, by decide +kernel, by decide +kernel⟩
theorem sfw_find : SFW yL_find cL_find 6 (some FieldType.int) [(0, 12, 15, 23), (0, 12, 19, 13)] 5 := ⟨tw481, tw0, tw482, by decide +kernel, by decide +kernel, by decide +kernel⟩
theorem sfw_walker : SFW yL_walker cL_walker 5 (some FieldType.int) [(0, 10, 13, 23), (0, 10, 17, 13)] 4 := ⟨tw494, tw0, tw495, by decide +kernel, by decide +kernel, by decide +kernel⟩
theorem sfw_ring : SFW yL_ring cL_ring 3 (some FieldType.int) [(0, 8, 11, 15)] 2 := ⟨tw527, tw0, tw528, by decide +kernel, by decide +kernel, by decide +kernel⟩
theorem sfw_addWord : SFW yL_addWord cL_addWord 3 (some FieldType.int) [(0, 8, 11, 15)] 2 := ⟨tw570, tw0, tw571, by decide +kernel, by decide +kernel, by decide +kernel⟩
theorem sfw_removeWord : SFW yL_removeWord cL_removeWord 4 (some FieldType.int) [(0, 9, 12, 23)] 3 := ⟨tw589, tw0, tw590, by decide +kernel, by decide +kernel, by decide +kernel⟩
theorem sfw_carve : SFW yL_carve cL_carve 5 (some FieldType.int) [(0, 10, 13, 23), (0, 10, 17, 13)] 4 := ⟨tw601, tw0, tw602, by decide +kernel, by decide +kernel, by decide +kernel⟩
theorem sfw_wear : SFW yL_wear cL_wear 4 (some FieldType.int) [(0, 9, 12, 23)] 3 := ⟨tw626, tw0, tw627, by decide +kernel, by decide +kernel, by decide +kernel⟩
theorem sfw_insert : SFW yL_insert cL_insert 5 (some FieldType.int) [(0, 10, 13, 23), (0, 10, 17, 13), (0, 10, 21, 15)] 4 := ⟨tw639, tw0, tw640, by decide +kernel, by decide +kernel, by decide +kernel⟩
theorem sfw_erase : SFW yL_erase cL_erase 4 (some FieldType.int) [(0, 9, 12, 23)] 3 := ⟨tw661, tw0, tw662, by decide +kernel, by decide +kernel, by decide +kernel⟩
theorem sfw_addWalker : SFW yL_addWalker cL_addWalker 7 (some FieldType.int) [(0, 14, 17, 23), (0, 14, 21, 13), (0, 14, 25, 15)] 6 := ⟨tw676, tw0, tw677, by decide +kernel, by decide +kernel, by decide +kernel⟩
theorem sfw_turn : SFW yL_turn cL_turn 4 (some FieldType.int) [(0, 9, 12, 23)] 3 := ⟨tw707, tw0, tw708, by decide +kernel, by decide +kernel, by decide +kernel⟩
theorem sfw_go : SFW yL_go cL_go 4 (some FieldType.int) [(0, 9, 12, 13)] 3 := ⟨tw718, tw0, tw719, by decide +kernel, by decide +kernel, by decide +kernel⟩
theorem sfw_undo : SFW yL_undo cL_undo 3 (some FieldType.int) [(0, 8, 11, 15)] 2 := ⟨tw747, tw0, tw748, by decide +kernel, by decide +kernel, by decide +kernel⟩
theorem sfw_meet : SFW yL_meet cL_meet 5 (some FieldType.int) [(0, 10, 13, 23), (0, 10, 17, 15)] 4 := ⟨tw763, tw0, tw764, by decide +kernel, by decide +kernel, by decide +kernel⟩
theorem sfw_seesAll : SFW yL_seesAll cL_seesAll 4 (some FieldType.int) [(0, 9, 12, 23)] 3 := ⟨tw776, tw0, tw777, by decide +kernel, by decide +kernel, by decide +kernel⟩
theorem sfw_ifWorn : SFW yL_ifWorn cL_ifWorn 5 (some FieldType.int) [(0, 10, 13, 23)] 4 := ⟨tw787, tw0, tw788, by decide +kernel, by decide +kernel, by decide +kernel⟩
theorem sfw_bestDivider : SFW yL_bestDivider cL_bestDivider 5 (some FieldType.int) [(0, 10, 13, 23), (0, 10, 17, 13)] 4 := ⟨tw795, tw0, tw796, by decide +kernel, by decide +kernel, by decide +kernel⟩
theorem sfw_canBe : SFW yL_canBe cL_canBe 5 (some FieldType.int) [(0, 10, 13, 23)] 4 := ⟨tw804, tw0, tw805, by decide +kernel, by decide +kernel, by decide +kernel⟩
theorem sfw_runScript : SFW yL_runScript cL_runScript 6 (some FieldType.int) [(0, 11, 14, 13)] 4 := ⟨tw820, tw0, tw821, by decide +kernel, by decide +kernel, by decide +kernel⟩
theorem sfw_simulate : SFW yL_simulate cL_simulate 6 (some FieldType.int) [(0, 11, 14, 13)] 4 := ⟨tw836, tw0, tw837, by decide +kernel, by decide +kernel, by decide +kernel⟩
theorem sfw_save : SFW yL_save cL_save 4 (some FieldType.int) [(0, 9, 12, 23)] 3 := ⟨tw849, tw0, tw850, by decide +kernel, by decide +kernel, by decide +kernel⟩
theorem sfw_restore : SFW yL_restore cL_restore 4 (some FieldType.int) [(0, 9, 12, 23), (0, 9, 15, 15)] 3 := ⟨tw857, tw0, tw858, by decide +kernel, by decide +kernel, by decide +kernel⟩
set_option maxRecDepth 100000 in
set_option maxHeartbeats 8000000 in
theorem lc_append {p : Program} {l : Launch} {e : Env} {s : State} {m : MethodId} {args : Array Value} {below : List Frame} {meth : Method} {c : Code} {Q : State → Prop} {b L : Nat} {xs : Nat → Int32} {D : va_G} {cy : Nat → ClassId} {sa : Nat → Nat} {u w : NU} {out : Nat} (hnt : l.stackTraces = false) (F : FX p m c cL_law 7 s args RL) (hK : KK D cy s) (hX : XK sa s) (hZ0 : ZK (fun q => s.heap.size ≤ q) s s.heap) (hxs : va_X b L xs s s.heap) (hb : b < s.heap.size) (hL : L ≤ 2560) {N : Int} {tl : Int} {tc : Int → Int} {ol : Int} {ct : Int} {tr : Int} {fv : Int → Int} {a : Int → Int} {G : Int → Int → Int} {ak : Int → Int} {Gk : Int → Int → Int} {As : Nat → Int → Int} {Gs : Nat → Int → Int → Int} {Ah : Nat → Int → Int} {Gh : Nat → Int → Int → Int} {th : Int → Int} {ap : Int → Int} {asl : Int → Int} {of : Nat → Int64} (hI : INV N tl tc ol ct fv a G As Gs Ah Gh ap asl) (hN : 0 ≤ N ∧ N ≤ 80000000) {i : Int} (hi : 0 ≤ i ∧ i + 5 ≤ L) {H : Heap} {locs : List Loc} {cells slots : Nat} {ls : Array Slot} (hP : va_P D vwCl (LW cy u w out tl tc ol ct tr fv a G ak Gk As Gs Ah Gh th ap asl of tl tc ct a fv) H) (hD : va_D (fun q => s.heap.size ≤ q) (LW cy u w out tl tc ol ct tr fv a G ak Gk As Gs Ah Gh th ap asl of tl tc ct a fv)) (hS : va_S (fun q => s.heap.size ≤ q) s.heap H locs) (hl : lv_has ls 7 [(4, vI i), (3, .ref out), (2, .ref (w 0 0)), (1, .ref (u 0 0)), (0, .ref b)]) (hc : cells + 1 ≤ 601024 ∧ slots + 6 ≤ 7293033) (kk : LK p l e s m args below meth c D cy u w out b (N + 50) i (cells + 1) (slots + 6) Q) : W p l e room_1 s m args below meth c H locs cells slots Q (F0 m 176 ls []) := by
  have hT := hI.1
  obtain ⟨hZ, hSV, hsp0, hsp1⟩ := hI.2.1
  have hM := SB.mr hZ
  have hn0 := hM.n
  have hw0 := hM.nw
  have hc0 := hM.wc
  have hol := hI.2.2.1
  have hct := hI.2.2.2.1
  have hbA : ¬ (fun q => s.heap.size ≤ q) b := Nat.not_le.mpr hb
  have hA : ∀ q, s.heap.size ≤ q → (fun q => s.heap.size ≤ q) q := fun q h => h
  have hZ1 : ZK nA s H := (hZ0.kept (fun a h1 h2 => hS.2.1 a h1 h2)).narrow (fun _ h => h.elim)
  refine lv_aload_n F.1 F.2.1 dL_law_176 rfl (lv_at hl 3 rfl) ?_
  refine lv_aload_n F.1 F.2.1 dL_law_177 rfl (lv_at hl 4 rfl) ?_
  refine lv_iload F.1 F.2.1 dL_law_178 (lv_at hl 0 rfl) ?_
  refine rr_iconst F dL_law_180 ?_
  refine rr_iadd F (z := i + 1) dL_law_181 rfl ?_
  refine rr_sld F (A := fun q => s.heap.size ≤ q) hxs hb hbA hS (by omega) (by omega) hL dL_law_182 ?_
  refine lv_aload_n F.1 F.2.1 dL_law_183 rfl (lv_at hl 1 rfl) ?_
  have hb_1 := XI_b xs (i + 1)
  by_cases hx0 : 0 ≤ (XI xs (i + 1)) ∧ (XI xs (i + 1)) ≤ 255
  · by_cases hx1 : tl < 40
    · refine W.widen (k := cells + 1) (n := slots + 6) (by omega) (by omega) ?_
      have hvr : inR (tl + 1) := ⟨by omega, by omega⟩
      refine rr_wwS (rest := []) F hK (w_append l D cy (u 0 0) (u 2 0) (u 3 0) (u 4 0) (u 0 1) (u 0 2) (u 1 0) (u 1 1) tl tc (XI xs (i + 1)) out of hT (by first | assumption | omega | exact ⟨by omega, by omega⟩) (by first | assumption | omega | exact ⟨by omega, by omega⟩) hvr) hP hD hS hA sfw_append tw263 ⟨Nat.le_of_ble_eq_true rfl, Nat.le_of_ble_eq_true rfl⟩ hl rfl (Nat.le_of_ble_eq_true rfl) dL_law_184 ⟨by show cells + 1 ≤ 601024; omega, by show slots + 6 ≤ 7293033; omega⟩ (pm_cTO cy u w out tl tc ol ct tr fv a G ak Gk As Gs Ah Gh th ap asl of tl tc ct a fv) rfl (fun H locs hP hD hS _ => ?_)
      have hP : va_P D vwCl (LW cy u w out (tl + 1) (updZ tc tl (XI xs (i + 1))) ol ct tr fv a G ak Gk As Gs Ah Gh th ap asl (vp_updL of 0 (lI (tl + 1))) tl tc ct a fv) H := hP.perm ((pm_cTO cy u w out (tl + 1) (updZ tc tl (XI xs (i + 1))) ol ct tr fv a G ak Gk As Gs Ah Gh th ap asl (vp_updL of 0 (lI (tl + 1))) tl tc ct a fv).symm)
      have hD : va_D (fun q => s.heap.size ≤ q) (LW cy u w out (tl + 1) (updZ tc tl (XI xs (i + 1))) ol ct tr fv a G ak Gk As Gs Ah Gh th ap asl (vp_updL of 0 (lI (tl + 1))) tl tc ct a fv) := hD.perm ((pm_cTO cy u w out (tl + 1) (updZ tc tl (XI xs (i + 1))) ol ct tr fv a G ak Gk As Gs Ah Gh th ap asl (vp_updL of 0 (lI (tl + 1))) tl tc ct a fv).symm)
      refine lv_istore (lv' := [(5, vI 0), (4, vI i), (3, .ref out), (2, .ref (w 0 0)), (1, .ref (u 0 0)), (0, .ref b)]) F.1 F.2.1 dL_law_187 hl (by decide) rfl (fun ls hl => ?_)
      refine lv_aload_n F.1 F.2.1 dL_law_189 rfl (lv_at hl 3 rfl) ?_
      refine lv_aload_n F.1 F.2.1 dL_law_190 rfl (lv_at hl 5 rfl) ?_
      refine lv_iload F.1 F.2.1 dL_law_191 (lv_at hl 1 rfl) ?_
      refine rr_iconst F dL_law_193 ?_
      refine rr_iadd F (z := i + 1) dL_law_194 rfl ?_
      refine rr_sld F (A := fun q => s.heap.size ≤ q) hxs hb hbA hS (by omega) (by omega) hL dL_law_195 ?_
      refine rr_wrVp (rest := []) F hK (c_X7_append l D cy (w 0 0) (w 0 1) (w 0 2) (w 0 3) (w 0 4) (w 0 5) (w 0 6) tr ct tl tc (XI xs (i + 1)) hT (XI_r _ _) (by first | assumption | omega | exact ⟨by omega, by omega⟩) (by first | assumption | omega | exact ⟨by omega, by omega⟩)) hP hD hS hA sf_X7_append tw917 7 rfl rfl ⟨Nat.le_of_ble_eq_true rfl, Nat.le_of_ble_eq_true rfl⟩ hl rfl (Nat.le_of_ble_eq_true rfl) dL_law_196 ⟨by show cells + 1 ≤ 601024; omega, by show slots + 6 ≤ 7293033; omega⟩ (pm_mT cy u w out (tl + 1) (updZ tc tl (XI xs (i + 1))) ol ct tr fv a G ak Gk As Gs Ah Gh th ap asl (vp_updL of 0 (lI (tl + 1))) tl tc ct a fv) rfl (fun H locs hP hD hS _ => ?_)
      have hP : va_P D vwCl (LW cy u w out (tl + 1) (updZ tc tl (XI xs (i + 1))) ol ct 0 fv a G ak Gk As Gs Ah Gh th ap asl (vp_updL of 0 (lI (tl + 1))) (tl + 1) (updZ tc tl (XI xs (i + 1))) ct a fv) H := hP.perm ((pm_mT cy u w out (tl + 1) (updZ tc tl (XI xs (i + 1))) ol ct 0 fv a G ak Gk As Gs Ah Gh th ap asl (vp_updL of 0 (lI (tl + 1))) (tl + 1) (updZ tc tl (XI xs (i + 1))) ct a fv).symm)
      have hD : va_D (fun q => s.heap.size ≤ q) (LW cy u w out (tl + 1) (updZ tc tl (XI xs (i + 1))) ol ct 0 fv a G ak Gk As Gs Ah Gh th ap asl (vp_updL of 0 (lI (tl + 1))) (tl + 1) (updZ tc tl (XI xs (i + 1))) ct a fv) := hD.perm ((pm_mT cy u w out (tl + 1) (updZ tc tl (XI xs (i + 1))) ol ct 0 fv a G ak Gk As Gs Ah Gh th ap asl (vp_updL of 0 (lI (tl + 1))) (tl + 1) (updZ tc tl (XI xs (i + 1))) ct a fv).symm)
      have hP : va_P D vwCl (LW cy u w out (tl + 1) (updZ tc tl (XI xs (i + 1))) ol ct 0 fv a G ak Gk As Gs Ah Gh th ap asl (vp_updL of 0 (lI (tl + 1))) (tl + 1) (updZ tc tl (XI xs (i + 1))) ct a fv) H := hP
      have hD : va_D (fun q => s.heap.size ≤ q) (LW cy u w out (tl + 1) (updZ tc tl (XI xs (i + 1))) ol ct 0 fv a G ak Gk As Gs Ah Gh th ap asl (vp_updL of 0 (lI (tl + 1))) (tl + 1) (updZ tc tl (XI xs (i + 1))) ct a fv) := hD
      refine lv_istore (lv' := [(6, vI (tl + 1)), (5, vI 0), (4, vI i), (3, .ref out), (2, .ref (w 0 0)), (1, .ref (u 0 0)), (0, .ref b)]) F.1 F.2.1 dL_law_199 hl (by decide) rfl (fun ls hl => ?_)
      refine lv_aload_n F.1 F.2.1 dL_law_201 rfl (lv_at hl 4 rfl) ?_
      refine rr_rdVp (rest := []) F hK (c_X7_thrown l D cy (w 0 0) (w 0 1) (w 0 2) (w 0 3) (w 0 4) (w 0 5) (w 0 6) 0 ct (tl + 1)) hP (pm_m0 cy u w out (tl + 1) (updZ tc tl (XI xs (i + 1))) ol ct 0 fv a G ak Gk As Gs Ah Gh th ap asl (vp_updL of 0 (lI (tl + 1))) (tl + 1) (updZ tc tl (XI xs (i + 1))) ct a fv) sf_X7_thrown tw902 7 rfl rfl ⟨Nat.le_of_ble_eq_true rfl, Nat.le_of_ble_eq_true rfl⟩ hl rfl (Nat.le_of_ble_eq_true rfl) dL_law_202 ⟨by show cells + 1 ≤ 601024; omega, by show slots + 6 ≤ 7293033; omega⟩ ?_
      refine lv_iload F.1 F.2.1 dL_law_205 (lv_at hl 1 rfl) ?_
      refine rr_icmp_eq F (tgt := 212) dL_law_207 (by decide) ⟨by omega, by omega⟩ ⟨by omega, by omega⟩ (fun _ => ?_) (fun z => absurd rfl z)
      refine lv_iload F.1 F.2.1 dL_law_212 (lv_at hl 1 rfl) ?_
      refine rr_if_ne F (tgt := 229) dL_law_214 (by decide) ⟨by omega, by omega⟩ (fun z => absurd rfl z) (fun _ => ?_)
      refine lv_aload_n F.1 F.2.1 dL_law_217 rfl (lv_at hl 3 rfl) ?_
      refine rr_iconst F dL_law_218 ?_
      refine rr_lald0 F hK (hP.perm (pm_o cy u w out (tl + 1) (updZ tc tl (XI xs (i + 1))) ol ct 0 fv a G ak Gk As Gs Ah Gh th ap asl (vp_updL of 0 (lI (tl + 1))) (tl + 1) (updZ tc tl (XI xs (i + 1))) ct a fv)) 0 rfl dL_law_219 ?_
      refine lv_iload F.1 F.2.1 dL_law_220 (lv_at hl 0 rfl) ?_
      refine rr_i2l F dL_law_222 hvr ?_
      refine rr_lcmp F (a := tl + 1) (b := tl + 1) dL_law_223 (inL_r hvr) (inL_r hvr) ?_
      refine rr_if_eq F (tgt := 229) dL_law_224 (by decide) (lcm_r _ _) (fun _ => ?_) (fun z => absurd ((lcm_spec _ _).2.1.mpr rfl) z)
      refine lv_goto (tgt := 2055) F.1 F.2.1 dL_law_229 (by decide) ?_
      exact kk _ _ _ _ _ _ _ _ _ _ _ _ _ _ _ _ _ _ H locs ls ((hI.text ⟨by omega, CH_upd hT.2 (by omega)⟩).mono (by omega)) hP hD hS (lv_sub hl [2, 3, 4, 5, 6] rfl)
    · refine rr_twS (rest := []) F hK hX hZ1 (r_append_31 l hnt D cy sa (u 0 0) (u 2 0) (u 3 0) (u 4 0) (u 0 1) (u 0 2) (u 1 0) (u 1 1) tl tc (XI xs (i + 1)) out hT (by first | assumption | omega | exact ⟨by omega, by omega⟩) (by first | assumption | omega | exact ⟨by omega, by omega⟩)) hP hS sfw_append tw263 ⟨Nat.le_of_ble_eq_true rfl, Nat.le_of_ble_eq_true rfl⟩ hl rfl (Nat.le_of_ble_eq_true rfl) dL_law_184 ⟨by show cells + 1 ≤ 601024; omega, by show slots + 6 ≤ 7293033; omega⟩ (pm_cT cy u w out tl tc ol ct tr fv a G ak Gk As Gs Ah Gh th ap asl of tl tc ct a fv) (fun H locs hP hS _ => ?_)
      refine lv_istore (lv' := [(5, vI 2), (4, vI i), (3, .ref out), (2, .ref (w 0 0)), (1, .ref (u 0 0)), (0, .ref b)]) F.1 F.2.1 dL_law_187 hl (by decide) rfl (fun ls hl => ?_)
      refine lv_aload_n F.1 F.2.1 dL_law_189 rfl (lv_at hl 3 rfl) ?_
      refine lv_aload_n F.1 F.2.1 dL_law_190 rfl (lv_at hl 5 rfl) ?_
      refine lv_iload F.1 F.2.1 dL_law_191 (lv_at hl 1 rfl) ?_
      refine rr_iconst F dL_law_193 ?_
      refine rr_iadd F (z := i + 1) dL_law_194 rfl ?_
      refine rr_sld F (A := fun q => s.heap.size ≤ q) hxs hb hbA hS (by omega) (by omega) hL dL_law_195 ?_
      have hcode : (if 0 ≤ (XI xs (i + 1)) ∧ (XI xs (i + 1)) ≤ 255 then 2 else 1 : Int) = 2 := by first | rfl | ((repeat' split) <;> first | rfl | omega)
      refine rr_wrVp (rest := []) F hK (n_X7_append l D cy (w 0 0) (w 0 1) (w 0 2) (w 0 3) (w 0 4) (w 0 5) (w 0 6) tr ct tl tc (XI xs (i + 1)) hT (XI_r _ _) (by first | assumption | omega)) hP hD hS hA sf_X7_append tw917 7 rfl rfl ⟨Nat.le_of_ble_eq_true rfl, Nat.le_of_ble_eq_true rfl⟩ hl rfl (Nat.le_of_ble_eq_true rfl) dL_law_196 ⟨by show cells + 1 ≤ 601024; omega, by show slots + 6 ≤ 7293033; omega⟩ (pm_mT cy u w out tl tc ol ct tr fv a G ak Gk As Gs Ah Gh th ap asl of tl tc ct a fv) rfl (fun H locs hP hD hS _ => ?_)
      have hP : va_P D vwCl (LW cy u w out tl tc ol ct (if 0 ≤ (XI xs (i + 1)) ∧ (XI xs (i + 1)) ≤ 255 then 2 else 1) fv a G ak Gk As Gs Ah Gh th ap asl of tl tc ct a fv) H := hP.perm ((pm_mT cy u w out tl tc ol ct (if 0 ≤ (XI xs (i + 1)) ∧ (XI xs (i + 1)) ≤ 255 then 2 else 1) fv a G ak Gk As Gs Ah Gh th ap asl of tl tc ct a fv).symm)
      have hD : va_D (fun q => s.heap.size ≤ q) (LW cy u w out tl tc ol ct (if 0 ≤ (XI xs (i + 1)) ∧ (XI xs (i + 1)) ≤ 255 then 2 else 1) fv a G ak Gk As Gs Ah Gh th ap asl of tl tc ct a fv) := hD.perm ((pm_mT cy u w out tl tc ol ct (if 0 ≤ (XI xs (i + 1)) ∧ (XI xs (i + 1)) ≤ 255 then 2 else 1) fv a G ak Gk As Gs Ah Gh th ap asl of tl tc ct a fv).symm)
      rw [hcode] at hP hD
      refine lv_istore (lv' := [(6, vI 0), (5, vI 2), (4, vI i), (3, .ref out), (2, .ref (w 0 0)), (1, .ref (u 0 0)), (0, .ref b)]) F.1 F.2.1 dL_law_199 hl (by decide) rfl (fun ls hl => ?_)
      refine lv_aload_n F.1 F.2.1 dL_law_201 rfl (lv_at hl 4 rfl) ?_
      refine rr_rdVp (rest := []) F hK (c_X7_thrown l D cy (w 0 0) (w 0 1) (w 0 2) (w 0 3) (w 0 4) (w 0 5) (w 0 6) 2 ct tl) hP (pm_m0 cy u w out tl tc ol ct 2 fv a G ak Gk As Gs Ah Gh th ap asl of tl tc ct a fv) sf_X7_thrown tw902 7 rfl rfl ⟨Nat.le_of_ble_eq_true rfl, Nat.le_of_ble_eq_true rfl⟩ hl rfl (Nat.le_of_ble_eq_true rfl) dL_law_202 ⟨by show cells + 1 ≤ 601024; omega, by show slots + 6 ≤ 7293033; omega⟩ ?_
      refine lv_iload F.1 F.2.1 dL_law_205 (lv_at hl 1 rfl) ?_
      refine rr_icmp_eq F (tgt := 212) dL_law_207 (by decide) ⟨by omega, by omega⟩ ⟨by omega, by omega⟩ (fun _ => ?_) (fun z => absurd rfl z)
      refine lv_iload F.1 F.2.1 dL_law_212 (lv_at hl 1 rfl) ?_
      refine rr_if_ne F (tgt := 229) dL_law_214 (by decide) ⟨by omega, by omega⟩ (fun _ => ?_) (fun z => by omega)
      refine lv_goto (tgt := 2055) F.1 F.2.1 dL_law_229 (by decide) ?_
      exact kk _ _ _ _ _ _ _ _ _ _ _ _ _ _ _ _ _ _ H locs ls (hI.mono (by omega)) hP hD hS (lv_sub hl [2, 3, 4, 5, 6] rfl)
  · refine rr_twS (rest := []) F hK hX hZ1 (r_append_11 l hnt D cy sa (u 0 0) (u 1 0) (u 2 0) (u 3 0) (u 4 0) (u 0 1) (u 0 2) (XI xs (i + 1)) out (XI_r _ _) (by first | assumption | omega | exact ⟨by omega, by omega⟩)) hP hS sfw_append tw263 ⟨Nat.le_of_ble_eq_true rfl, Nat.le_of_ble_eq_true rfl⟩ hl rfl (Nat.le_of_ble_eq_true rfl) dL_law_184 ⟨by show cells + 1 ≤ 601024; omega, by show slots + 6 ≤ 7293033; omega⟩ (pm_c0 cy u w out tl tc ol ct tr fv a G ak Gk As Gs Ah Gh th ap asl of tl tc ct a fv) (fun H locs hP hS _ => ?_)
    refine lv_istore (lv' := [(5, vI 1), (4, vI i), (3, .ref out), (2, .ref (w 0 0)), (1, .ref (u 0 0)), (0, .ref b)]) F.1 F.2.1 dL_law_187 hl (by decide) rfl (fun ls hl => ?_)
    refine lv_aload_n F.1 F.2.1 dL_law_189 rfl (lv_at hl 3 rfl) ?_
    refine lv_aload_n F.1 F.2.1 dL_law_190 rfl (lv_at hl 5 rfl) ?_
    refine lv_iload F.1 F.2.1 dL_law_191 (lv_at hl 1 rfl) ?_
    refine rr_iconst F dL_law_193 ?_
    refine rr_iadd F (z := i + 1) dL_law_194 rfl ?_
    refine rr_sld F (A := fun q => s.heap.size ≤ q) hxs hb hbA hS (by omega) (by omega) hL dL_law_195 ?_
    have hcode : (if 0 ≤ (XI xs (i + 1)) ∧ (XI xs (i + 1)) ≤ 255 then 2 else 1 : Int) = 1 := by first | rfl | ((repeat' split) <;> first | rfl | omega)
    refine rr_wrVp (rest := []) F hK (n_X7_append l D cy (w 0 0) (w 0 1) (w 0 2) (w 0 3) (w 0 4) (w 0 5) (w 0 6) tr ct tl tc (XI xs (i + 1)) hT (XI_r _ _) (by first | assumption | omega)) hP hD hS hA sf_X7_append tw917 7 rfl rfl ⟨Nat.le_of_ble_eq_true rfl, Nat.le_of_ble_eq_true rfl⟩ hl rfl (Nat.le_of_ble_eq_true rfl) dL_law_196 ⟨by show cells + 1 ≤ 601024; omega, by show slots + 6 ≤ 7293033; omega⟩ (pm_mT cy u w out tl tc ol ct tr fv a G ak Gk As Gs Ah Gh th ap asl of tl tc ct a fv) rfl (fun H locs hP hD hS _ => ?_)
    have hP : va_P D vwCl (LW cy u w out tl tc ol ct (if 0 ≤ (XI xs (i + 1)) ∧ (XI xs (i + 1)) ≤ 255 then 2 else 1) fv a G ak Gk As Gs Ah Gh th ap asl of tl tc ct a fv) H := hP.perm ((pm_mT cy u w out tl tc ol ct (if 0 ≤ (XI xs (i + 1)) ∧ (XI xs (i + 1)) ≤ 255 then 2 else 1) fv a G ak Gk As Gs Ah Gh th ap asl of tl tc ct a fv).symm)
    have hD : va_D (fun q => s.heap.size ≤ q) (LW cy u w out tl tc ol ct (if 0 ≤ (XI xs (i + 1)) ∧ (XI xs (i + 1)) ≤ 255 then 2 else 1) fv a G ak Gk As Gs Ah Gh th ap asl of tl tc ct a fv) := hD.perm ((pm_mT cy u w out tl tc ol ct (if 0 ≤ (XI xs (i + 1)) ∧ (XI xs (i + 1)) ≤ 255 then 2 else 1) fv a G ak Gk As Gs Ah Gh th ap asl of tl tc ct a fv).symm)
    rw [hcode] at hP hD
    refine lv_istore (lv' := [(6, vI 0), (5, vI 1), (4, vI i), (3, .ref out), (2, .ref (w 0 0)), (1, .ref (u 0 0)), (0, .ref b)]) F.1 F.2.1 dL_law_199 hl (by decide) rfl (fun ls hl => ?_)
    refine lv_aload_n F.1 F.2.1 dL_law_201 rfl (lv_at hl 4 rfl) ?_
    refine rr_rdVp (rest := []) F hK (c_X7_thrown l D cy (w 0 0) (w 0 1) (w 0 2) (w 0 3) (w 0 4) (w 0 5) (w 0 6) 1 ct tl) hP (pm_m0 cy u w out tl tc ol ct 1 fv a G ak Gk As Gs Ah Gh th ap asl of tl tc ct a fv) sf_X7_thrown tw902 7 rfl rfl ⟨Nat.le_of_ble_eq_true rfl, Nat.le_of_ble_eq_true rfl⟩ hl rfl (Nat.le_of_ble_eq_true rfl) dL_law_202 ⟨by show cells + 1 ≤ 601024; omega, by show slots + 6 ≤ 7293033; omega⟩ ?_
    refine lv_iload F.1 F.2.1 dL_law_205 (lv_at hl 1 rfl) ?_
    refine rr_icmp_eq F (tgt := 212) dL_law_207 (by decide) ⟨by omega, by omega⟩ ⟨by omega, by omega⟩ (fun _ => ?_) (fun z => absurd rfl z)
    refine lv_iload F.1 F.2.1 dL_law_212 (lv_at hl 1 rfl) ?_
    refine rr_if_ne F (tgt := 229) dL_law_214 (by decide) ⟨by omega, by omega⟩ (fun _ => ?_) (fun z => by omega)
    refine lv_goto (tgt := 2055) F.1 F.2.1 dL_law_229 (by decide) ?_
    exact kk _ _ _ _ _ _ _ _ _ _ _ _ _ _ _ _ _ _ H locs ls (hI.mono (by omega)) hP hD hS (lv_sub hl [2, 3, 4, 5, 6] rfl)
set_option maxRecDepth 100000 in
set_option maxHeartbeats 8000000 in
theorem lc_about {p : Program} {l : Launch} {e : Env} {s : State} {m : MethodId} {args : Array Value} {below : List Frame} {meth : Method} {c : Code} {Q : State → Prop} {b L : Nat} {xs : Nat → Int32} {D : va_G} {cy : Nat → ClassId} {sa : Nat → Nat} {u w : NU} {out : Nat} (hnt : l.stackTraces = false) (F : FX p m c cL_law 7 s args RL) (hK : KK D cy s) (hX : XK sa s) (hZ0 : ZK (fun q => s.heap.size ≤ q) s s.heap) (hxs : va_X b L xs s s.heap) (hb : b < s.heap.size) (hL : L ≤ 2560) {N : Int} {tl : Int} {tc : Int → Int} {ol : Int} {ct : Int} {tr : Int} {fv : Int → Int} {a : Int → Int} {G : Int → Int → Int} {ak : Int → Int} {Gk : Int → Int → Int} {As : Nat → Int → Int} {Gs : Nat → Int → Int → Int} {Ah : Nat → Int → Int} {Gh : Nat → Int → Int → Int} {th : Int → Int} {ap : Int → Int} {asl : Int → Int} {of : Nat → Int64} (hI : INV N tl tc ol ct fv a G As Gs Ah Gh ap asl) (hN : 0 ≤ N ∧ N ≤ 80000000) {i : Int} (hi : 0 ≤ i ∧ i + 5 ≤ L) {H : Heap} {locs : List Loc} {cells slots : Nat} {ls : Array Slot} (hP : va_P D vwCl (LW cy u w out tl tc ol ct tr fv a G ak Gk As Gs Ah Gh th ap asl of tl tc ct a fv) H) (hD : va_D (fun q => s.heap.size ≤ q) (LW cy u w out tl tc ol ct tr fv a G ak Gk As Gs Ah Gh th ap asl of tl tc ct a fv)) (hS : va_S (fun q => s.heap.size ≤ q) s.heap H locs) (hl : lv_has ls 7 [(4, vI i), (3, .ref out), (2, .ref (w 0 0)), (1, .ref (u 0 0)), (0, .ref b)]) (hc : cells + 1 ≤ 601024 ∧ slots + 6 ≤ 7293033) (kk : LK p l e s m args below meth c D cy u w out b (N + 50) i (cells + 1) (slots + 6) Q) : W p l e room_1 s m args below meth c H locs cells slots Q (F0 m 286 ls []) := by
  have hT := hI.1
  obtain ⟨hZ, hSV, hsp0, hsp1⟩ := hI.2.1
  have hM := SB.mr hZ
  have hn0 := hM.n
  have hw0 := hM.nw
  have hc0 := hM.wc
  have hol := hI.2.2.1
  have hct := hI.2.2.2.1
  have hbA : ¬ (fun q => s.heap.size ≤ q) b := Nat.not_le.mpr hb
  have hA : ∀ q, s.heap.size ≤ q → (fun q => s.heap.size ≤ q) q := fun q h => h
  have hZ1 : ZK nA s H := (hZ0.kept (fun a h1 h2 => hS.2.1 a h1 h2)).narrow (fun _ h => h.elim)
  refine lv_aload_n F.1 F.2.1 dL_law_286 rfl (lv_at hl 3 rfl) ?_
  refine lv_aload_n F.1 F.2.1 dL_law_287 rfl (lv_at hl 4 rfl) ?_
  refine lv_iload F.1 F.2.1 dL_law_288 (lv_at hl 0 rfl) ?_
  refine rr_iconst F dL_law_290 ?_
  refine rr_iadd F (z := i + 1) dL_law_291 rfl ?_
  refine rr_sld F (A := fun q => s.heap.size ≤ q) hxs hb hbA hS (by omega) (by omega) hL dL_law_292 ?_
  refine lv_aload_n F.1 F.2.1 dL_law_293 rfl (lv_at hl 1 rfl) ?_
  have hb_1 := XI_b xs (i + 1)
  by_cases hx0 : 0 ≤ (XI xs (i + 1)) ∧ (XI xs (i + 1)) ≤ 8
  · refine W.widen (k := cells + 1) (n := slots + 6) (by omega) (by omega) ?_
    have hvr : inR (abt (a 0) (rq a) (a 25) (a 96) (a 117) (XI xs (i + 1))) := abt_r hZ ⟨by omega, by omega⟩
    refine rr_wwS (rest := []) F hK (w_about l D cy (u 0 0) (u 1 0) (u 3 0) (u 4 0) (u 0 1) (u 0 2) (u 2 0) (u 2 6) (a 96) (a 117) (u 2 1) (u 2 2) (a 0) (G 0) (rq a) (u 2 3) (u 2 4) (u 2 5) (a 25) (G 6) (G 7) (rbl a) (rbc a) (XI xs (i + 1)) out of (SB.rg hZ) (SB.bk hZ) (by first | assumption | omega | exact ⟨by omega, by omega⟩) hvr) hP hD hS hA sfw_about tw364 ⟨Nat.le_of_ble_eq_true rfl, Nat.le_of_ble_eq_true rfl⟩ hl rfl (Nat.le_of_ble_eq_true rfl) dL_law_294 ⟨by show cells + 1 ≤ 601024; omega, by show slots + 6 ≤ 7293033; omega⟩ (pm_cABO cy u w out tl tc ol ct tr fv a G ak Gk As Gs Ah Gh th ap asl of tl tc ct a fv) rfl (fun H locs hP hD hS _ => ?_)
    have hP : va_P D vwCl (LW cy u w out tl tc ol ct tr fv a G ak Gk As Gs Ah Gh th ap asl (vp_updL of 0 (lI (abt (a 0) (rq a) (a 25) (a 96) (a 117) (XI xs (i + 1))))) tl tc ct a fv) H := hP.perm ((pm_cABO cy u w out tl tc ol ct tr fv a G ak Gk As Gs Ah Gh th ap asl (vp_updL of 0 (lI (abt (a 0) (rq a) (a 25) (a 96) (a 117) (XI xs (i + 1))))) tl tc ct a fv).symm)
    have hD : va_D (fun q => s.heap.size ≤ q) (LW cy u w out tl tc ol ct tr fv a G ak Gk As Gs Ah Gh th ap asl (vp_updL of 0 (lI (abt (a 0) (rq a) (a 25) (a 96) (a 117) (XI xs (i + 1))))) tl tc ct a fv) := hD.perm ((pm_cABO cy u w out tl tc ol ct tr fv a G ak Gk As Gs Ah Gh th ap asl (vp_updL of 0 (lI (abt (a 0) (rq a) (a 25) (a 96) (a 117) (XI xs (i + 1))))) tl tc ct a fv).symm)
    refine lv_istore (lv' := [(5, vI 0), (4, vI i), (3, .ref out), (2, .ref (w 0 0)), (1, .ref (u 0 0)), (0, .ref b)]) F.1 F.2.1 dL_law_297 hl (by decide) rfl (fun ls hl => ?_)
    refine lv_aload_n F.1 F.2.1 dL_law_299 rfl (lv_at hl 3 rfl) ?_
    refine lv_aload_n F.1 F.2.1 dL_law_300 rfl (lv_at hl 5 rfl) ?_
    refine lv_iload F.1 F.2.1 dL_law_301 (lv_at hl 1 rfl) ?_
    refine rr_iconst F dL_law_303 ?_
    refine rr_iadd F (z := i + 1) dL_law_304 rfl ?_
    refine rr_sld F (A := fun q => s.heap.size ≤ q) hxs hb hbA hS (by omega) (by omega) hL dL_law_305 ?_
    refine rr_wrVp (rest := []) F hK (c_X7_about l D cy (w 0 0) (w 0 1) (w 0 2) (w 0 3) (w 0 4) (w 0 5) (w 0 6) tr ct tl a (XI xs (i + 1)) hM (XI_r _ _) (by first | assumption | omega | exact ⟨by omega, by omega⟩)) hP hD hS hA sf_X7_about tw936 7 rfl rfl ⟨Nat.le_of_ble_eq_true rfl, Nat.le_of_ble_eq_true rfl⟩ hl rfl (Nat.le_of_ble_eq_true rfl) dL_law_306 ⟨by show cells + 1 ≤ 601024; omega, by show slots + 6 ≤ 7293033; omega⟩ (pm_mN cy u w out tl tc ol ct tr fv a G ak Gk As Gs Ah Gh th ap asl (vp_updL of 0 (lI (abt (a 0) (rq a) (a 25) (a 96) (a 117) (XI xs (i + 1))))) tl tc ct a fv) rfl (fun H locs hP hD hS _ => ?_)
    have hP : va_P D vwCl (LW cy u w out tl tc ol ct 0 fv a G ak Gk As Gs Ah Gh th ap asl (vp_updL of 0 (lI (abt (a 0) (rq a) (a 25) (a 96) (a 117) (XI xs (i + 1))))) tl tc ct a fv) H := hP.perm ((pm_mN cy u w out tl tc ol ct 0 fv a G ak Gk As Gs Ah Gh th ap asl (vp_updL of 0 (lI (abt (a 0) (rq a) (a 25) (a 96) (a 117) (XI xs (i + 1))))) tl tc ct a fv).symm)
    have hD : va_D (fun q => s.heap.size ≤ q) (LW cy u w out tl tc ol ct 0 fv a G ak Gk As Gs Ah Gh th ap asl (vp_updL of 0 (lI (abt (a 0) (rq a) (a 25) (a 96) (a 117) (XI xs (i + 1))))) tl tc ct a fv) := hD.perm ((pm_mN cy u w out tl tc ol ct 0 fv a G ak Gk As Gs Ah Gh th ap asl (vp_updL of 0 (lI (abt (a 0) (rq a) (a 25) (a 96) (a 117) (XI xs (i + 1))))) tl tc ct a fv).symm)
    have hP : va_P D vwCl (LW cy u w out tl tc ol ct 0 fv a G ak Gk As Gs Ah Gh th ap asl (vp_updL of 0 (lI (abt (a 0) (rq a) (a 25) (a 96) (a 117) (XI xs (i + 1))))) tl tc ct a fv) H := hP
    have hD : va_D (fun q => s.heap.size ≤ q) (LW cy u w out tl tc ol ct 0 fv a G ak Gk As Gs Ah Gh th ap asl (vp_updL of 0 (lI (abt (a 0) (rq a) (a 25) (a 96) (a 117) (XI xs (i + 1))))) tl tc ct a fv) := hD
    refine lv_istore (lv' := [(6, vI (abt (a 0) (rq a) (a 25) (a 96) (a 117) (XI xs (i + 1)))), (5, vI 0), (4, vI i), (3, .ref out), (2, .ref (w 0 0)), (1, .ref (u 0 0)), (0, .ref b)]) F.1 F.2.1 dL_law_309 hl (by decide) rfl (fun ls hl => ?_)
    refine lv_aload_n F.1 F.2.1 dL_law_311 rfl (lv_at hl 4 rfl) ?_
    refine rr_rdVp (rest := []) F hK (c_X7_thrown l D cy (w 0 0) (w 0 1) (w 0 2) (w 0 3) (w 0 4) (w 0 5) (w 0 6) 0 ct tl) hP (pm_m0 cy u w out tl tc ol ct 0 fv a G ak Gk As Gs Ah Gh th ap asl (vp_updL of 0 (lI (abt (a 0) (rq a) (a 25) (a 96) (a 117) (XI xs (i + 1))))) tl tc ct a fv) sf_X7_thrown tw902 7 rfl rfl ⟨Nat.le_of_ble_eq_true rfl, Nat.le_of_ble_eq_true rfl⟩ hl rfl (Nat.le_of_ble_eq_true rfl) dL_law_312 ⟨by show cells + 1 ≤ 601024; omega, by show slots + 6 ≤ 7293033; omega⟩ ?_
    refine lv_iload F.1 F.2.1 dL_law_315 (lv_at hl 1 rfl) ?_
    refine rr_icmp_eq F (tgt := 322) dL_law_317 (by decide) ⟨by omega, by omega⟩ ⟨by omega, by omega⟩ (fun _ => ?_) (fun z => absurd rfl z)
    refine lv_iload F.1 F.2.1 dL_law_322 (lv_at hl 1 rfl) ?_
    refine rr_if_ne F (tgt := 339) dL_law_324 (by decide) ⟨by omega, by omega⟩ (fun z => absurd rfl z) (fun _ => ?_)
    refine lv_aload_n F.1 F.2.1 dL_law_327 rfl (lv_at hl 3 rfl) ?_
    refine rr_iconst F dL_law_328 ?_
    refine rr_lald0 F hK (hP.perm (pm_o cy u w out tl tc ol ct 0 fv a G ak Gk As Gs Ah Gh th ap asl (vp_updL of 0 (lI (abt (a 0) (rq a) (a 25) (a 96) (a 117) (XI xs (i + 1))))) tl tc ct a fv)) 0 rfl dL_law_329 ?_
    refine lv_iload F.1 F.2.1 dL_law_330 (lv_at hl 0 rfl) ?_
    refine rr_i2l F dL_law_332 hvr ?_
    refine rr_lcmp F (a := abt (a 0) (rq a) (a 25) (a 96) (a 117) (XI xs (i + 1))) (b := abt (a 0) (rq a) (a 25) (a 96) (a 117) (XI xs (i + 1))) dL_law_333 (inL_r hvr) (inL_r hvr) ?_
    refine rr_if_eq F (tgt := 339) dL_law_334 (by decide) (lcm_r _ _) (fun _ => ?_) (fun z => absurd ((lcm_spec _ _).2.1.mpr rfl) z)
    refine lv_goto (tgt := 2055) F.1 F.2.1 dL_law_339 (by decide) ?_
    exact kk _ _ _ _ _ _ _ _ _ _ _ _ _ _ _ _ _ _ H locs ls (hI.mono (by omega)) hP hD hS (lv_sub hl [2, 3, 4, 5, 6] rfl)
  · refine rr_twS (rest := []) F hK hX hZ1 (r_about_10 l hnt D cy sa (u 0 0) (u 1 0) (u 2 0) (u 3 0) (u 4 0) (u 0 1) (u 0 2) (XI xs (i + 1)) out (XI_r _ _) (by first | assumption | omega | exact ⟨by omega, by omega⟩)) hP hS sfw_about tw364 ⟨Nat.le_of_ble_eq_true rfl, Nat.le_of_ble_eq_true rfl⟩ hl rfl (Nat.le_of_ble_eq_true rfl) dL_law_294 ⟨by show cells + 1 ≤ 601024; omega, by show slots + 6 ≤ 7293033; omega⟩ (pm_c0 cy u w out tl tc ol ct tr fv a G ak Gk As Gs Ah Gh th ap asl of tl tc ct a fv) (fun H locs hP hS _ => ?_)
    refine lv_istore (lv' := [(5, vI 1), (4, vI i), (3, .ref out), (2, .ref (w 0 0)), (1, .ref (u 0 0)), (0, .ref b)]) F.1 F.2.1 dL_law_297 hl (by decide) rfl (fun ls hl => ?_)
    refine lv_aload_n F.1 F.2.1 dL_law_299 rfl (lv_at hl 3 rfl) ?_
    refine lv_aload_n F.1 F.2.1 dL_law_300 rfl (lv_at hl 5 rfl) ?_
    refine lv_iload F.1 F.2.1 dL_law_301 (lv_at hl 1 rfl) ?_
    refine rr_iconst F dL_law_303 ?_
    refine rr_iadd F (z := i + 1) dL_law_304 rfl ?_
    refine rr_sld F (A := fun q => s.heap.size ≤ q) hxs hb hbA hS (by omega) (by omega) hL dL_law_305 ?_
    have hcode : (1 : Int) = 1 := by first | rfl | ((repeat' split) <;> first | rfl | omega)
    refine rr_wrVp (rest := []) F hK (n_X7_about l D cy (w 0 0) (w 0 1) (w 0 2) (w 0 3) (w 0 4) (w 0 5) (w 0 6) tr ct tl a (XI xs (i + 1)) hM (XI_r _ _) (by first | assumption | omega)) hP hD hS hA sf_X7_about tw936 7 rfl rfl ⟨Nat.le_of_ble_eq_true rfl, Nat.le_of_ble_eq_true rfl⟩ hl rfl (Nat.le_of_ble_eq_true rfl) dL_law_306 ⟨by show cells + 1 ≤ 601024; omega, by show slots + 6 ≤ 7293033; omega⟩ (pm_mN cy u w out tl tc ol ct tr fv a G ak Gk As Gs Ah Gh th ap asl of tl tc ct a fv) rfl (fun H locs hP hD hS _ => ?_)
    have hP : va_P D vwCl (LW cy u w out tl tc ol ct 1 fv a G ak Gk As Gs Ah Gh th ap asl of tl tc ct a fv) H := hP.perm ((pm_mN cy u w out tl tc ol ct 1 fv a G ak Gk As Gs Ah Gh th ap asl of tl tc ct a fv).symm)
    have hD : va_D (fun q => s.heap.size ≤ q) (LW cy u w out tl tc ol ct 1 fv a G ak Gk As Gs Ah Gh th ap asl of tl tc ct a fv) := hD.perm ((pm_mN cy u w out tl tc ol ct 1 fv a G ak Gk As Gs Ah Gh th ap asl of tl tc ct a fv).symm)
    refine lv_istore (lv' := [(6, vI 0), (5, vI 1), (4, vI i), (3, .ref out), (2, .ref (w 0 0)), (1, .ref (u 0 0)), (0, .ref b)]) F.1 F.2.1 dL_law_309 hl (by decide) rfl (fun ls hl => ?_)
    refine lv_aload_n F.1 F.2.1 dL_law_311 rfl (lv_at hl 4 rfl) ?_
    refine rr_rdVp (rest := []) F hK (c_X7_thrown l D cy (w 0 0) (w 0 1) (w 0 2) (w 0 3) (w 0 4) (w 0 5) (w 0 6) 1 ct tl) hP (pm_m0 cy u w out tl tc ol ct 1 fv a G ak Gk As Gs Ah Gh th ap asl of tl tc ct a fv) sf_X7_thrown tw902 7 rfl rfl ⟨Nat.le_of_ble_eq_true rfl, Nat.le_of_ble_eq_true rfl⟩ hl rfl (Nat.le_of_ble_eq_true rfl) dL_law_312 ⟨by show cells + 1 ≤ 601024; omega, by show slots + 6 ≤ 7293033; omega⟩ ?_
    refine lv_iload F.1 F.2.1 dL_law_315 (lv_at hl 1 rfl) ?_
    refine rr_icmp_eq F (tgt := 322) dL_law_317 (by decide) ⟨by omega, by omega⟩ ⟨by omega, by omega⟩ (fun _ => ?_) (fun z => absurd rfl z)
    refine lv_iload F.1 F.2.1 dL_law_322 (lv_at hl 1 rfl) ?_
    refine rr_if_ne F (tgt := 339) dL_law_324 (by decide) ⟨by omega, by omega⟩ (fun _ => ?_) (fun z => by omega)
    refine lv_goto (tgt := 2055) F.1 F.2.1 dL_law_339 (by decide) ?_
    exact kk _ _ _ _ _ _ _ _ _ _ _ _ _ _ _ _ _ _ H locs ls (hI.mono (by omega)) hP hD hS (lv_sub hl [2, 3, 4, 5, 6] rfl)
set_option maxRecDepth 100000 in
set_option maxHeartbeats 8000000 in
theorem lc_at {p : Program} {l : Launch} {e : Env} {s : State} {m : MethodId} {args : Array Value} {below : List Frame} {meth : Method} {c : Code} {Q : State → Prop} {b L : Nat} {xs : Nat → Int32} {D : va_G} {cy : Nat → ClassId} {sa : Nat → Nat} {u w : NU} {out : Nat} (hnt : l.stackTraces = false) (F : FX p m c cL_law 7 s args RL) (hK : KK D cy s) (hX : XK sa s) (hZ0 : ZK (fun q => s.heap.size ≤ q) s s.heap) (hxs : va_X b L xs s s.heap) (hb : b < s.heap.size) (hL : L ≤ 2560) {N : Int} {tl : Int} {tc : Int → Int} {ol : Int} {ct : Int} {tr : Int} {fv : Int → Int} {a : Int → Int} {G : Int → Int → Int} {ak : Int → Int} {Gk : Int → Int → Int} {As : Nat → Int → Int} {Gs : Nat → Int → Int → Int} {Ah : Nat → Int → Int} {Gh : Nat → Int → Int → Int} {th : Int → Int} {ap : Int → Int} {asl : Int → Int} {of : Nat → Int64} (hI : INV N tl tc ol ct fv a G As Gs Ah Gh ap asl) (hN : 0 ≤ N ∧ N ≤ 80000000) {i : Int} (hi : 0 ≤ i ∧ i + 5 ≤ L) {H : Heap} {locs : List Loc} {cells slots : Nat} {ls : Array Slot} (hP : va_P D vwCl (LW cy u w out tl tc ol ct tr fv a G ak Gk As Gs Ah Gh th ap asl of tl tc ct a fv) H) (hD : va_D (fun q => s.heap.size ≤ q) (LW cy u w out tl tc ol ct tr fv a G ak Gk As Gs Ah Gh th ap asl of tl tc ct a fv)) (hS : va_S (fun q => s.heap.size ≤ q) s.heap H locs) (hl : lv_has ls 7 [(4, vI i), (3, .ref out), (2, .ref (w 0 0)), (1, .ref (u 0 0)), (0, .ref b)]) (hc : cells + 1 ≤ 601024 ∧ slots + 6 ≤ 7293033) (kk : LK p l e s m args below meth c D cy u w out b (N + 50) i (cells + 1) (slots + 6) Q) : W p l e room_1 s m args below meth c H locs cells slots Q (F0 m 342 ls []) := by
  have hT := hI.1
  obtain ⟨hZ, hSV, hsp0, hsp1⟩ := hI.2.1
  have hM := SB.mr hZ
  have hn0 := hM.n
  have hw0 := hM.nw
  have hc0 := hM.wc
  have hol := hI.2.2.1
  have hct := hI.2.2.2.1
  have hbA : ¬ (fun q => s.heap.size ≤ q) b := Nat.not_le.mpr hb
  have hA : ∀ q, s.heap.size ≤ q → (fun q => s.heap.size ≤ q) q := fun q h => h
  have hZ1 : ZK nA s H := (hZ0.kept (fun a h1 h2 => hS.2.1 a h1 h2)).narrow (fun _ h => h.elim)
  refine lv_aload_n F.1 F.2.1 dL_law_342 rfl (lv_at hl 3 rfl) ?_
  refine lv_aload_n F.1 F.2.1 dL_law_343 rfl (lv_at hl 4 rfl) ?_
  refine lv_iload F.1 F.2.1 dL_law_344 (lv_at hl 0 rfl) ?_
  refine rr_iconst F dL_law_346 ?_
  refine rr_iadd F (z := i + 1) dL_law_347 rfl ?_
  refine rr_sld F (A := fun q => s.heap.size ≤ q) hxs hb hbA hS (by omega) (by omega) hL dL_law_348 ?_
  refine lv_aload_n F.1 F.2.1 dL_law_349 rfl (lv_at hl 1 rfl) ?_
  have hb_1 := XI_b xs (i + 1)
  by_cases hx0 : 0 ≤ (XI xs (i + 1)) ∧ (XI xs (i + 1)) < (a 0)
  · refine W.widen (k := cells + 1) (n := slots + 6) (by omega) (by omega) ?_
    have hvr : inR (sc ((rq a) (XI xs (i + 1)))) := sc_r hM (by omega)
    refine rr_wwS (rest := []) F hK (w_at l D cy (u 0 0) (u 1 0) (u 3 0) (u 4 0) (u 0 1) (u 0 2) (u 2 0) (u 2 6) (a 96) (a 117) (u 2 1) (u 2 2) (a 0) (G 0) (rq a) (u 2 3) (u 2 4) (u 2 5) (a 25) (G 6) (G 7) (rbl a) (rbc a) (XI xs (i + 1)) out of (SB.rg hZ) (SB.bk hZ) (by first | assumption | omega | exact ⟨by omega, by omega⟩) hvr) hP hD hS hA sfw_at tw397 ⟨Nat.le_of_ble_eq_true rfl, Nat.le_of_ble_eq_true rfl⟩ hl rfl (Nat.le_of_ble_eq_true rfl) dL_law_350 ⟨by show cells + 1 ≤ 601024; omega, by show slots + 6 ≤ 7293033; omega⟩ (pm_cABO cy u w out tl tc ol ct tr fv a G ak Gk As Gs Ah Gh th ap asl of tl tc ct a fv) rfl (fun H locs hP hD hS _ => ?_)
    have hP : va_P D vwCl (LW cy u w out tl tc ol ct tr fv a G ak Gk As Gs Ah Gh th ap asl (vp_updL of 0 (lI (sc ((rq a) (XI xs (i + 1)))))) tl tc ct a fv) H := hP.perm ((pm_cABO cy u w out tl tc ol ct tr fv a G ak Gk As Gs Ah Gh th ap asl (vp_updL of 0 (lI (sc ((rq a) (XI xs (i + 1)))))) tl tc ct a fv).symm)
    have hD : va_D (fun q => s.heap.size ≤ q) (LW cy u w out tl tc ol ct tr fv a G ak Gk As Gs Ah Gh th ap asl (vp_updL of 0 (lI (sc ((rq a) (XI xs (i + 1)))))) tl tc ct a fv) := hD.perm ((pm_cABO cy u w out tl tc ol ct tr fv a G ak Gk As Gs Ah Gh th ap asl (vp_updL of 0 (lI (sc ((rq a) (XI xs (i + 1)))))) tl tc ct a fv).symm)
    refine lv_istore (lv' := [(5, vI 0), (4, vI i), (3, .ref out), (2, .ref (w 0 0)), (1, .ref (u 0 0)), (0, .ref b)]) F.1 F.2.1 dL_law_353 hl (by decide) rfl (fun ls hl => ?_)
    refine lv_aload_n F.1 F.2.1 dL_law_355 rfl (lv_at hl 3 rfl) ?_
    refine lv_aload_n F.1 F.2.1 dL_law_356 rfl (lv_at hl 5 rfl) ?_
    refine lv_iload F.1 F.2.1 dL_law_357 (lv_at hl 1 rfl) ?_
    refine rr_iconst F dL_law_359 ?_
    refine rr_iadd F (z := i + 1) dL_law_360 rfl ?_
    refine rr_sld F (A := fun q => s.heap.size ≤ q) hxs hb hbA hS (by omega) (by omega) hL dL_law_361 ?_
    refine rr_wrVp (rest := []) F hK (c_X7_at l D cy (w 0 0) (w 0 1) (w 0 2) (w 0 3) (w 0 4) (w 0 5) (w 0 6) tr ct tl a (XI xs (i + 1)) hM (XI_r _ _) (by first | assumption | omega | exact ⟨by omega, by omega⟩)) hP hD hS hA sf_X7_at tw981 7 rfl rfl ⟨Nat.le_of_ble_eq_true rfl, Nat.le_of_ble_eq_true rfl⟩ hl rfl (Nat.le_of_ble_eq_true rfl) dL_law_362 ⟨by show cells + 1 ≤ 601024; omega, by show slots + 6 ≤ 7293033; omega⟩ (pm_mN cy u w out tl tc ol ct tr fv a G ak Gk As Gs Ah Gh th ap asl (vp_updL of 0 (lI (sc ((rq a) (XI xs (i + 1)))))) tl tc ct a fv) rfl (fun H locs hP hD hS _ => ?_)
    have hP : va_P D vwCl (LW cy u w out tl tc ol ct 0 fv a G ak Gk As Gs Ah Gh th ap asl (vp_updL of 0 (lI (sc ((rq a) (XI xs (i + 1)))))) tl tc ct a fv) H := hP.perm ((pm_mN cy u w out tl tc ol ct 0 fv a G ak Gk As Gs Ah Gh th ap asl (vp_updL of 0 (lI (sc ((rq a) (XI xs (i + 1)))))) tl tc ct a fv).symm)
    have hD : va_D (fun q => s.heap.size ≤ q) (LW cy u w out tl tc ol ct 0 fv a G ak Gk As Gs Ah Gh th ap asl (vp_updL of 0 (lI (sc ((rq a) (XI xs (i + 1)))))) tl tc ct a fv) := hD.perm ((pm_mN cy u w out tl tc ol ct 0 fv a G ak Gk As Gs Ah Gh th ap asl (vp_updL of 0 (lI (sc ((rq a) (XI xs (i + 1)))))) tl tc ct a fv).symm)
    have hP : va_P D vwCl (LW cy u w out tl tc ol ct 0 fv a G ak Gk As Gs Ah Gh th ap asl (vp_updL of 0 (lI (sc ((rq a) (XI xs (i + 1)))))) tl tc ct a fv) H := hP
    have hD : va_D (fun q => s.heap.size ≤ q) (LW cy u w out tl tc ol ct 0 fv a G ak Gk As Gs Ah Gh th ap asl (vp_updL of 0 (lI (sc ((rq a) (XI xs (i + 1)))))) tl tc ct a fv) := hD
    refine lv_istore (lv' := [(6, vI (sc ((rq a) (XI xs (i + 1))))), (5, vI 0), (4, vI i), (3, .ref out), (2, .ref (w 0 0)), (1, .ref (u 0 0)), (0, .ref b)]) F.1 F.2.1 dL_law_365 hl (by decide) rfl (fun ls hl => ?_)
    refine lv_aload_n F.1 F.2.1 dL_law_367 rfl (lv_at hl 4 rfl) ?_
    refine rr_rdVp (rest := []) F hK (c_X7_thrown l D cy (w 0 0) (w 0 1) (w 0 2) (w 0 3) (w 0 4) (w 0 5) (w 0 6) 0 ct tl) hP (pm_m0 cy u w out tl tc ol ct 0 fv a G ak Gk As Gs Ah Gh th ap asl (vp_updL of 0 (lI (sc ((rq a) (XI xs (i + 1)))))) tl tc ct a fv) sf_X7_thrown tw902 7 rfl rfl ⟨Nat.le_of_ble_eq_true rfl, Nat.le_of_ble_eq_true rfl⟩ hl rfl (Nat.le_of_ble_eq_true rfl) dL_law_368 ⟨by show cells + 1 ≤ 601024; omega, by show slots + 6 ≤ 7293033; omega⟩ ?_
    refine lv_iload F.1 F.2.1 dL_law_371 (lv_at hl 1 rfl) ?_
    refine rr_icmp_eq F (tgt := 378) dL_law_373 (by decide) ⟨by omega, by omega⟩ ⟨by omega, by omega⟩ (fun _ => ?_) (fun z => absurd rfl z)
    refine lv_iload F.1 F.2.1 dL_law_378 (lv_at hl 1 rfl) ?_
    refine rr_if_ne F (tgt := 395) dL_law_380 (by decide) ⟨by omega, by omega⟩ (fun z => absurd rfl z) (fun _ => ?_)
    refine lv_aload_n F.1 F.2.1 dL_law_383 rfl (lv_at hl 3 rfl) ?_
    refine rr_iconst F dL_law_384 ?_
    refine rr_lald0 F hK (hP.perm (pm_o cy u w out tl tc ol ct 0 fv a G ak Gk As Gs Ah Gh th ap asl (vp_updL of 0 (lI (sc ((rq a) (XI xs (i + 1)))))) tl tc ct a fv)) 0 rfl dL_law_385 ?_
    refine lv_iload F.1 F.2.1 dL_law_386 (lv_at hl 0 rfl) ?_
    refine rr_i2l F dL_law_388 hvr ?_
    refine rr_lcmp F (a := sc ((rq a) (XI xs (i + 1)))) (b := sc ((rq a) (XI xs (i + 1)))) dL_law_389 (inL_r hvr) (inL_r hvr) ?_
    refine rr_if_eq F (tgt := 395) dL_law_390 (by decide) (lcm_r _ _) (fun _ => ?_) (fun z => absurd ((lcm_spec _ _).2.1.mpr rfl) z)
    refine lv_goto (tgt := 2055) F.1 F.2.1 dL_law_395 (by decide) ?_
    exact kk _ _ _ _ _ _ _ _ _ _ _ _ _ _ _ _ _ _ H locs ls (hI.mono (by omega)) hP hD hS (lv_sub hl [2, 3, 4, 5, 6] rfl)
  · refine rr_twS (rest := []) F hK hX hZ1 (r_at_14 l hnt D cy sa (u 0 0) (u 1 0) (u 3 0) (u 4 0) (u 0 1) (u 0 2) (u 2 0) (u 2 6) (a 96) (a 117) (u 2 1) (u 2 2) (a 0) (G 0) (rq a) (u 2 3) (u 2 4) (u 2 5) (a 25) (G 6) (G 7) (rbl a) (rbc a) (XI xs (i + 1)) out (SB.rg hZ) (SB.bk hZ) (XI_r _ _) (by first | assumption | omega | exact ⟨by omega, by omega⟩)) hP hS sfw_at tw397 ⟨Nat.le_of_ble_eq_true rfl, Nat.le_of_ble_eq_true rfl⟩ hl rfl (Nat.le_of_ble_eq_true rfl) dL_law_350 ⟨by show cells + 1 ≤ 601024; omega, by show slots + 6 ≤ 7293033; omega⟩ (pm_cAB cy u w out tl tc ol ct tr fv a G ak Gk As Gs Ah Gh th ap asl of tl tc ct a fv) (fun H locs hP hS _ => ?_)
    refine lv_istore (lv' := [(5, vI 1), (4, vI i), (3, .ref out), (2, .ref (w 0 0)), (1, .ref (u 0 0)), (0, .ref b)]) F.1 F.2.1 dL_law_353 hl (by decide) rfl (fun ls hl => ?_)
    refine lv_aload_n F.1 F.2.1 dL_law_355 rfl (lv_at hl 3 rfl) ?_
    refine lv_aload_n F.1 F.2.1 dL_law_356 rfl (lv_at hl 5 rfl) ?_
    refine lv_iload F.1 F.2.1 dL_law_357 (lv_at hl 1 rfl) ?_
    refine rr_iconst F dL_law_359 ?_
    refine rr_iadd F (z := i + 1) dL_law_360 rfl ?_
    refine rr_sld F (A := fun q => s.heap.size ≤ q) hxs hb hbA hS (by omega) (by omega) hL dL_law_361 ?_
    have hcode : (1 : Int) = 1 := by first | rfl | ((repeat' split) <;> first | rfl | omega)
    refine rr_wrVp (rest := []) F hK (n_X7_at l D cy (w 0 0) (w 0 1) (w 0 2) (w 0 3) (w 0 4) (w 0 5) (w 0 6) tr ct tl a (XI xs (i + 1)) hM (XI_r _ _) (by first | assumption | omega)) hP hD hS hA sf_X7_at tw981 7 rfl rfl ⟨Nat.le_of_ble_eq_true rfl, Nat.le_of_ble_eq_true rfl⟩ hl rfl (Nat.le_of_ble_eq_true rfl) dL_law_362 ⟨by show cells + 1 ≤ 601024; omega, by show slots + 6 ≤ 7293033; omega⟩ (pm_mN cy u w out tl tc ol ct tr fv a G ak Gk As Gs Ah Gh th ap asl of tl tc ct a fv) rfl (fun H locs hP hD hS _ => ?_)
    have hP : va_P D vwCl (LW cy u w out tl tc ol ct 1 fv a G ak Gk As Gs Ah Gh th ap asl of tl tc ct a fv) H := hP.perm ((pm_mN cy u w out tl tc ol ct 1 fv a G ak Gk As Gs Ah Gh th ap asl of tl tc ct a fv).symm)
    have hD : va_D (fun q => s.heap.size ≤ q) (LW cy u w out tl tc ol ct 1 fv a G ak Gk As Gs Ah Gh th ap asl of tl tc ct a fv) := hD.perm ((pm_mN cy u w out tl tc ol ct 1 fv a G ak Gk As Gs Ah Gh th ap asl of tl tc ct a fv).symm)
    refine lv_istore (lv' := [(6, vI 0), (5, vI 1), (4, vI i), (3, .ref out), (2, .ref (w 0 0)), (1, .ref (u 0 0)), (0, .ref b)]) F.1 F.2.1 dL_law_365 hl (by decide) rfl (fun ls hl => ?_)
    refine lv_aload_n F.1 F.2.1 dL_law_367 rfl (lv_at hl 4 rfl) ?_
    refine rr_rdVp (rest := []) F hK (c_X7_thrown l D cy (w 0 0) (w 0 1) (w 0 2) (w 0 3) (w 0 4) (w 0 5) (w 0 6) 1 ct tl) hP (pm_m0 cy u w out tl tc ol ct 1 fv a G ak Gk As Gs Ah Gh th ap asl of tl tc ct a fv) sf_X7_thrown tw902 7 rfl rfl ⟨Nat.le_of_ble_eq_true rfl, Nat.le_of_ble_eq_true rfl⟩ hl rfl (Nat.le_of_ble_eq_true rfl) dL_law_368 ⟨by show cells + 1 ≤ 601024; omega, by show slots + 6 ≤ 7293033; omega⟩ ?_
    refine lv_iload F.1 F.2.1 dL_law_371 (lv_at hl 1 rfl) ?_
    refine rr_icmp_eq F (tgt := 378) dL_law_373 (by decide) ⟨by omega, by omega⟩ ⟨by omega, by omega⟩ (fun _ => ?_) (fun z => absurd rfl z)
    refine lv_iload F.1 F.2.1 dL_law_378 (lv_at hl 1 rfl) ?_
    refine rr_if_ne F (tgt := 395) dL_law_380 (by decide) ⟨by omega, by omega⟩ (fun _ => ?_) (fun z => by omega)
    refine lv_goto (tgt := 2055) F.1 F.2.1 dL_law_395 (by decide) ?_
    exact kk _ _ _ _ _ _ _ _ _ _ _ _ _ _ _ _ _ _ H locs ls (hI.mono (by omega)) hP hD hS (lv_sub hl [2, 3, 4, 5, 6] rfl)
set_option maxRecDepth 100000 in
set_option maxHeartbeats 8000000 in
theorem lc_letter {p : Program} {l : Launch} {e : Env} {s : State} {m : MethodId} {args : Array Value} {below : List Frame} {meth : Method} {c : Code} {Q : State → Prop} {b L : Nat} {xs : Nat → Int32} {D : va_G} {cy : Nat → ClassId} {sa : Nat → Nat} {u w : NU} {out : Nat} (hnt : l.stackTraces = false) (F : FX p m c cL_law 7 s args RL) (hK : KK D cy s) (hX : XK sa s) (hZ0 : ZK (fun q => s.heap.size ≤ q) s s.heap) (hxs : va_X b L xs s s.heap) (hb : b < s.heap.size) (hL : L ≤ 2560) {N : Int} {tl : Int} {tc : Int → Int} {ol : Int} {ct : Int} {tr : Int} {fv : Int → Int} {a : Int → Int} {G : Int → Int → Int} {ak : Int → Int} {Gk : Int → Int → Int} {As : Nat → Int → Int} {Gs : Nat → Int → Int → Int} {Ah : Nat → Int → Int} {Gh : Nat → Int → Int → Int} {th : Int → Int} {ap : Int → Int} {asl : Int → Int} {of : Nat → Int64} (hI : INV N tl tc ol ct fv a G As Gs Ah Gh ap asl) (hN : 0 ≤ N ∧ N ≤ 80000000) {i : Int} (hi : 0 ≤ i ∧ i + 5 ≤ L) {H : Heap} {locs : List Loc} {cells slots : Nat} {ls : Array Slot} (hP : va_P D vwCl (LW cy u w out tl tc ol ct tr fv a G ak Gk As Gs Ah Gh th ap asl of tl tc ct a fv) H) (hD : va_D (fun q => s.heap.size ≤ q) (LW cy u w out tl tc ol ct tr fv a G ak Gk As Gs Ah Gh th ap asl of tl tc ct a fv)) (hS : va_S (fun q => s.heap.size ≤ q) s.heap H locs) (hl : lv_has ls 7 [(4, vI i), (3, .ref out), (2, .ref (w 0 0)), (1, .ref (u 0 0)), (0, .ref b)]) (hc : cells + 1 ≤ 601024 ∧ slots + 6 ≤ 7293033) (kk : LK p l e s m args below meth c D cy u w out b (N + 50) i (cells + 1) (slots + 6) Q) : W p l e room_1 s m args below meth c H locs cells slots Q (F0 m 398 ls []) := by
  have hT := hI.1
  obtain ⟨hZ, hSV, hsp0, hsp1⟩ := hI.2.1
  have hM := SB.mr hZ
  have hn0 := hM.n
  have hw0 := hM.nw
  have hc0 := hM.wc
  have hol := hI.2.2.1
  have hct := hI.2.2.2.1
  have hbA : ¬ (fun q => s.heap.size ≤ q) b := Nat.not_le.mpr hb
  have hA : ∀ q, s.heap.size ≤ q → (fun q => s.heap.size ≤ q) q := fun q h => h
  have hZ1 : ZK nA s H := (hZ0.kept (fun a h1 h2 => hS.2.1 a h1 h2)).narrow (fun _ h => h.elim)
  refine lv_aload_n F.1 F.2.1 dL_law_398 rfl (lv_at hl 3 rfl) ?_
  refine lv_aload_n F.1 F.2.1 dL_law_399 rfl (lv_at hl 4 rfl) ?_
  refine lv_iload F.1 F.2.1 dL_law_400 (lv_at hl 0 rfl) ?_
  refine rr_iconst F dL_law_402 ?_
  refine rr_iadd F (z := i + 1) dL_law_403 rfl ?_
  refine rr_sld F (A := fun q => s.heap.size ≤ q) hxs hb hbA hS (by omega) (by omega) hL dL_law_404 ?_
  refine lv_aload_n F.1 F.2.1 dL_law_405 rfl (lv_at hl 4 rfl) ?_
  refine lv_iload F.1 F.2.1 dL_law_406 (lv_at hl 0 rfl) ?_
  refine rr_iconst F dL_law_408 ?_
  refine rr_iadd F (z := i + 2) dL_law_409 rfl ?_
  refine rr_sld F (A := fun q => s.heap.size ≤ q) hxs hb hbA hS (by omega) (by omega) hL dL_law_410 ?_
  refine lv_aload_n F.1 F.2.1 dL_law_411 rfl (lv_at hl 1 rfl) ?_
  have hb_1 := XI_b xs (i + 1)
  have hb_2 := XI_b xs (i + 2)
  by_cases hx0 : 0 ≤ (XI xs (i + 1)) ∧ (XI xs (i + 1)) < (a 25)
  · by_cases hx1 : 0 ≤ (XI xs (i + 2))
    · refine W.widen (k := cells + 1) (n := slots + 6) (by omega) (by omega) ?_
      have hvr : inR (if (XI xs (i + 2)) < (rbl a) (XI xs (i + 1)) then 96 + (rbc a) (XI xs (i + 1)) (XI xs (i + 2)) else -1) := let_r hM (by omega) (by omega)
      refine rr_wwS (rest := []) F hK (w_letter l D cy (u 0 0) (u 1 0) (u 3 0) (u 4 0) (u 0 1) (u 0 2) (u 2 0) (u 2 6) (a 96) (a 117) (u 2 1) (u 2 2) (a 0) (G 0) (rq a) (u 2 3) (u 2 4) (u 2 5) (a 25) (G 6) (G 7) (rbl a) (rbc a) (XI xs (i + 1)) (XI xs (i + 2)) out of (SB.rg hZ) (SB.bk hZ) (by first | assumption | omega | exact ⟨by omega, by omega⟩) (by first | assumption | omega | exact ⟨by omega, by omega⟩) hvr) hP hD hS hA sfw_letter tw426 ⟨Nat.le_of_ble_eq_true rfl, Nat.le_of_ble_eq_true rfl⟩ hl rfl (Nat.le_of_ble_eq_true rfl) dL_law_412 ⟨by show cells + 1 ≤ 601024; omega, by show slots + 6 ≤ 7293033; omega⟩ (pm_cABO cy u w out tl tc ol ct tr fv a G ak Gk As Gs Ah Gh th ap asl of tl tc ct a fv) rfl (fun H locs hP hD hS _ => ?_)
      have hP : va_P D vwCl (LW cy u w out tl tc ol ct tr fv a G ak Gk As Gs Ah Gh th ap asl (vp_updL of 0 (lI (if (XI xs (i + 2)) < (rbl a) (XI xs (i + 1)) then 96 + (rbc a) (XI xs (i + 1)) (XI xs (i + 2)) else -1))) tl tc ct a fv) H := hP.perm ((pm_cABO cy u w out tl tc ol ct tr fv a G ak Gk As Gs Ah Gh th ap asl (vp_updL of 0 (lI (if (XI xs (i + 2)) < (rbl a) (XI xs (i + 1)) then 96 + (rbc a) (XI xs (i + 1)) (XI xs (i + 2)) else -1))) tl tc ct a fv).symm)
      have hD : va_D (fun q => s.heap.size ≤ q) (LW cy u w out tl tc ol ct tr fv a G ak Gk As Gs Ah Gh th ap asl (vp_updL of 0 (lI (if (XI xs (i + 2)) < (rbl a) (XI xs (i + 1)) then 96 + (rbc a) (XI xs (i + 1)) (XI xs (i + 2)) else -1))) tl tc ct a fv) := hD.perm ((pm_cABO cy u w out tl tc ol ct tr fv a G ak Gk As Gs Ah Gh th ap asl (vp_updL of 0 (lI (if (XI xs (i + 2)) < (rbl a) (XI xs (i + 1)) then 96 + (rbc a) (XI xs (i + 1)) (XI xs (i + 2)) else -1))) tl tc ct a fv).symm)
      refine lv_istore (lv' := [(5, vI 0), (4, vI i), (3, .ref out), (2, .ref (w 0 0)), (1, .ref (u 0 0)), (0, .ref b)]) F.1 F.2.1 dL_law_415 hl (by decide) rfl (fun ls hl => ?_)
      refine lv_aload_n F.1 F.2.1 dL_law_417 rfl (lv_at hl 3 rfl) ?_
      refine lv_aload_n F.1 F.2.1 dL_law_418 rfl (lv_at hl 5 rfl) ?_
      refine lv_iload F.1 F.2.1 dL_law_419 (lv_at hl 1 rfl) ?_
      refine rr_iconst F dL_law_421 ?_
      refine rr_iadd F (z := i + 1) dL_law_422 rfl ?_
      refine rr_sld F (A := fun q => s.heap.size ≤ q) hxs hb hbA hS (by omega) (by omega) hL dL_law_423 ?_
      refine lv_aload_n F.1 F.2.1 dL_law_424 rfl (lv_at hl 5 rfl) ?_
      refine lv_iload F.1 F.2.1 dL_law_425 (lv_at hl 1 rfl) ?_
      refine rr_iconst F dL_law_427 ?_
      refine rr_iadd F (z := i + 2) dL_law_428 rfl ?_
      refine rr_sld F (A := fun q => s.heap.size ≤ q) hxs hb hbA hS (by omega) (by omega) hL dL_law_429 ?_
      refine rr_wrVp (rest := []) F hK (c_X7_letter l D cy (w 0 0) (w 0 1) (w 0 2) (w 0 3) (w 0 4) (w 0 5) (w 0 6) tr ct tl a (XI xs (i + 1)) (XI xs (i + 2)) hM (XI_r _ _) (XI_r _ _) (by first | assumption | omega | exact ⟨by omega, by omega⟩) (by first | assumption | omega | exact ⟨by omega, by omega⟩)) hP hD hS hA sf_X7_letter tw992 7 rfl rfl ⟨Nat.le_of_ble_eq_true rfl, Nat.le_of_ble_eq_true rfl⟩ hl rfl (Nat.le_of_ble_eq_true rfl) dL_law_430 ⟨by show cells + 1 ≤ 601024; omega, by show slots + 6 ≤ 7293033; omega⟩ (pm_mN cy u w out tl tc ol ct tr fv a G ak Gk As Gs Ah Gh th ap asl (vp_updL of 0 (lI (if (XI xs (i + 2)) < (rbl a) (XI xs (i + 1)) then 96 + (rbc a) (XI xs (i + 1)) (XI xs (i + 2)) else -1))) tl tc ct a fv) rfl (fun H locs hP hD hS _ => ?_)
      have hP : va_P D vwCl (LW cy u w out tl tc ol ct 0 fv a G ak Gk As Gs Ah Gh th ap asl (vp_updL of 0 (lI (if (XI xs (i + 2)) < (rbl a) (XI xs (i + 1)) then 96 + (rbc a) (XI xs (i + 1)) (XI xs (i + 2)) else -1))) tl tc ct a fv) H := hP.perm ((pm_mN cy u w out tl tc ol ct 0 fv a G ak Gk As Gs Ah Gh th ap asl (vp_updL of 0 (lI (if (XI xs (i + 2)) < (rbl a) (XI xs (i + 1)) then 96 + (rbc a) (XI xs (i + 1)) (XI xs (i + 2)) else -1))) tl tc ct a fv).symm)
      have hD : va_D (fun q => s.heap.size ≤ q) (LW cy u w out tl tc ol ct 0 fv a G ak Gk As Gs Ah Gh th ap asl (vp_updL of 0 (lI (if (XI xs (i + 2)) < (rbl a) (XI xs (i + 1)) then 96 + (rbc a) (XI xs (i + 1)) (XI xs (i + 2)) else -1))) tl tc ct a fv) := hD.perm ((pm_mN cy u w out tl tc ol ct 0 fv a G ak Gk As Gs Ah Gh th ap asl (vp_updL of 0 (lI (if (XI xs (i + 2)) < (rbl a) (XI xs (i + 1)) then 96 + (rbc a) (XI xs (i + 1)) (XI xs (i + 2)) else -1))) tl tc ct a fv).symm)
      have hP : va_P D vwCl (LW cy u w out tl tc ol ct 0 fv a G ak Gk As Gs Ah Gh th ap asl (vp_updL of 0 (lI (if (XI xs (i + 2)) < (rbl a) (XI xs (i + 1)) then 96 + (rbc a) (XI xs (i + 1)) (XI xs (i + 2)) else -1))) tl tc ct a fv) H := hP
      have hD : va_D (fun q => s.heap.size ≤ q) (LW cy u w out tl tc ol ct 0 fv a G ak Gk As Gs Ah Gh th ap asl (vp_updL of 0 (lI (if (XI xs (i + 2)) < (rbl a) (XI xs (i + 1)) then 96 + (rbc a) (XI xs (i + 1)) (XI xs (i + 2)) else -1))) tl tc ct a fv) := hD
      rw [show (if (XI xs (i + 2)) < a (26 + 7 * (XI xs (i + 1))) then sc (a (26 + 7 * (XI xs (i + 1)) + 1 + (XI xs (i + 2)))) else -1 : Int) = (if (XI xs (i + 2)) < (rbl a) (XI xs (i + 1)) then 96 + (rbc a) (XI xs (i + 1)) (XI xs (i + 2)) else -1) from lk_letter hZ (by omega) (by omega)]
      refine lv_istore (lv' := [(6, vI (if (XI xs (i + 2)) < (rbl a) (XI xs (i + 1)) then 96 + (rbc a) (XI xs (i + 1)) (XI xs (i + 2)) else -1)), (5, vI 0), (4, vI i), (3, .ref out), (2, .ref (w 0 0)), (1, .ref (u 0 0)), (0, .ref b)]) F.1 F.2.1 dL_law_433 hl (by decide) rfl (fun ls hl => ?_)
      refine lv_aload_n F.1 F.2.1 dL_law_435 rfl (lv_at hl 4 rfl) ?_
      refine rr_rdVp (rest := []) F hK (c_X7_thrown l D cy (w 0 0) (w 0 1) (w 0 2) (w 0 3) (w 0 4) (w 0 5) (w 0 6) 0 ct tl) hP (pm_m0 cy u w out tl tc ol ct 0 fv a G ak Gk As Gs Ah Gh th ap asl (vp_updL of 0 (lI (if (XI xs (i + 2)) < (rbl a) (XI xs (i + 1)) then 96 + (rbc a) (XI xs (i + 1)) (XI xs (i + 2)) else -1))) tl tc ct a fv) sf_X7_thrown tw902 7 rfl rfl ⟨Nat.le_of_ble_eq_true rfl, Nat.le_of_ble_eq_true rfl⟩ hl rfl (Nat.le_of_ble_eq_true rfl) dL_law_436 ⟨by show cells + 1 ≤ 601024; omega, by show slots + 6 ≤ 7293033; omega⟩ ?_
      refine lv_iload F.1 F.2.1 dL_law_439 (lv_at hl 1 rfl) ?_
      refine rr_icmp_eq F (tgt := 446) dL_law_441 (by decide) ⟨by omega, by omega⟩ ⟨by omega, by omega⟩ (fun _ => ?_) (fun z => absurd rfl z)
      refine lv_iload F.1 F.2.1 dL_law_446 (lv_at hl 1 rfl) ?_
      refine rr_if_ne F (tgt := 463) dL_law_448 (by decide) ⟨by omega, by omega⟩ (fun z => absurd rfl z) (fun _ => ?_)
      refine lv_aload_n F.1 F.2.1 dL_law_451 rfl (lv_at hl 3 rfl) ?_
      refine rr_iconst F dL_law_452 ?_
      refine rr_lald0 F hK (hP.perm (pm_o cy u w out tl tc ol ct 0 fv a G ak Gk As Gs Ah Gh th ap asl (vp_updL of 0 (lI (if (XI xs (i + 2)) < (rbl a) (XI xs (i + 1)) then 96 + (rbc a) (XI xs (i + 1)) (XI xs (i + 2)) else -1))) tl tc ct a fv)) 0 rfl dL_law_453 ?_
      refine lv_iload F.1 F.2.1 dL_law_454 (lv_at hl 0 rfl) ?_
      refine rr_i2l F dL_law_456 hvr ?_
      refine rr_lcmp F (a := if (XI xs (i + 2)) < (rbl a) (XI xs (i + 1)) then 96 + (rbc a) (XI xs (i + 1)) (XI xs (i + 2)) else -1) (b := if (XI xs (i + 2)) < (rbl a) (XI xs (i + 1)) then 96 + (rbc a) (XI xs (i + 1)) (XI xs (i + 2)) else -1) dL_law_457 (inL_r hvr) (inL_r hvr) ?_
      refine rr_if_eq F (tgt := 463) dL_law_458 (by decide) (lcm_r _ _) (fun _ => ?_) (fun z => absurd ((lcm_spec _ _).2.1.mpr rfl) z)
      refine lv_goto (tgt := 2055) F.1 F.2.1 dL_law_463 (by decide) ?_
      exact kk _ _ _ _ _ _ _ _ _ _ _ _ _ _ _ _ _ _ H locs ls (hI.mono (by omega)) hP hD hS (lv_sub hl [2, 3, 4, 5, 6] rfl)
    · refine rr_twS (rest := []) F hK hX hZ1 (r_letter_28 l hnt D cy sa (u 0 0) (u 1 0) (u 3 0) (u 4 0) (u 0 1) (u 0 2) (u 2 0) (u 2 6) (a 96) (a 117) (u 2 1) (u 2 2) (a 0) (G 0) (rq a) (u 2 3) (u 2 4) (u 2 5) (a 25) (G 6) (G 7) (rbl a) (rbc a) (XI xs (i + 1)) (XI xs (i + 2)) out (SB.rg hZ) (SB.bk hZ) (XI_r _ _) (XI_r _ _) (by first | assumption | omega | exact ⟨by omega, by omega⟩) (by first | assumption | omega | exact ⟨by omega, by omega⟩)) hP hS sfw_letter tw426 ⟨Nat.le_of_ble_eq_true rfl, Nat.le_of_ble_eq_true rfl⟩ hl rfl (Nat.le_of_ble_eq_true rfl) dL_law_412 ⟨by show cells + 1 ≤ 601024; omega, by show slots + 6 ≤ 7293033; omega⟩ (pm_cAB cy u w out tl tc ol ct tr fv a G ak Gk As Gs Ah Gh th ap asl of tl tc ct a fv) (fun H locs hP hS _ => ?_)
      refine lv_istore (lv' := [(5, vI 2), (4, vI i), (3, .ref out), (2, .ref (w 0 0)), (1, .ref (u 0 0)), (0, .ref b)]) F.1 F.2.1 dL_law_415 hl (by decide) rfl (fun ls hl => ?_)
      refine lv_aload_n F.1 F.2.1 dL_law_417 rfl (lv_at hl 3 rfl) ?_
      refine lv_aload_n F.1 F.2.1 dL_law_418 rfl (lv_at hl 5 rfl) ?_
      refine lv_iload F.1 F.2.1 dL_law_419 (lv_at hl 1 rfl) ?_
      refine rr_iconst F dL_law_421 ?_
      refine rr_iadd F (z := i + 1) dL_law_422 rfl ?_
      refine rr_sld F (A := fun q => s.heap.size ≤ q) hxs hb hbA hS (by omega) (by omega) hL dL_law_423 ?_
      refine lv_aload_n F.1 F.2.1 dL_law_424 rfl (lv_at hl 5 rfl) ?_
      refine lv_iload F.1 F.2.1 dL_law_425 (lv_at hl 1 rfl) ?_
      refine rr_iconst F dL_law_427 ?_
      refine rr_iadd F (z := i + 2) dL_law_428 rfl ?_
      refine rr_sld F (A := fun q => s.heap.size ≤ q) hxs hb hbA hS (by omega) (by omega) hL dL_law_429 ?_
      have hcode : (if 0 ≤ (XI xs (i + 1)) ∧ (XI xs (i + 1)) < a 25 then 2 else 1 : Int) = 2 := by first | rfl | ((repeat' split) <;> first | rfl | omega)
      refine rr_wrVp (rest := []) F hK (n_X7_letter l D cy (w 0 0) (w 0 1) (w 0 2) (w 0 3) (w 0 4) (w 0 5) (w 0 6) tr ct tl a (XI xs (i + 1)) (XI xs (i + 2)) hM (XI_r _ _) (XI_r _ _) (by first | assumption | omega)) hP hD hS hA sf_X7_letter tw992 7 rfl rfl ⟨Nat.le_of_ble_eq_true rfl, Nat.le_of_ble_eq_true rfl⟩ hl rfl (Nat.le_of_ble_eq_true rfl) dL_law_430 ⟨by show cells + 1 ≤ 601024; omega, by show slots + 6 ≤ 7293033; omega⟩ (pm_mN cy u w out tl tc ol ct tr fv a G ak Gk As Gs Ah Gh th ap asl of tl tc ct a fv) rfl (fun H locs hP hD hS _ => ?_)
      have hP : va_P D vwCl (LW cy u w out tl tc ol ct (if 0 ≤ (XI xs (i + 1)) ∧ (XI xs (i + 1)) < a 25 then 2 else 1) fv a G ak Gk As Gs Ah Gh th ap asl of tl tc ct a fv) H := hP.perm ((pm_mN cy u w out tl tc ol ct (if 0 ≤ (XI xs (i + 1)) ∧ (XI xs (i + 1)) < a 25 then 2 else 1) fv a G ak Gk As Gs Ah Gh th ap asl of tl tc ct a fv).symm)
      have hD : va_D (fun q => s.heap.size ≤ q) (LW cy u w out tl tc ol ct (if 0 ≤ (XI xs (i + 1)) ∧ (XI xs (i + 1)) < a 25 then 2 else 1) fv a G ak Gk As Gs Ah Gh th ap asl of tl tc ct a fv) := hD.perm ((pm_mN cy u w out tl tc ol ct (if 0 ≤ (XI xs (i + 1)) ∧ (XI xs (i + 1)) < a 25 then 2 else 1) fv a G ak Gk As Gs Ah Gh th ap asl of tl tc ct a fv).symm)
      rw [hcode] at hP hD
      refine lv_istore (lv' := [(6, vI 0), (5, vI 2), (4, vI i), (3, .ref out), (2, .ref (w 0 0)), (1, .ref (u 0 0)), (0, .ref b)]) F.1 F.2.1 dL_law_433 hl (by decide) rfl (fun ls hl => ?_)
      refine lv_aload_n F.1 F.2.1 dL_law_435 rfl (lv_at hl 4 rfl) ?_
      refine rr_rdVp (rest := []) F hK (c_X7_thrown l D cy (w 0 0) (w 0 1) (w 0 2) (w 0 3) (w 0 4) (w 0 5) (w 0 6) 2 ct tl) hP (pm_m0 cy u w out tl tc ol ct 2 fv a G ak Gk As Gs Ah Gh th ap asl of tl tc ct a fv) sf_X7_thrown tw902 7 rfl rfl ⟨Nat.le_of_ble_eq_true rfl, Nat.le_of_ble_eq_true rfl⟩ hl rfl (Nat.le_of_ble_eq_true rfl) dL_law_436 ⟨by show cells + 1 ≤ 601024; omega, by show slots + 6 ≤ 7293033; omega⟩ ?_
      refine lv_iload F.1 F.2.1 dL_law_439 (lv_at hl 1 rfl) ?_
      refine rr_icmp_eq F (tgt := 446) dL_law_441 (by decide) ⟨by omega, by omega⟩ ⟨by omega, by omega⟩ (fun _ => ?_) (fun z => absurd rfl z)
      refine lv_iload F.1 F.2.1 dL_law_446 (lv_at hl 1 rfl) ?_
      refine rr_if_ne F (tgt := 463) dL_law_448 (by decide) ⟨by omega, by omega⟩ (fun _ => ?_) (fun z => by omega)
      refine lv_goto (tgt := 2055) F.1 F.2.1 dL_law_463 (by decide) ?_
      exact kk _ _ _ _ _ _ _ _ _ _ _ _ _ _ _ _ _ _ H locs ls (hI.mono (by omega)) hP hD hS (lv_sub hl [2, 3, 4, 5, 6] rfl)
  · refine rr_twS (rest := []) F hK hX hZ1 (r_letter_14 l hnt D cy sa (u 0 0) (u 1 0) (u 3 0) (u 4 0) (u 0 1) (u 0 2) (u 2 0) (u 2 6) (a 96) (a 117) (u 2 1) (u 2 2) (a 0) (G 0) (rq a) (u 2 3) (u 2 4) (u 2 5) (a 25) (G 6) (G 7) (rbl a) (rbc a) (XI xs (i + 1)) (XI xs (i + 2)) out (SB.rg hZ) (SB.bk hZ) (XI_r _ _) (XI_r _ _) (by first | assumption | omega | exact ⟨by omega, by omega⟩)) hP hS sfw_letter tw426 ⟨Nat.le_of_ble_eq_true rfl, Nat.le_of_ble_eq_true rfl⟩ hl rfl (Nat.le_of_ble_eq_true rfl) dL_law_412 ⟨by show cells + 1 ≤ 601024; omega, by show slots + 6 ≤ 7293033; omega⟩ (pm_cAB cy u w out tl tc ol ct tr fv a G ak Gk As Gs Ah Gh th ap asl of tl tc ct a fv) (fun H locs hP hS _ => ?_)
    refine lv_istore (lv' := [(5, vI 1), (4, vI i), (3, .ref out), (2, .ref (w 0 0)), (1, .ref (u 0 0)), (0, .ref b)]) F.1 F.2.1 dL_law_415 hl (by decide) rfl (fun ls hl => ?_)
    refine lv_aload_n F.1 F.2.1 dL_law_417 rfl (lv_at hl 3 rfl) ?_
    refine lv_aload_n F.1 F.2.1 dL_law_418 rfl (lv_at hl 5 rfl) ?_
    refine lv_iload F.1 F.2.1 dL_law_419 (lv_at hl 1 rfl) ?_
    refine rr_iconst F dL_law_421 ?_
    refine rr_iadd F (z := i + 1) dL_law_422 rfl ?_
    refine rr_sld F (A := fun q => s.heap.size ≤ q) hxs hb hbA hS (by omega) (by omega) hL dL_law_423 ?_
    refine lv_aload_n F.1 F.2.1 dL_law_424 rfl (lv_at hl 5 rfl) ?_
    refine lv_iload F.1 F.2.1 dL_law_425 (lv_at hl 1 rfl) ?_
    refine rr_iconst F dL_law_427 ?_
    refine rr_iadd F (z := i + 2) dL_law_428 rfl ?_
    refine rr_sld F (A := fun q => s.heap.size ≤ q) hxs hb hbA hS (by omega) (by omega) hL dL_law_429 ?_
    have hcode : (if 0 ≤ (XI xs (i + 1)) ∧ (XI xs (i + 1)) < a 25 then 2 else 1 : Int) = 1 := by first | rfl | ((repeat' split) <;> first | rfl | omega)
    refine rr_wrVp (rest := []) F hK (n_X7_letter l D cy (w 0 0) (w 0 1) (w 0 2) (w 0 3) (w 0 4) (w 0 5) (w 0 6) tr ct tl a (XI xs (i + 1)) (XI xs (i + 2)) hM (XI_r _ _) (XI_r _ _) (by first | assumption | omega)) hP hD hS hA sf_X7_letter tw992 7 rfl rfl ⟨Nat.le_of_ble_eq_true rfl, Nat.le_of_ble_eq_true rfl⟩ hl rfl (Nat.le_of_ble_eq_true rfl) dL_law_430 ⟨by show cells + 1 ≤ 601024; omega, by show slots + 6 ≤ 7293033; omega⟩ (pm_mN cy u w out tl tc ol ct tr fv a G ak Gk As Gs Ah Gh th ap asl of tl tc ct a fv) rfl (fun H locs hP hD hS _ => ?_)
    have hP : va_P D vwCl (LW cy u w out tl tc ol ct (if 0 ≤ (XI xs (i + 1)) ∧ (XI xs (i + 1)) < a 25 then 2 else 1) fv a G ak Gk As Gs Ah Gh th ap asl of tl tc ct a fv) H := hP.perm ((pm_mN cy u w out tl tc ol ct (if 0 ≤ (XI xs (i + 1)) ∧ (XI xs (i + 1)) < a 25 then 2 else 1) fv a G ak Gk As Gs Ah Gh th ap asl of tl tc ct a fv).symm)
    have hD : va_D (fun q => s.heap.size ≤ q) (LW cy u w out tl tc ol ct (if 0 ≤ (XI xs (i + 1)) ∧ (XI xs (i + 1)) < a 25 then 2 else 1) fv a G ak Gk As Gs Ah Gh th ap asl of tl tc ct a fv) := hD.perm ((pm_mN cy u w out tl tc ol ct (if 0 ≤ (XI xs (i + 1)) ∧ (XI xs (i + 1)) < a 25 then 2 else 1) fv a G ak Gk As Gs Ah Gh th ap asl of tl tc ct a fv).symm)
    rw [hcode] at hP hD
    refine lv_istore (lv' := [(6, vI 0), (5, vI 1), (4, vI i), (3, .ref out), (2, .ref (w 0 0)), (1, .ref (u 0 0)), (0, .ref b)]) F.1 F.2.1 dL_law_433 hl (by decide) rfl (fun ls hl => ?_)
    refine lv_aload_n F.1 F.2.1 dL_law_435 rfl (lv_at hl 4 rfl) ?_
    refine rr_rdVp (rest := []) F hK (c_X7_thrown l D cy (w 0 0) (w 0 1) (w 0 2) (w 0 3) (w 0 4) (w 0 5) (w 0 6) 1 ct tl) hP (pm_m0 cy u w out tl tc ol ct 1 fv a G ak Gk As Gs Ah Gh th ap asl of tl tc ct a fv) sf_X7_thrown tw902 7 rfl rfl ⟨Nat.le_of_ble_eq_true rfl, Nat.le_of_ble_eq_true rfl⟩ hl rfl (Nat.le_of_ble_eq_true rfl) dL_law_436 ⟨by show cells + 1 ≤ 601024; omega, by show slots + 6 ≤ 7293033; omega⟩ ?_
    refine lv_iload F.1 F.2.1 dL_law_439 (lv_at hl 1 rfl) ?_
    refine rr_icmp_eq F (tgt := 446) dL_law_441 (by decide) ⟨by omega, by omega⟩ ⟨by omega, by omega⟩ (fun _ => ?_) (fun z => absurd rfl z)
    refine lv_iload F.1 F.2.1 dL_law_446 (lv_at hl 1 rfl) ?_
    refine rr_if_ne F (tgt := 463) dL_law_448 (by decide) ⟨by omega, by omega⟩ (fun _ => ?_) (fun z => by omega)
    refine lv_goto (tgt := 2055) F.1 F.2.1 dL_law_463 (by decide) ?_
    exact kk _ _ _ _ _ _ _ _ _ _ _ _ _ _ _ _ _ _ H locs ls (hI.mono (by omega)) hP hD hS (lv_sub hl [2, 3, 4, 5, 6] rfl)
set_option maxRecDepth 100000 in
set_option maxHeartbeats 8000000 in
theorem lc_reading {p : Program} {l : Launch} {e : Env} {s : State} {m : MethodId} {args : Array Value} {below : List Frame} {meth : Method} {c : Code} {Q : State → Prop} {b L : Nat} {xs : Nat → Int32} {D : va_G} {cy : Nat → ClassId} {sa : Nat → Nat} {u w : NU} {out : Nat} (hnt : l.stackTraces = false) (F : FX p m c cL_law 7 s args RL) (hK : KK D cy s) (hX : XK sa s) (hZ0 : ZK (fun q => s.heap.size ≤ q) s s.heap) (hxs : va_X b L xs s s.heap) (hb : b < s.heap.size) (hL : L ≤ 2560) {N : Int} {tl : Int} {tc : Int → Int} {ol : Int} {ct : Int} {tr : Int} {fv : Int → Int} {a : Int → Int} {G : Int → Int → Int} {ak : Int → Int} {Gk : Int → Int → Int} {As : Nat → Int → Int} {Gs : Nat → Int → Int → Int} {Ah : Nat → Int → Int} {Gh : Nat → Int → Int → Int} {th : Int → Int} {ap : Int → Int} {asl : Int → Int} {of : Nat → Int64} (hI : INV N tl tc ol ct fv a G As Gs Ah Gh ap asl) (hN : 0 ≤ N ∧ N ≤ 80000000) {i : Int} (hi : 0 ≤ i ∧ i + 5 ≤ L) {H : Heap} {locs : List Loc} {cells slots : Nat} {ls : Array Slot} (hP : va_P D vwCl (LW cy u w out tl tc ol ct tr fv a G ak Gk As Gs Ah Gh th ap asl of tl tc ct a fv) H) (hD : va_D (fun q => s.heap.size ≤ q) (LW cy u w out tl tc ol ct tr fv a G ak Gk As Gs Ah Gh th ap asl of tl tc ct a fv)) (hS : va_S (fun q => s.heap.size ≤ q) s.heap H locs) (hl : lv_has ls 7 [(4, vI i), (3, .ref out), (2, .ref (w 0 0)), (1, .ref (u 0 0)), (0, .ref b)]) (hc : cells + 1 ≤ 601024 ∧ slots + 6 ≤ 7293033) (kk : LK p l e s m args below meth c D cy u w out b (N + 50) i (cells + 1) (slots + 6) Q) : W p l e room_1 s m args below meth c H locs cells slots Q (F0 m 466 ls []) := by
  have hT := hI.1
  obtain ⟨hZ, hSV, hsp0, hsp1⟩ := hI.2.1
  have hM := SB.mr hZ
  have hn0 := hM.n
  have hw0 := hM.nw
  have hc0 := hM.wc
  have hol := hI.2.2.1
  have hct := hI.2.2.2.1
  have hbA : ¬ (fun q => s.heap.size ≤ q) b := Nat.not_le.mpr hb
  have hA : ∀ q, s.heap.size ≤ q → (fun q => s.heap.size ≤ q) q := fun q h => h
  have hZ1 : ZK nA s H := (hZ0.kept (fun a h1 h2 => hS.2.1 a h1 h2)).narrow (fun _ h => h.elim)
  refine lv_aload_n F.1 F.2.1 dL_law_466 rfl (lv_at hl 3 rfl) ?_
  refine lv_aload_n F.1 F.2.1 dL_law_467 rfl (lv_at hl 4 rfl) ?_
  refine lv_iload F.1 F.2.1 dL_law_468 (lv_at hl 0 rfl) ?_
  refine rr_iconst F dL_law_470 ?_
  refine rr_iadd F (z := i + 1) dL_law_471 rfl ?_
  refine rr_sld F (A := fun q => s.heap.size ≤ q) hxs hb hbA hS (by omega) (by omega) hL dL_law_472 ?_
  refine lv_aload_n F.1 F.2.1 dL_law_473 rfl (lv_at hl 4 rfl) ?_
  refine lv_iload F.1 F.2.1 dL_law_474 (lv_at hl 0 rfl) ?_
  refine rr_iconst F dL_law_476 ?_
  refine rr_iadd F (z := i + 2) dL_law_477 rfl ?_
  refine rr_sld F (A := fun q => s.heap.size ≤ q) hxs hb hbA hS (by omega) (by omega) hL dL_law_478 ?_
  refine lv_aload_n F.1 F.2.1 dL_law_479 rfl (lv_at hl 1 rfl) ?_
  have hb_1 := XI_b xs (i + 1)
  have hb_2 := XI_b xs (i + 2)
  by_cases hx0 : 0 ≤ (XI xs (i + 1)) ∧ (XI xs (i + 1)) ≤ 1
  · by_cases hx1 : 0 ≤ (XI xs (i + 2)) ∧ (XI xs (i + 2)) ≤ 3
    · refine W.widen (k := cells + 1) (n := slots + 6) (by omega) (by omega) ?_
      have hvr : inR (rdv (a 0) (rq a) (a 25) (rbl a) (rbc a) (XI xs (i + 1)) (XI xs (i + 2))) := rdv_r hM
      refine rr_wwS (rest := []) F hK (w_reading l D cy (u 0 0) (u 1 0) (u 3 0) (u 4 0) (u 0 1) (u 0 2) (u 2 0) (u 2 6) (a 96) (a 117) (u 2 1) (u 2 2) (a 0) (G 0) (rq a) (u 2 3) (u 2 4) (u 2 5) (a 25) (G 6) (G 7) (rbl a) (rbc a) (XI xs (i + 1)) (XI xs (i + 2)) out of (SB.rg hZ) (SB.bk hZ) (by first | assumption | omega | exact ⟨by omega, by omega⟩) (by first | assumption | omega | exact ⟨by omega, by omega⟩) hvr) hP hD hS hA sfw_reading tw441 ⟨Nat.le_of_ble_eq_true rfl, Nat.le_of_ble_eq_true rfl⟩ hl rfl (Nat.le_of_ble_eq_true rfl) dL_law_480 ⟨by show cells + 1 ≤ 601024; omega, by show slots + 6 ≤ 7293033; omega⟩ (pm_cABO cy u w out tl tc ol ct tr fv a G ak Gk As Gs Ah Gh th ap asl of tl tc ct a fv) rfl (fun H locs hP hD hS _ => ?_)
      have hP : va_P D vwCl (LW cy u w out tl tc ol ct tr fv a G ak Gk As Gs Ah Gh th ap asl (vp_updL of 0 (lI (rdv (a 0) (rq a) (a 25) (rbl a) (rbc a) (XI xs (i + 1)) (XI xs (i + 2))))) tl tc ct a fv) H := hP.perm ((pm_cABO cy u w out tl tc ol ct tr fv a G ak Gk As Gs Ah Gh th ap asl (vp_updL of 0 (lI (rdv (a 0) (rq a) (a 25) (rbl a) (rbc a) (XI xs (i + 1)) (XI xs (i + 2))))) tl tc ct a fv).symm)
      have hD : va_D (fun q => s.heap.size ≤ q) (LW cy u w out tl tc ol ct tr fv a G ak Gk As Gs Ah Gh th ap asl (vp_updL of 0 (lI (rdv (a 0) (rq a) (a 25) (rbl a) (rbc a) (XI xs (i + 1)) (XI xs (i + 2))))) tl tc ct a fv) := hD.perm ((pm_cABO cy u w out tl tc ol ct tr fv a G ak Gk As Gs Ah Gh th ap asl (vp_updL of 0 (lI (rdv (a 0) (rq a) (a 25) (rbl a) (rbc a) (XI xs (i + 1)) (XI xs (i + 2))))) tl tc ct a fv).symm)
      refine lv_istore (lv' := [(5, vI 0), (4, vI i), (3, .ref out), (2, .ref (w 0 0)), (1, .ref (u 0 0)), (0, .ref b)]) F.1 F.2.1 dL_law_483 hl (by decide) rfl (fun ls hl => ?_)
      refine lv_aload_n F.1 F.2.1 dL_law_485 rfl (lv_at hl 3 rfl) ?_
      refine lv_aload_n F.1 F.2.1 dL_law_486 rfl (lv_at hl 5 rfl) ?_
      refine lv_iload F.1 F.2.1 dL_law_487 (lv_at hl 1 rfl) ?_
      refine rr_iconst F dL_law_489 ?_
      refine rr_iadd F (z := i + 1) dL_law_490 rfl ?_
      refine rr_sld F (A := fun q => s.heap.size ≤ q) hxs hb hbA hS (by omega) (by omega) hL dL_law_491 ?_
      refine lv_aload_n F.1 F.2.1 dL_law_492 rfl (lv_at hl 5 rfl) ?_
      refine lv_iload F.1 F.2.1 dL_law_493 (lv_at hl 1 rfl) ?_
      refine rr_iconst F dL_law_495 ?_
      refine rr_iadd F (z := i + 2) dL_law_496 rfl ?_
      refine rr_sld F (A := fun q => s.heap.size ≤ q) hxs hb hbA hS (by omega) (by omega) hL dL_law_497 ?_
      refine rr_wrVp (rest := []) F hK (c_X7_reading l D cy (w 0 0) (w 0 1) (w 0 2) (w 0 3) (w 0 4) (w 0 5) (w 0 6) tr ct tl a (XI xs (i + 1)) (XI xs (i + 2)) hM (XI_r _ _) (XI_r _ _) (by first | assumption | omega | exact ⟨by omega, by omega⟩) (by first | assumption | omega | exact ⟨by omega, by omega⟩)) hP hD hS hA sf_X7_reading tw1000 7 rfl rfl ⟨Nat.le_of_ble_eq_true rfl, Nat.le_of_ble_eq_true rfl⟩ hl rfl (Nat.le_of_ble_eq_true rfl) dL_law_498 ⟨by show cells + 1 ≤ 601024; omega, by show slots + 6 ≤ 7293033; omega⟩ (pm_mN cy u w out tl tc ol ct tr fv a G ak Gk As Gs Ah Gh th ap asl (vp_updL of 0 (lI (rdv (a 0) (rq a) (a 25) (rbl a) (rbc a) (XI xs (i + 1)) (XI xs (i + 2))))) tl tc ct a fv) rfl (fun H locs hP hD hS _ => ?_)
      have hP : va_P D vwCl (LW cy u w out tl tc ol ct 0 fv a G ak Gk As Gs Ah Gh th ap asl (vp_updL of 0 (lI (rdv (a 0) (rq a) (a 25) (rbl a) (rbc a) (XI xs (i + 1)) (XI xs (i + 2))))) tl tc ct a fv) H := hP.perm ((pm_mN cy u w out tl tc ol ct 0 fv a G ak Gk As Gs Ah Gh th ap asl (vp_updL of 0 (lI (rdv (a 0) (rq a) (a 25) (rbl a) (rbc a) (XI xs (i + 1)) (XI xs (i + 2))))) tl tc ct a fv).symm)
      have hD : va_D (fun q => s.heap.size ≤ q) (LW cy u w out tl tc ol ct 0 fv a G ak Gk As Gs Ah Gh th ap asl (vp_updL of 0 (lI (rdv (a 0) (rq a) (a 25) (rbl a) (rbc a) (XI xs (i + 1)) (XI xs (i + 2))))) tl tc ct a fv) := hD.perm ((pm_mN cy u w out tl tc ol ct 0 fv a G ak Gk As Gs Ah Gh th ap asl (vp_updL of 0 (lI (rdv (a 0) (rq a) (a 25) (rbl a) (rbc a) (XI xs (i + 1)) (XI xs (i + 2))))) tl tc ct a fv).symm)
      have hP : va_P D vwCl (LW cy u w out tl tc ol ct 0 fv a G ak Gk As Gs Ah Gh th ap asl (vp_updL of 0 (lI (rdv (a 0) (rq a) (a 25) (rbl a) (rbc a) (XI xs (i + 1)) (XI xs (i + 2))))) tl tc ct a fv) H := hP
      have hD : va_D (fun q => s.heap.size ≤ q) (LW cy u w out tl tc ol ct 0 fv a G ak Gk As Gs Ah Gh th ap asl (vp_updL of 0 (lI (rdv (a 0) (rq a) (a 25) (rbl a) (rbc a) (XI xs (i + 1)) (XI xs (i + 2))))) tl tc ct a fv) := hD
      refine lv_istore (lv' := [(6, vI (rdv (a 0) (rq a) (a 25) (rbl a) (rbc a) (XI xs (i + 1)) (XI xs (i + 2)))), (5, vI 0), (4, vI i), (3, .ref out), (2, .ref (w 0 0)), (1, .ref (u 0 0)), (0, .ref b)]) F.1 F.2.1 dL_law_501 hl (by decide) rfl (fun ls hl => ?_)
      refine lv_aload_n F.1 F.2.1 dL_law_503 rfl (lv_at hl 4 rfl) ?_
      refine rr_rdVp (rest := []) F hK (c_X7_thrown l D cy (w 0 0) (w 0 1) (w 0 2) (w 0 3) (w 0 4) (w 0 5) (w 0 6) 0 ct tl) hP (pm_m0 cy u w out tl tc ol ct 0 fv a G ak Gk As Gs Ah Gh th ap asl (vp_updL of 0 (lI (rdv (a 0) (rq a) (a 25) (rbl a) (rbc a) (XI xs (i + 1)) (XI xs (i + 2))))) tl tc ct a fv) sf_X7_thrown tw902 7 rfl rfl ⟨Nat.le_of_ble_eq_true rfl, Nat.le_of_ble_eq_true rfl⟩ hl rfl (Nat.le_of_ble_eq_true rfl) dL_law_504 ⟨by show cells + 1 ≤ 601024; omega, by show slots + 6 ≤ 7293033; omega⟩ ?_
      refine lv_iload F.1 F.2.1 dL_law_507 (lv_at hl 1 rfl) ?_
      refine rr_icmp_eq F (tgt := 514) dL_law_509 (by decide) ⟨by omega, by omega⟩ ⟨by omega, by omega⟩ (fun _ => ?_) (fun z => absurd rfl z)
      refine lv_iload F.1 F.2.1 dL_law_514 (lv_at hl 1 rfl) ?_
      refine rr_if_ne F (tgt := 531) dL_law_516 (by decide) ⟨by omega, by omega⟩ (fun z => absurd rfl z) (fun _ => ?_)
      refine lv_aload_n F.1 F.2.1 dL_law_519 rfl (lv_at hl 3 rfl) ?_
      refine rr_iconst F dL_law_520 ?_
      refine rr_lald0 F hK (hP.perm (pm_o cy u w out tl tc ol ct 0 fv a G ak Gk As Gs Ah Gh th ap asl (vp_updL of 0 (lI (rdv (a 0) (rq a) (a 25) (rbl a) (rbc a) (XI xs (i + 1)) (XI xs (i + 2))))) tl tc ct a fv)) 0 rfl dL_law_521 ?_
      refine lv_iload F.1 F.2.1 dL_law_522 (lv_at hl 0 rfl) ?_
      refine rr_i2l F dL_law_524 hvr ?_
      refine rr_lcmp F (a := rdv (a 0) (rq a) (a 25) (rbl a) (rbc a) (XI xs (i + 1)) (XI xs (i + 2))) (b := rdv (a 0) (rq a) (a 25) (rbl a) (rbc a) (XI xs (i + 1)) (XI xs (i + 2))) dL_law_525 (inL_r hvr) (inL_r hvr) ?_
      refine rr_if_eq F (tgt := 531) dL_law_526 (by decide) (lcm_r _ _) (fun _ => ?_) (fun z => absurd ((lcm_spec _ _).2.1.mpr rfl) z)
      refine lv_goto (tgt := 2055) F.1 F.2.1 dL_law_531 (by decide) ?_
      exact kk _ _ _ _ _ _ _ _ _ _ _ _ _ _ _ _ _ _ H locs ls (hI.mono (by omega)) hP hD hS (lv_sub hl [2, 3, 4, 5, 6] rfl)
    · refine rr_twS (rest := []) F hK hX hZ1 (r_reading_26 l hnt D cy sa (u 0 0) (u 1 0) (u 2 0) (u 3 0) (u 4 0) (u 0 1) (u 0 2) (XI xs (i + 1)) (XI xs (i + 2)) out (XI_r _ _) (XI_r _ _) (by first | assumption | omega | exact ⟨by omega, by omega⟩) (by first | assumption | omega | exact ⟨by omega, by omega⟩)) hP hS sfw_reading tw441 ⟨Nat.le_of_ble_eq_true rfl, Nat.le_of_ble_eq_true rfl⟩ hl rfl (Nat.le_of_ble_eq_true rfl) dL_law_480 ⟨by show cells + 1 ≤ 601024; omega, by show slots + 6 ≤ 7293033; omega⟩ (pm_c0 cy u w out tl tc ol ct tr fv a G ak Gk As Gs Ah Gh th ap asl of tl tc ct a fv) (fun H locs hP hS _ => ?_)
      refine lv_istore (lv' := [(5, vI 2), (4, vI i), (3, .ref out), (2, .ref (w 0 0)), (1, .ref (u 0 0)), (0, .ref b)]) F.1 F.2.1 dL_law_483 hl (by decide) rfl (fun ls hl => ?_)
      refine lv_aload_n F.1 F.2.1 dL_law_485 rfl (lv_at hl 3 rfl) ?_
      refine lv_aload_n F.1 F.2.1 dL_law_486 rfl (lv_at hl 5 rfl) ?_
      refine lv_iload F.1 F.2.1 dL_law_487 (lv_at hl 1 rfl) ?_
      refine rr_iconst F dL_law_489 ?_
      refine rr_iadd F (z := i + 1) dL_law_490 rfl ?_
      refine rr_sld F (A := fun q => s.heap.size ≤ q) hxs hb hbA hS (by omega) (by omega) hL dL_law_491 ?_
      refine lv_aload_n F.1 F.2.1 dL_law_492 rfl (lv_at hl 5 rfl) ?_
      refine lv_iload F.1 F.2.1 dL_law_493 (lv_at hl 1 rfl) ?_
      refine rr_iconst F dL_law_495 ?_
      refine rr_iadd F (z := i + 2) dL_law_496 rfl ?_
      refine rr_sld F (A := fun q => s.heap.size ≤ q) hxs hb hbA hS (by omega) (by omega) hL dL_law_497 ?_
      have hcode : (if 0 ≤ (XI xs (i + 1)) ∧ (XI xs (i + 1)) ≤ 1 then 2 else 1 : Int) = 2 := by first | rfl | ((repeat' split) <;> first | rfl | omega)
      refine rr_wrVp (rest := []) F hK (n_X7_reading l D cy (w 0 0) (w 0 1) (w 0 2) (w 0 3) (w 0 4) (w 0 5) (w 0 6) tr ct tl a (XI xs (i + 1)) (XI xs (i + 2)) hM (XI_r _ _) (XI_r _ _) (by first | assumption | omega)) hP hD hS hA sf_X7_reading tw1000 7 rfl rfl ⟨Nat.le_of_ble_eq_true rfl, Nat.le_of_ble_eq_true rfl⟩ hl rfl (Nat.le_of_ble_eq_true rfl) dL_law_498 ⟨by show cells + 1 ≤ 601024; omega, by show slots + 6 ≤ 7293033; omega⟩ (pm_mN cy u w out tl tc ol ct tr fv a G ak Gk As Gs Ah Gh th ap asl of tl tc ct a fv) rfl (fun H locs hP hD hS _ => ?_)
      have hP : va_P D vwCl (LW cy u w out tl tc ol ct (if 0 ≤ (XI xs (i + 1)) ∧ (XI xs (i + 1)) ≤ 1 then 2 else 1) fv a G ak Gk As Gs Ah Gh th ap asl of tl tc ct a fv) H := hP.perm ((pm_mN cy u w out tl tc ol ct (if 0 ≤ (XI xs (i + 1)) ∧ (XI xs (i + 1)) ≤ 1 then 2 else 1) fv a G ak Gk As Gs Ah Gh th ap asl of tl tc ct a fv).symm)
      have hD : va_D (fun q => s.heap.size ≤ q) (LW cy u w out tl tc ol ct (if 0 ≤ (XI xs (i + 1)) ∧ (XI xs (i + 1)) ≤ 1 then 2 else 1) fv a G ak Gk As Gs Ah Gh th ap asl of tl tc ct a fv) := hD.perm ((pm_mN cy u w out tl tc ol ct (if 0 ≤ (XI xs (i + 1)) ∧ (XI xs (i + 1)) ≤ 1 then 2 else 1) fv a G ak Gk As Gs Ah Gh th ap asl of tl tc ct a fv).symm)
      rw [hcode] at hP hD
      refine lv_istore (lv' := [(6, vI 0), (5, vI 2), (4, vI i), (3, .ref out), (2, .ref (w 0 0)), (1, .ref (u 0 0)), (0, .ref b)]) F.1 F.2.1 dL_law_501 hl (by decide) rfl (fun ls hl => ?_)
      refine lv_aload_n F.1 F.2.1 dL_law_503 rfl (lv_at hl 4 rfl) ?_
      refine rr_rdVp (rest := []) F hK (c_X7_thrown l D cy (w 0 0) (w 0 1) (w 0 2) (w 0 3) (w 0 4) (w 0 5) (w 0 6) 2 ct tl) hP (pm_m0 cy u w out tl tc ol ct 2 fv a G ak Gk As Gs Ah Gh th ap asl of tl tc ct a fv) sf_X7_thrown tw902 7 rfl rfl ⟨Nat.le_of_ble_eq_true rfl, Nat.le_of_ble_eq_true rfl⟩ hl rfl (Nat.le_of_ble_eq_true rfl) dL_law_504 ⟨by show cells + 1 ≤ 601024; omega, by show slots + 6 ≤ 7293033; omega⟩ ?_
      refine lv_iload F.1 F.2.1 dL_law_507 (lv_at hl 1 rfl) ?_
      refine rr_icmp_eq F (tgt := 514) dL_law_509 (by decide) ⟨by omega, by omega⟩ ⟨by omega, by omega⟩ (fun _ => ?_) (fun z => absurd rfl z)
      refine lv_iload F.1 F.2.1 dL_law_514 (lv_at hl 1 rfl) ?_
      refine rr_if_ne F (tgt := 531) dL_law_516 (by decide) ⟨by omega, by omega⟩ (fun _ => ?_) (fun z => by omega)
      refine lv_goto (tgt := 2055) F.1 F.2.1 dL_law_531 (by decide) ?_
      exact kk _ _ _ _ _ _ _ _ _ _ _ _ _ _ _ _ _ _ H locs ls (hI.mono (by omega)) hP hD hS (lv_sub hl [2, 3, 4, 5, 6] rfl)
  · refine rr_twS (rest := []) F hK hX hZ1 (r_reading_7 l hnt D cy sa (u 0 0) (u 1 0) (u 2 0) (u 3 0) (u 4 0) (u 0 1) (u 0 2) (XI xs (i + 1)) (XI xs (i + 2)) out (XI_r _ _) (XI_r _ _) (by first | assumption | omega | exact ⟨by omega, by omega⟩)) hP hS sfw_reading tw441 ⟨Nat.le_of_ble_eq_true rfl, Nat.le_of_ble_eq_true rfl⟩ hl rfl (Nat.le_of_ble_eq_true rfl) dL_law_480 ⟨by show cells + 1 ≤ 601024; omega, by show slots + 6 ≤ 7293033; omega⟩ (pm_c0 cy u w out tl tc ol ct tr fv a G ak Gk As Gs Ah Gh th ap asl of tl tc ct a fv) (fun H locs hP hS _ => ?_)
    refine lv_istore (lv' := [(5, vI 1), (4, vI i), (3, .ref out), (2, .ref (w 0 0)), (1, .ref (u 0 0)), (0, .ref b)]) F.1 F.2.1 dL_law_483 hl (by decide) rfl (fun ls hl => ?_)
    refine lv_aload_n F.1 F.2.1 dL_law_485 rfl (lv_at hl 3 rfl) ?_
    refine lv_aload_n F.1 F.2.1 dL_law_486 rfl (lv_at hl 5 rfl) ?_
    refine lv_iload F.1 F.2.1 dL_law_487 (lv_at hl 1 rfl) ?_
    refine rr_iconst F dL_law_489 ?_
    refine rr_iadd F (z := i + 1) dL_law_490 rfl ?_
    refine rr_sld F (A := fun q => s.heap.size ≤ q) hxs hb hbA hS (by omega) (by omega) hL dL_law_491 ?_
    refine lv_aload_n F.1 F.2.1 dL_law_492 rfl (lv_at hl 5 rfl) ?_
    refine lv_iload F.1 F.2.1 dL_law_493 (lv_at hl 1 rfl) ?_
    refine rr_iconst F dL_law_495 ?_
    refine rr_iadd F (z := i + 2) dL_law_496 rfl ?_
    refine rr_sld F (A := fun q => s.heap.size ≤ q) hxs hb hbA hS (by omega) (by omega) hL dL_law_497 ?_
    have hcode : (if 0 ≤ (XI xs (i + 1)) ∧ (XI xs (i + 1)) ≤ 1 then 2 else 1 : Int) = 1 := by first | rfl | ((repeat' split) <;> first | rfl | omega)
    refine rr_wrVp (rest := []) F hK (n_X7_reading l D cy (w 0 0) (w 0 1) (w 0 2) (w 0 3) (w 0 4) (w 0 5) (w 0 6) tr ct tl a (XI xs (i + 1)) (XI xs (i + 2)) hM (XI_r _ _) (XI_r _ _) (by first | assumption | omega)) hP hD hS hA sf_X7_reading tw1000 7 rfl rfl ⟨Nat.le_of_ble_eq_true rfl, Nat.le_of_ble_eq_true rfl⟩ hl rfl (Nat.le_of_ble_eq_true rfl) dL_law_498 ⟨by show cells + 1 ≤ 601024; omega, by show slots + 6 ≤ 7293033; omega⟩ (pm_mN cy u w out tl tc ol ct tr fv a G ak Gk As Gs Ah Gh th ap asl of tl tc ct a fv) rfl (fun H locs hP hD hS _ => ?_)
    have hP : va_P D vwCl (LW cy u w out tl tc ol ct (if 0 ≤ (XI xs (i + 1)) ∧ (XI xs (i + 1)) ≤ 1 then 2 else 1) fv a G ak Gk As Gs Ah Gh th ap asl of tl tc ct a fv) H := hP.perm ((pm_mN cy u w out tl tc ol ct (if 0 ≤ (XI xs (i + 1)) ∧ (XI xs (i + 1)) ≤ 1 then 2 else 1) fv a G ak Gk As Gs Ah Gh th ap asl of tl tc ct a fv).symm)
    have hD : va_D (fun q => s.heap.size ≤ q) (LW cy u w out tl tc ol ct (if 0 ≤ (XI xs (i + 1)) ∧ (XI xs (i + 1)) ≤ 1 then 2 else 1) fv a G ak Gk As Gs Ah Gh th ap asl of tl tc ct a fv) := hD.perm ((pm_mN cy u w out tl tc ol ct (if 0 ≤ (XI xs (i + 1)) ∧ (XI xs (i + 1)) ≤ 1 then 2 else 1) fv a G ak Gk As Gs Ah Gh th ap asl of tl tc ct a fv).symm)
    rw [hcode] at hP hD
    refine lv_istore (lv' := [(6, vI 0), (5, vI 1), (4, vI i), (3, .ref out), (2, .ref (w 0 0)), (1, .ref (u 0 0)), (0, .ref b)]) F.1 F.2.1 dL_law_501 hl (by decide) rfl (fun ls hl => ?_)
    refine lv_aload_n F.1 F.2.1 dL_law_503 rfl (lv_at hl 4 rfl) ?_
    refine rr_rdVp (rest := []) F hK (c_X7_thrown l D cy (w 0 0) (w 0 1) (w 0 2) (w 0 3) (w 0 4) (w 0 5) (w 0 6) 1 ct tl) hP (pm_m0 cy u w out tl tc ol ct 1 fv a G ak Gk As Gs Ah Gh th ap asl of tl tc ct a fv) sf_X7_thrown tw902 7 rfl rfl ⟨Nat.le_of_ble_eq_true rfl, Nat.le_of_ble_eq_true rfl⟩ hl rfl (Nat.le_of_ble_eq_true rfl) dL_law_504 ⟨by show cells + 1 ≤ 601024; omega, by show slots + 6 ≤ 7293033; omega⟩ ?_
    refine lv_iload F.1 F.2.1 dL_law_507 (lv_at hl 1 rfl) ?_
    refine rr_icmp_eq F (tgt := 514) dL_law_509 (by decide) ⟨by omega, by omega⟩ ⟨by omega, by omega⟩ (fun _ => ?_) (fun z => absurd rfl z)
    refine lv_iload F.1 F.2.1 dL_law_514 (lv_at hl 1 rfl) ?_
    refine rr_if_ne F (tgt := 531) dL_law_516 (by decide) ⟨by omega, by omega⟩ (fun _ => ?_) (fun z => by omega)
    refine lv_goto (tgt := 2055) F.1 F.2.1 dL_law_531 (by decide) ?_
    exact kk _ _ _ _ _ _ _ _ _ _ _ _ _ _ _ _ _ _ H locs ls (hI.mono (by omega)) hP hD hS (lv_sub hl [2, 3, 4, 5, 6] rfl)
set_option maxRecDepth 100000 in
set_option maxHeartbeats 8000000 in
theorem lc_segment {p : Program} {l : Launch} {e : Env} {s : State} {m : MethodId} {args : Array Value} {below : List Frame} {meth : Method} {c : Code} {Q : State → Prop} {b L : Nat} {xs : Nat → Int32} {D : va_G} {cy : Nat → ClassId} {sa : Nat → Nat} {u w : NU} {out : Nat} (hnt : l.stackTraces = false) (F : FX p m c cL_law 7 s args RL) (hK : KK D cy s) (hX : XK sa s) (hZ0 : ZK (fun q => s.heap.size ≤ q) s s.heap) (hxs : va_X b L xs s s.heap) (hb : b < s.heap.size) (hL : L ≤ 2560) {N : Int} {tl : Int} {tc : Int → Int} {ol : Int} {ct : Int} {tr : Int} {fv : Int → Int} {a : Int → Int} {G : Int → Int → Int} {ak : Int → Int} {Gk : Int → Int → Int} {As : Nat → Int → Int} {Gs : Nat → Int → Int → Int} {Ah : Nat → Int → Int} {Gh : Nat → Int → Int → Int} {th : Int → Int} {ap : Int → Int} {asl : Int → Int} {of : Nat → Int64} (hI : INV N tl tc ol ct fv a G As Gs Ah Gh ap asl) (hN : 0 ≤ N ∧ N ≤ 80000000) {i : Int} (hi : 0 ≤ i ∧ i + 5 ≤ L) {H : Heap} {locs : List Loc} {cells slots : Nat} {ls : Array Slot} (hP : va_P D vwCl (LW cy u w out tl tc ol ct tr fv a G ak Gk As Gs Ah Gh th ap asl of tl tc ct a fv) H) (hD : va_D (fun q => s.heap.size ≤ q) (LW cy u w out tl tc ol ct tr fv a G ak Gk As Gs Ah Gh th ap asl of tl tc ct a fv)) (hS : va_S (fun q => s.heap.size ≤ q) s.heap H locs) (hl : lv_has ls 7 [(4, vI i), (3, .ref out), (2, .ref (w 0 0)), (1, .ref (u 0 0)), (0, .ref b)]) (hc : cells + 1 ≤ 601024 ∧ slots + 6 ≤ 7293033) (kk : LK p l e s m args below meth c D cy u w out b (N + 50) i (cells + 1) (slots + 6) Q) : W p l e room_1 s m args below meth c H locs cells slots Q (F0 m 534 ls []) := by
  have hT := hI.1
  obtain ⟨hZ, hSV, hsp0, hsp1⟩ := hI.2.1
  have hM := SB.mr hZ
  have hn0 := hM.n
  have hw0 := hM.nw
  have hc0 := hM.wc
  have hol := hI.2.2.1
  have hct := hI.2.2.2.1
  have hbA : ¬ (fun q => s.heap.size ≤ q) b := Nat.not_le.mpr hb
  have hA : ∀ q, s.heap.size ≤ q → (fun q => s.heap.size ≤ q) q := fun q h => h
  have hZ1 : ZK nA s H := (hZ0.kept (fun a h1 h2 => hS.2.1 a h1 h2)).narrow (fun _ h => h.elim)
  refine lv_aload_n F.1 F.2.1 dL_law_534 rfl (lv_at hl 3 rfl) ?_
  refine lv_aload_n F.1 F.2.1 dL_law_535 rfl (lv_at hl 4 rfl) ?_
  refine lv_iload F.1 F.2.1 dL_law_536 (lv_at hl 0 rfl) ?_
  refine rr_iconst F dL_law_538 ?_
  refine rr_iadd F (z := i + 1) dL_law_539 rfl ?_
  refine rr_sld F (A := fun q => s.heap.size ≤ q) hxs hb hbA hS (by omega) (by omega) hL dL_law_540 ?_
  refine lv_aload_n F.1 F.2.1 dL_law_541 rfl (lv_at hl 4 rfl) ?_
  refine lv_iload F.1 F.2.1 dL_law_542 (lv_at hl 0 rfl) ?_
  refine rr_iconst F dL_law_544 ?_
  refine rr_iadd F (z := i + 2) dL_law_545 rfl ?_
  refine rr_sld F (A := fun q => s.heap.size ≤ q) hxs hb hbA hS (by omega) (by omega) hL dL_law_546 ?_
  refine lv_aload_n F.1 F.2.1 dL_law_547 rfl (lv_at hl 4 rfl) ?_
  refine lv_iload F.1 F.2.1 dL_law_548 (lv_at hl 0 rfl) ?_
  refine rr_iconst F dL_law_550 ?_
  refine rr_iadd F (z := i + 3) dL_law_551 rfl ?_
  refine rr_sld F (A := fun q => s.heap.size ≤ q) hxs hb hbA hS (by omega) (by omega) hL dL_law_552 ?_
  refine lv_aload_n F.1 F.2.1 dL_law_553 rfl (lv_at hl 1 rfl) ?_
  have hb_1 := XI_b xs (i + 1)
  have hb_2 := XI_b xs (i + 2)
  have hb_3 := XI_b xs (i + 3)
  by_cases hx0 : 0 ≤ (XI xs (i + 1)) ∧ (XI xs (i + 1)) ≤ 1
  · by_cases hx1 : 0 ≤ (XI xs (i + 2)) ∧ (XI xs (i + 2)) < cnt (fun u_p => 0 < seg (a 0) (rq a) u_p (XI xs (i + 1))) (a 0)
    · by_cases hx2 : 0 ≤ (XI xs (i + 3)) ∧ (XI xs (i + 3)) ≤ 4
      · refine W.widen (k := cells + 1) (n := slots + 6) (by omega) (by omega) ?_
        have hvr : inR (sgv (a 0) (rq a) (a 25) (rbl a) (rbc a) (dva (a 0) (rq a) (XI xs (i + 1)) (XI xs (i + 2))) (XI xs (i + 1)) (XI xs (i + 3))) := sgv_r hM hx0 hx1
        refine rr_wwS (rest := []) F hK (w_segment l D cy (u 0 0) (u 1 0) (u 3 0) (u 4 0) (u 0 1) (u 0 2) (u 2 0) (u 2 6) (a 96) (a 117) (u 2 1) (u 2 2) (a 0) (G 0) (rq a) (u 2 3) (u 2 4) (u 2 5) (a 25) (G 6) (G 7) (rbl a) (rbc a) (XI xs (i + 1)) (XI xs (i + 2)) (XI xs (i + 3)) out of (SB.rg hZ) (SB.bk hZ) (by first | assumption | omega | exact ⟨by omega, by omega⟩) (by first | assumption | omega | exact ⟨by omega, by omega⟩) (by first | assumption | omega | exact ⟨by omega, by omega⟩) hvr) hP hD hS hA sfw_segment tw461 ⟨Nat.le_of_ble_eq_true rfl, Nat.le_of_ble_eq_true rfl⟩ hl rfl (Nat.le_of_ble_eq_true rfl) dL_law_554 ⟨by show cells + 1 ≤ 601024; omega, by show slots + 6 ≤ 7293033; omega⟩ (pm_cABO cy u w out tl tc ol ct tr fv a G ak Gk As Gs Ah Gh th ap asl of tl tc ct a fv) rfl (fun H locs hP hD hS _ => ?_)
        have hP : va_P D vwCl (LW cy u w out tl tc ol ct tr fv a G ak Gk As Gs Ah Gh th ap asl (vp_updL of 0 (lI (sgv (a 0) (rq a) (a 25) (rbl a) (rbc a) (dva (a 0) (rq a) (XI xs (i + 1)) (XI xs (i + 2))) (XI xs (i + 1)) (XI xs (i + 3))))) tl tc ct a fv) H := hP.perm ((pm_cABO cy u w out tl tc ol ct tr fv a G ak Gk As Gs Ah Gh th ap asl (vp_updL of 0 (lI (sgv (a 0) (rq a) (a 25) (rbl a) (rbc a) (dva (a 0) (rq a) (XI xs (i + 1)) (XI xs (i + 2))) (XI xs (i + 1)) (XI xs (i + 3))))) tl tc ct a fv).symm)
        have hD : va_D (fun q => s.heap.size ≤ q) (LW cy u w out tl tc ol ct tr fv a G ak Gk As Gs Ah Gh th ap asl (vp_updL of 0 (lI (sgv (a 0) (rq a) (a 25) (rbl a) (rbc a) (dva (a 0) (rq a) (XI xs (i + 1)) (XI xs (i + 2))) (XI xs (i + 1)) (XI xs (i + 3))))) tl tc ct a fv) := hD.perm ((pm_cABO cy u w out tl tc ol ct tr fv a G ak Gk As Gs Ah Gh th ap asl (vp_updL of 0 (lI (sgv (a 0) (rq a) (a 25) (rbl a) (rbc a) (dva (a 0) (rq a) (XI xs (i + 1)) (XI xs (i + 2))) (XI xs (i + 1)) (XI xs (i + 3))))) tl tc ct a fv).symm)
        refine lv_istore (lv' := [(5, vI 0), (4, vI i), (3, .ref out), (2, .ref (w 0 0)), (1, .ref (u 0 0)), (0, .ref b)]) F.1 F.2.1 dL_law_557 hl (by decide) rfl (fun ls hl => ?_)
        refine lv_aload_n F.1 F.2.1 dL_law_559 rfl (lv_at hl 3 rfl) ?_
        refine lv_aload_n F.1 F.2.1 dL_law_560 rfl (lv_at hl 5 rfl) ?_
        refine lv_iload F.1 F.2.1 dL_law_561 (lv_at hl 1 rfl) ?_
        refine rr_iconst F dL_law_563 ?_
        refine rr_iadd F (z := i + 1) dL_law_564 rfl ?_
        refine rr_sld F (A := fun q => s.heap.size ≤ q) hxs hb hbA hS (by omega) (by omega) hL dL_law_565 ?_
        refine lv_aload_n F.1 F.2.1 dL_law_566 rfl (lv_at hl 5 rfl) ?_
        refine lv_iload F.1 F.2.1 dL_law_567 (lv_at hl 1 rfl) ?_
        refine rr_iconst F dL_law_569 ?_
        refine rr_iadd F (z := i + 2) dL_law_570 rfl ?_
        refine rr_sld F (A := fun q => s.heap.size ≤ q) hxs hb hbA hS (by omega) (by omega) hL dL_law_571 ?_
        refine lv_aload_n F.1 F.2.1 dL_law_572 rfl (lv_at hl 5 rfl) ?_
        refine lv_iload F.1 F.2.1 dL_law_573 (lv_at hl 1 rfl) ?_
        refine rr_iconst F dL_law_575 ?_
        refine rr_iadd F (z := i + 3) dL_law_576 rfl ?_
        refine rr_sld F (A := fun q => s.heap.size ≤ q) hxs hb hbA hS (by omega) (by omega) hL dL_law_577 ?_
        refine rr_wrVp (rest := []) F hK (c_X7_segment l D cy (w 0 0) (w 0 1) (w 0 2) (w 0 3) (w 0 4) (w 0 5) (w 0 6) tr ct tl a (XI xs (i + 1)) (XI xs (i + 2)) (XI xs (i + 3)) hM (XI_r _ _) (XI_r _ _) (XI_r _ _) (by first | assumption | omega | exact ⟨by omega, by omega⟩) (by first | assumption | omega | exact ⟨by omega, by omega⟩) (by first | assumption | omega | exact ⟨by omega, by omega⟩)) hP hD hS hA sf_X7_segment tw1037 7 rfl rfl ⟨Nat.le_of_ble_eq_true rfl, Nat.le_of_ble_eq_true rfl⟩ hl rfl (Nat.le_of_ble_eq_true rfl) dL_law_578 ⟨by show cells + 1 ≤ 601024; omega, by show slots + 6 ≤ 7293033; omega⟩ (pm_mN cy u w out tl tc ol ct tr fv a G ak Gk As Gs Ah Gh th ap asl (vp_updL of 0 (lI (sgv (a 0) (rq a) (a 25) (rbl a) (rbc a) (dva (a 0) (rq a) (XI xs (i + 1)) (XI xs (i + 2))) (XI xs (i + 1)) (XI xs (i + 3))))) tl tc ct a fv) rfl (fun H locs hP hD hS _ => ?_)
        have hP : va_P D vwCl (LW cy u w out tl tc ol ct 0 fv a G ak Gk As Gs Ah Gh th ap asl (vp_updL of 0 (lI (sgv (a 0) (rq a) (a 25) (rbl a) (rbc a) (dva (a 0) (rq a) (XI xs (i + 1)) (XI xs (i + 2))) (XI xs (i + 1)) (XI xs (i + 3))))) tl tc ct a fv) H := hP.perm ((pm_mN cy u w out tl tc ol ct 0 fv a G ak Gk As Gs Ah Gh th ap asl (vp_updL of 0 (lI (sgv (a 0) (rq a) (a 25) (rbl a) (rbc a) (dva (a 0) (rq a) (XI xs (i + 1)) (XI xs (i + 2))) (XI xs (i + 1)) (XI xs (i + 3))))) tl tc ct a fv).symm)
        have hD : va_D (fun q => s.heap.size ≤ q) (LW cy u w out tl tc ol ct 0 fv a G ak Gk As Gs Ah Gh th ap asl (vp_updL of 0 (lI (sgv (a 0) (rq a) (a 25) (rbl a) (rbc a) (dva (a 0) (rq a) (XI xs (i + 1)) (XI xs (i + 2))) (XI xs (i + 1)) (XI xs (i + 3))))) tl tc ct a fv) := hD.perm ((pm_mN cy u w out tl tc ol ct 0 fv a G ak Gk As Gs Ah Gh th ap asl (vp_updL of 0 (lI (sgv (a 0) (rq a) (a 25) (rbl a) (rbc a) (dva (a 0) (rq a) (XI xs (i + 1)) (XI xs (i + 2))) (XI xs (i + 1)) (XI xs (i + 3))))) tl tc ct a fv).symm)
        have hP : va_P D vwCl (LW cy u w out tl tc ol ct 0 fv a G ak Gk As Gs Ah Gh th ap asl (vp_updL of 0 (lI (sgv (a 0) (rq a) (a 25) (rbl a) (rbc a) (dva (a 0) (rq a) (XI xs (i + 1)) (XI xs (i + 2))) (XI xs (i + 1)) (XI xs (i + 3))))) tl tc ct a fv) H := hP
        have hD : va_D (fun q => s.heap.size ≤ q) (LW cy u w out tl tc ol ct 0 fv a G ak Gk As Gs Ah Gh th ap asl (vp_updL of 0 (lI (sgv (a 0) (rq a) (a 25) (rbl a) (rbc a) (dva (a 0) (rq a) (XI xs (i + 1)) (XI xs (i + 2))) (XI xs (i + 1)) (XI xs (i + 3))))) tl tc ct a fv) := hD
        refine lv_istore (lv' := [(6, vI (sgv (a 0) (rq a) (a 25) (rbl a) (rbc a) (dva (a 0) (rq a) (XI xs (i + 1)) (XI xs (i + 2))) (XI xs (i + 1)) (XI xs (i + 3)))), (5, vI 0), (4, vI i), (3, .ref out), (2, .ref (w 0 0)), (1, .ref (u 0 0)), (0, .ref b)]) F.1 F.2.1 dL_law_581 hl (by decide) rfl (fun ls hl => ?_)
        refine lv_aload_n F.1 F.2.1 dL_law_583 rfl (lv_at hl 4 rfl) ?_
        refine rr_rdVp (rest := []) F hK (c_X7_thrown l D cy (w 0 0) (w 0 1) (w 0 2) (w 0 3) (w 0 4) (w 0 5) (w 0 6) 0 ct tl) hP (pm_m0 cy u w out tl tc ol ct 0 fv a G ak Gk As Gs Ah Gh th ap asl (vp_updL of 0 (lI (sgv (a 0) (rq a) (a 25) (rbl a) (rbc a) (dva (a 0) (rq a) (XI xs (i + 1)) (XI xs (i + 2))) (XI xs (i + 1)) (XI xs (i + 3))))) tl tc ct a fv) sf_X7_thrown tw902 7 rfl rfl ⟨Nat.le_of_ble_eq_true rfl, Nat.le_of_ble_eq_true rfl⟩ hl rfl (Nat.le_of_ble_eq_true rfl) dL_law_584 ⟨by show cells + 1 ≤ 601024; omega, by show slots + 6 ≤ 7293033; omega⟩ ?_
        refine lv_iload F.1 F.2.1 dL_law_587 (lv_at hl 1 rfl) ?_
        refine rr_icmp_eq F (tgt := 594) dL_law_589 (by decide) ⟨by omega, by omega⟩ ⟨by omega, by omega⟩ (fun _ => ?_) (fun z => absurd rfl z)
        refine lv_iload F.1 F.2.1 dL_law_594 (lv_at hl 1 rfl) ?_
        refine rr_if_ne F (tgt := 611) dL_law_596 (by decide) ⟨by omega, by omega⟩ (fun z => absurd rfl z) (fun _ => ?_)
        refine lv_aload_n F.1 F.2.1 dL_law_599 rfl (lv_at hl 3 rfl) ?_
        refine rr_iconst F dL_law_600 ?_
        refine rr_lald0 F hK (hP.perm (pm_o cy u w out tl tc ol ct 0 fv a G ak Gk As Gs Ah Gh th ap asl (vp_updL of 0 (lI (sgv (a 0) (rq a) (a 25) (rbl a) (rbc a) (dva (a 0) (rq a) (XI xs (i + 1)) (XI xs (i + 2))) (XI xs (i + 1)) (XI xs (i + 3))))) tl tc ct a fv)) 0 rfl dL_law_601 ?_
        refine lv_iload F.1 F.2.1 dL_law_602 (lv_at hl 0 rfl) ?_
        refine rr_i2l F dL_law_604 hvr ?_
        refine rr_lcmp F (a := sgv (a 0) (rq a) (a 25) (rbl a) (rbc a) (dva (a 0) (rq a) (XI xs (i + 1)) (XI xs (i + 2))) (XI xs (i + 1)) (XI xs (i + 3))) (b := sgv (a 0) (rq a) (a 25) (rbl a) (rbc a) (dva (a 0) (rq a) (XI xs (i + 1)) (XI xs (i + 2))) (XI xs (i + 1)) (XI xs (i + 3))) dL_law_605 (inL_r hvr) (inL_r hvr) ?_
        refine rr_if_eq F (tgt := 611) dL_law_606 (by decide) (lcm_r _ _) (fun _ => ?_) (fun z => absurd ((lcm_spec _ _).2.1.mpr rfl) z)
        refine lv_goto (tgt := 2055) F.1 F.2.1 dL_law_611 (by decide) ?_
        exact kk _ _ _ _ _ _ _ _ _ _ _ _ _ _ _ _ _ _ H locs ls (hI.mono (by omega)) hP hD hS (lv_sub hl [2, 3, 4, 5, 6] rfl)
      · refine rr_twS (rest := []) F hK hX hZ1 (r_segment_56 l hnt D cy sa (u 0 0) (u 1 0) (u 3 0) (u 4 0) (u 0 1) (u 0 2) (u 2 0) (u 2 6) (a 96) (a 117) (u 2 1) (u 2 2) (a 0) (G 0) (rq a) (u 2 3) (u 2 4) (u 2 5) (a 25) (G 6) (G 7) (rbl a) (rbc a) (XI xs (i + 1)) (XI xs (i + 2)) (XI xs (i + 3)) out (SB.rg hZ) (SB.bk hZ) (XI_r _ _) (XI_r _ _) (XI_r _ _) (by first | assumption | omega | exact ⟨by omega, by omega⟩) (by first | assumption | omega | exact ⟨by omega, by omega⟩) (by first | assumption | omega | exact ⟨by omega, by omega⟩)) hP hS sfw_segment tw461 ⟨Nat.le_of_ble_eq_true rfl, Nat.le_of_ble_eq_true rfl⟩ hl rfl (Nat.le_of_ble_eq_true rfl) dL_law_554 ⟨by show cells + 1 ≤ 601024; omega, by show slots + 6 ≤ 7293033; omega⟩ (pm_cAB cy u w out tl tc ol ct tr fv a G ak Gk As Gs Ah Gh th ap asl of tl tc ct a fv) (fun H locs hP hS _ => ?_)
        refine lv_istore (lv' := [(5, vI 2), (4, vI i), (3, .ref out), (2, .ref (w 0 0)), (1, .ref (u 0 0)), (0, .ref b)]) F.1 F.2.1 dL_law_557 hl (by decide) rfl (fun ls hl => ?_)
        refine lv_aload_n F.1 F.2.1 dL_law_559 rfl (lv_at hl 3 rfl) ?_
        refine lv_aload_n F.1 F.2.1 dL_law_560 rfl (lv_at hl 5 rfl) ?_
        refine lv_iload F.1 F.2.1 dL_law_561 (lv_at hl 1 rfl) ?_
        refine rr_iconst F dL_law_563 ?_
        refine rr_iadd F (z := i + 1) dL_law_564 rfl ?_
        refine rr_sld F (A := fun q => s.heap.size ≤ q) hxs hb hbA hS (by omega) (by omega) hL dL_law_565 ?_
        refine lv_aload_n F.1 F.2.1 dL_law_566 rfl (lv_at hl 5 rfl) ?_
        refine lv_iload F.1 F.2.1 dL_law_567 (lv_at hl 1 rfl) ?_
        refine rr_iconst F dL_law_569 ?_
        refine rr_iadd F (z := i + 2) dL_law_570 rfl ?_
        refine rr_sld F (A := fun q => s.heap.size ≤ q) hxs hb hbA hS (by omega) (by omega) hL dL_law_571 ?_
        refine lv_aload_n F.1 F.2.1 dL_law_572 rfl (lv_at hl 5 rfl) ?_
        refine lv_iload F.1 F.2.1 dL_law_573 (lv_at hl 1 rfl) ?_
        refine rr_iconst F dL_law_575 ?_
        refine rr_iadd F (z := i + 3) dL_law_576 rfl ?_
        refine rr_sld F (A := fun q => s.heap.size ≤ q) hxs hb hbA hS (by omega) (by omega) hL dL_law_577 ?_
        have hcode : (if (0 ≤ (XI xs (i + 1)) ∧ (XI xs (i + 1)) ≤ 1) ∧ (0 ≤ (XI xs (i + 2)) ∧ (XI xs (i + 2)) < cnt (fun u_p => 0 < seg (a 0) (rq a) u_p (XI xs (i + 1))) (a 0)) then 2 else 1 : Int) = 2 := by first | rfl | ((repeat' split) <;> first | rfl | omega)
        refine rr_wrVp (rest := []) F hK (n_X7_segment l D cy (w 0 0) (w 0 1) (w 0 2) (w 0 3) (w 0 4) (w 0 5) (w 0 6) tr ct tl a (XI xs (i + 1)) (XI xs (i + 2)) (XI xs (i + 3)) hM (XI_r _ _) (XI_r _ _) (XI_r _ _) (by first | assumption | omega)) hP hD hS hA sf_X7_segment tw1037 7 rfl rfl ⟨Nat.le_of_ble_eq_true rfl, Nat.le_of_ble_eq_true rfl⟩ hl rfl (Nat.le_of_ble_eq_true rfl) dL_law_578 ⟨by show cells + 1 ≤ 601024; omega, by show slots + 6 ≤ 7293033; omega⟩ (pm_mN cy u w out tl tc ol ct tr fv a G ak Gk As Gs Ah Gh th ap asl of tl tc ct a fv) rfl (fun H locs hP hD hS _ => ?_)
        have hP : va_P D vwCl (LW cy u w out tl tc ol ct (if (0 ≤ (XI xs (i + 1)) ∧ (XI xs (i + 1)) ≤ 1) ∧ (0 ≤ (XI xs (i + 2)) ∧ (XI xs (i + 2)) < cnt (fun u_p => 0 < seg (a 0) (rq a) u_p (XI xs (i + 1))) (a 0)) then 2 else 1) fv a G ak Gk As Gs Ah Gh th ap asl of tl tc ct a fv) H := hP.perm ((pm_mN cy u w out tl tc ol ct (if (0 ≤ (XI xs (i + 1)) ∧ (XI xs (i + 1)) ≤ 1) ∧ (0 ≤ (XI xs (i + 2)) ∧ (XI xs (i + 2)) < cnt (fun u_p => 0 < seg (a 0) (rq a) u_p (XI xs (i + 1))) (a 0)) then 2 else 1) fv a G ak Gk As Gs Ah Gh th ap asl of tl tc ct a fv).symm)
        have hD : va_D (fun q => s.heap.size ≤ q) (LW cy u w out tl tc ol ct (if (0 ≤ (XI xs (i + 1)) ∧ (XI xs (i + 1)) ≤ 1) ∧ (0 ≤ (XI xs (i + 2)) ∧ (XI xs (i + 2)) < cnt (fun u_p => 0 < seg (a 0) (rq a) u_p (XI xs (i + 1))) (a 0)) then 2 else 1) fv a G ak Gk As Gs Ah Gh th ap asl of tl tc ct a fv) := hD.perm ((pm_mN cy u w out tl tc ol ct (if (0 ≤ (XI xs (i + 1)) ∧ (XI xs (i + 1)) ≤ 1) ∧ (0 ≤ (XI xs (i + 2)) ∧ (XI xs (i + 2)) < cnt (fun u_p => 0 < seg (a 0) (rq a) u_p (XI xs (i + 1))) (a 0)) then 2 else 1) fv a G ak Gk As Gs Ah Gh th ap asl of tl tc ct a fv).symm)
        rw [hcode] at hP hD
        refine lv_istore (lv' := [(6, vI 0), (5, vI 2), (4, vI i), (3, .ref out), (2, .ref (w 0 0)), (1, .ref (u 0 0)), (0, .ref b)]) F.1 F.2.1 dL_law_581 hl (by decide) rfl (fun ls hl => ?_)
        refine lv_aload_n F.1 F.2.1 dL_law_583 rfl (lv_at hl 4 rfl) ?_
        refine rr_rdVp (rest := []) F hK (c_X7_thrown l D cy (w 0 0) (w 0 1) (w 0 2) (w 0 3) (w 0 4) (w 0 5) (w 0 6) 2 ct tl) hP (pm_m0 cy u w out tl tc ol ct 2 fv a G ak Gk As Gs Ah Gh th ap asl of tl tc ct a fv) sf_X7_thrown tw902 7 rfl rfl ⟨Nat.le_of_ble_eq_true rfl, Nat.le_of_ble_eq_true rfl⟩ hl rfl (Nat.le_of_ble_eq_true rfl) dL_law_584 ⟨by show cells + 1 ≤ 601024; omega, by show slots + 6 ≤ 7293033; omega⟩ ?_
        refine lv_iload F.1 F.2.1 dL_law_587 (lv_at hl 1 rfl) ?_
        refine rr_icmp_eq F (tgt := 594) dL_law_589 (by decide) ⟨by omega, by omega⟩ ⟨by omega, by omega⟩ (fun _ => ?_) (fun z => absurd rfl z)
        refine lv_iload F.1 F.2.1 dL_law_594 (lv_at hl 1 rfl) ?_
        refine rr_if_ne F (tgt := 611) dL_law_596 (by decide) ⟨by omega, by omega⟩ (fun _ => ?_) (fun z => by omega)
        refine lv_goto (tgt := 2055) F.1 F.2.1 dL_law_611 (by decide) ?_
        exact kk _ _ _ _ _ _ _ _ _ _ _ _ _ _ _ _ _ _ H locs ls (hI.mono (by omega)) hP hD hS (lv_sub hl [2, 3, 4, 5, 6] rfl)
    · refine rr_twS (rest := []) F hK hX hZ1 (r_segment_37 l hnt D cy sa (u 0 0) (u 1 0) (u 3 0) (u 4 0) (u 0 1) (u 0 2) (u 2 0) (u 2 6) (a 96) (a 117) (u 2 1) (u 2 2) (a 0) (G 0) (rq a) (u 2 3) (u 2 4) (u 2 5) (a 25) (G 6) (G 7) (rbl a) (rbc a) (XI xs (i + 1)) (XI xs (i + 2)) (XI xs (i + 3)) out (SB.rg hZ) (SB.bk hZ) (XI_r _ _) (XI_r _ _) (XI_r _ _) (by first | assumption | omega | exact ⟨by omega, by omega⟩) (by first | assumption | omega | exact ⟨by omega, by omega⟩)) hP hS sfw_segment tw461 ⟨Nat.le_of_ble_eq_true rfl, Nat.le_of_ble_eq_true rfl⟩ hl rfl (Nat.le_of_ble_eq_true rfl) dL_law_554 ⟨by show cells + 1 ≤ 601024; omega, by show slots + 6 ≤ 7293033; omega⟩ (pm_cAB cy u w out tl tc ol ct tr fv a G ak Gk As Gs Ah Gh th ap asl of tl tc ct a fv) (fun H locs hP hS _ => ?_)
      refine lv_istore (lv' := [(5, vI 1), (4, vI i), (3, .ref out), (2, .ref (w 0 0)), (1, .ref (u 0 0)), (0, .ref b)]) F.1 F.2.1 dL_law_557 hl (by decide) rfl (fun ls hl => ?_)
      refine lv_aload_n F.1 F.2.1 dL_law_559 rfl (lv_at hl 3 rfl) ?_
      refine lv_aload_n F.1 F.2.1 dL_law_560 rfl (lv_at hl 5 rfl) ?_
      refine lv_iload F.1 F.2.1 dL_law_561 (lv_at hl 1 rfl) ?_
      refine rr_iconst F dL_law_563 ?_
      refine rr_iadd F (z := i + 1) dL_law_564 rfl ?_
      refine rr_sld F (A := fun q => s.heap.size ≤ q) hxs hb hbA hS (by omega) (by omega) hL dL_law_565 ?_
      refine lv_aload_n F.1 F.2.1 dL_law_566 rfl (lv_at hl 5 rfl) ?_
      refine lv_iload F.1 F.2.1 dL_law_567 (lv_at hl 1 rfl) ?_
      refine rr_iconst F dL_law_569 ?_
      refine rr_iadd F (z := i + 2) dL_law_570 rfl ?_
      refine rr_sld F (A := fun q => s.heap.size ≤ q) hxs hb hbA hS (by omega) (by omega) hL dL_law_571 ?_
      refine lv_aload_n F.1 F.2.1 dL_law_572 rfl (lv_at hl 5 rfl) ?_
      refine lv_iload F.1 F.2.1 dL_law_573 (lv_at hl 1 rfl) ?_
      refine rr_iconst F dL_law_575 ?_
      refine rr_iadd F (z := i + 3) dL_law_576 rfl ?_
      refine rr_sld F (A := fun q => s.heap.size ≤ q) hxs hb hbA hS (by omega) (by omega) hL dL_law_577 ?_
      have hcode : (if (0 ≤ (XI xs (i + 1)) ∧ (XI xs (i + 1)) ≤ 1) ∧ (0 ≤ (XI xs (i + 2)) ∧ (XI xs (i + 2)) < cnt (fun u_p => 0 < seg (a 0) (rq a) u_p (XI xs (i + 1))) (a 0)) then 2 else 1 : Int) = 1 := by first | rfl | ((repeat' split) <;> first | rfl | omega)
      refine rr_wrVp (rest := []) F hK (n_X7_segment l D cy (w 0 0) (w 0 1) (w 0 2) (w 0 3) (w 0 4) (w 0 5) (w 0 6) tr ct tl a (XI xs (i + 1)) (XI xs (i + 2)) (XI xs (i + 3)) hM (XI_r _ _) (XI_r _ _) (XI_r _ _) (by first | assumption | omega)) hP hD hS hA sf_X7_segment tw1037 7 rfl rfl ⟨Nat.le_of_ble_eq_true rfl, Nat.le_of_ble_eq_true rfl⟩ hl rfl (Nat.le_of_ble_eq_true rfl) dL_law_578 ⟨by show cells + 1 ≤ 601024; omega, by show slots + 6 ≤ 7293033; omega⟩ (pm_mN cy u w out tl tc ol ct tr fv a G ak Gk As Gs Ah Gh th ap asl of tl tc ct a fv) rfl (fun H locs hP hD hS _ => ?_)
      have hP : va_P D vwCl (LW cy u w out tl tc ol ct (if (0 ≤ (XI xs (i + 1)) ∧ (XI xs (i + 1)) ≤ 1) ∧ (0 ≤ (XI xs (i + 2)) ∧ (XI xs (i + 2)) < cnt (fun u_p => 0 < seg (a 0) (rq a) u_p (XI xs (i + 1))) (a 0)) then 2 else 1) fv a G ak Gk As Gs Ah Gh th ap asl of tl tc ct a fv) H := hP.perm ((pm_mN cy u w out tl tc ol ct (if (0 ≤ (XI xs (i + 1)) ∧ (XI xs (i + 1)) ≤ 1) ∧ (0 ≤ (XI xs (i + 2)) ∧ (XI xs (i + 2)) < cnt (fun u_p => 0 < seg (a 0) (rq a) u_p (XI xs (i + 1))) (a 0)) then 2 else 1) fv a G ak Gk As Gs Ah Gh th ap asl of tl tc ct a fv).symm)
      have hD : va_D (fun q => s.heap.size ≤ q) (LW cy u w out tl tc ol ct (if (0 ≤ (XI xs (i + 1)) ∧ (XI xs (i + 1)) ≤ 1) ∧ (0 ≤ (XI xs (i + 2)) ∧ (XI xs (i + 2)) < cnt (fun u_p => 0 < seg (a 0) (rq a) u_p (XI xs (i + 1))) (a 0)) then 2 else 1) fv a G ak Gk As Gs Ah Gh th ap asl of tl tc ct a fv) := hD.perm ((pm_mN cy u w out tl tc ol ct (if (0 ≤ (XI xs (i + 1)) ∧ (XI xs (i + 1)) ≤ 1) ∧ (0 ≤ (XI xs (i + 2)) ∧ (XI xs (i + 2)) < cnt (fun u_p => 0 < seg (a 0) (rq a) u_p (XI xs (i + 1))) (a 0)) then 2 else 1) fv a G ak Gk As Gs Ah Gh th ap asl of tl tc ct a fv).symm)
      rw [hcode] at hP hD
      refine lv_istore (lv' := [(6, vI 0), (5, vI 1), (4, vI i), (3, .ref out), (2, .ref (w 0 0)), (1, .ref (u 0 0)), (0, .ref b)]) F.1 F.2.1 dL_law_581 hl (by decide) rfl (fun ls hl => ?_)
      refine lv_aload_n F.1 F.2.1 dL_law_583 rfl (lv_at hl 4 rfl) ?_
      refine rr_rdVp (rest := []) F hK (c_X7_thrown l D cy (w 0 0) (w 0 1) (w 0 2) (w 0 3) (w 0 4) (w 0 5) (w 0 6) 1 ct tl) hP (pm_m0 cy u w out tl tc ol ct 1 fv a G ak Gk As Gs Ah Gh th ap asl of tl tc ct a fv) sf_X7_thrown tw902 7 rfl rfl ⟨Nat.le_of_ble_eq_true rfl, Nat.le_of_ble_eq_true rfl⟩ hl rfl (Nat.le_of_ble_eq_true rfl) dL_law_584 ⟨by show cells + 1 ≤ 601024; omega, by show slots + 6 ≤ 7293033; omega⟩ ?_
      refine lv_iload F.1 F.2.1 dL_law_587 (lv_at hl 1 rfl) ?_
      refine rr_icmp_eq F (tgt := 594) dL_law_589 (by decide) ⟨by omega, by omega⟩ ⟨by omega, by omega⟩ (fun _ => ?_) (fun z => absurd rfl z)
      refine lv_iload F.1 F.2.1 dL_law_594 (lv_at hl 1 rfl) ?_
      refine rr_if_ne F (tgt := 611) dL_law_596 (by decide) ⟨by omega, by omega⟩ (fun _ => ?_) (fun z => by omega)
      refine lv_goto (tgt := 2055) F.1 F.2.1 dL_law_611 (by decide) ?_
      exact kk _ _ _ _ _ _ _ _ _ _ _ _ _ _ _ _ _ _ H locs ls (hI.mono (by omega)) hP hD hS (lv_sub hl [2, 3, 4, 5, 6] rfl)
  · refine rr_twS (rest := []) F hK hX hZ1 (r_segment_7 l hnt D cy sa (u 0 0) (u 1 0) (u 2 0) (u 3 0) (u 4 0) (u 0 1) (u 0 2) (XI xs (i + 1)) (XI xs (i + 2)) (XI xs (i + 3)) out (XI_r _ _) (XI_r _ _) (XI_r _ _) (by first | assumption | omega | exact ⟨by omega, by omega⟩)) hP hS sfw_segment tw461 ⟨Nat.le_of_ble_eq_true rfl, Nat.le_of_ble_eq_true rfl⟩ hl rfl (Nat.le_of_ble_eq_true rfl) dL_law_554 ⟨by show cells + 1 ≤ 601024; omega, by show slots + 6 ≤ 7293033; omega⟩ (pm_c0 cy u w out tl tc ol ct tr fv a G ak Gk As Gs Ah Gh th ap asl of tl tc ct a fv) (fun H locs hP hS _ => ?_)
    refine lv_istore (lv' := [(5, vI 1), (4, vI i), (3, .ref out), (2, .ref (w 0 0)), (1, .ref (u 0 0)), (0, .ref b)]) F.1 F.2.1 dL_law_557 hl (by decide) rfl (fun ls hl => ?_)
    refine lv_aload_n F.1 F.2.1 dL_law_559 rfl (lv_at hl 3 rfl) ?_
    refine lv_aload_n F.1 F.2.1 dL_law_560 rfl (lv_at hl 5 rfl) ?_
    refine lv_iload F.1 F.2.1 dL_law_561 (lv_at hl 1 rfl) ?_
    refine rr_iconst F dL_law_563 ?_
    refine rr_iadd F (z := i + 1) dL_law_564 rfl ?_
    refine rr_sld F (A := fun q => s.heap.size ≤ q) hxs hb hbA hS (by omega) (by omega) hL dL_law_565 ?_
    refine lv_aload_n F.1 F.2.1 dL_law_566 rfl (lv_at hl 5 rfl) ?_
    refine lv_iload F.1 F.2.1 dL_law_567 (lv_at hl 1 rfl) ?_
    refine rr_iconst F dL_law_569 ?_
    refine rr_iadd F (z := i + 2) dL_law_570 rfl ?_
    refine rr_sld F (A := fun q => s.heap.size ≤ q) hxs hb hbA hS (by omega) (by omega) hL dL_law_571 ?_
    refine lv_aload_n F.1 F.2.1 dL_law_572 rfl (lv_at hl 5 rfl) ?_
    refine lv_iload F.1 F.2.1 dL_law_573 (lv_at hl 1 rfl) ?_
    refine rr_iconst F dL_law_575 ?_
    refine rr_iadd F (z := i + 3) dL_law_576 rfl ?_
    refine rr_sld F (A := fun q => s.heap.size ≤ q) hxs hb hbA hS (by omega) (by omega) hL dL_law_577 ?_
    have hcode : (if (0 ≤ (XI xs (i + 1)) ∧ (XI xs (i + 1)) ≤ 1) ∧ (0 ≤ (XI xs (i + 2)) ∧ (XI xs (i + 2)) < cnt (fun u_p => 0 < seg (a 0) (rq a) u_p (XI xs (i + 1))) (a 0)) then 2 else 1 : Int) = 1 := by first | rfl | ((repeat' split) <;> first | rfl | omega)
    refine rr_wrVp (rest := []) F hK (n_X7_segment l D cy (w 0 0) (w 0 1) (w 0 2) (w 0 3) (w 0 4) (w 0 5) (w 0 6) tr ct tl a (XI xs (i + 1)) (XI xs (i + 2)) (XI xs (i + 3)) hM (XI_r _ _) (XI_r _ _) (XI_r _ _) (by first | assumption | omega)) hP hD hS hA sf_X7_segment tw1037 7 rfl rfl ⟨Nat.le_of_ble_eq_true rfl, Nat.le_of_ble_eq_true rfl⟩ hl rfl (Nat.le_of_ble_eq_true rfl) dL_law_578 ⟨by show cells + 1 ≤ 601024; omega, by show slots + 6 ≤ 7293033; omega⟩ (pm_mN cy u w out tl tc ol ct tr fv a G ak Gk As Gs Ah Gh th ap asl of tl tc ct a fv) rfl (fun H locs hP hD hS _ => ?_)
    have hP : va_P D vwCl (LW cy u w out tl tc ol ct (if (0 ≤ (XI xs (i + 1)) ∧ (XI xs (i + 1)) ≤ 1) ∧ (0 ≤ (XI xs (i + 2)) ∧ (XI xs (i + 2)) < cnt (fun u_p => 0 < seg (a 0) (rq a) u_p (XI xs (i + 1))) (a 0)) then 2 else 1) fv a G ak Gk As Gs Ah Gh th ap asl of tl tc ct a fv) H := hP.perm ((pm_mN cy u w out tl tc ol ct (if (0 ≤ (XI xs (i + 1)) ∧ (XI xs (i + 1)) ≤ 1) ∧ (0 ≤ (XI xs (i + 2)) ∧ (XI xs (i + 2)) < cnt (fun u_p => 0 < seg (a 0) (rq a) u_p (XI xs (i + 1))) (a 0)) then 2 else 1) fv a G ak Gk As Gs Ah Gh th ap asl of tl tc ct a fv).symm)
    have hD : va_D (fun q => s.heap.size ≤ q) (LW cy u w out tl tc ol ct (if (0 ≤ (XI xs (i + 1)) ∧ (XI xs (i + 1)) ≤ 1) ∧ (0 ≤ (XI xs (i + 2)) ∧ (XI xs (i + 2)) < cnt (fun u_p => 0 < seg (a 0) (rq a) u_p (XI xs (i + 1))) (a 0)) then 2 else 1) fv a G ak Gk As Gs Ah Gh th ap asl of tl tc ct a fv) := hD.perm ((pm_mN cy u w out tl tc ol ct (if (0 ≤ (XI xs (i + 1)) ∧ (XI xs (i + 1)) ≤ 1) ∧ (0 ≤ (XI xs (i + 2)) ∧ (XI xs (i + 2)) < cnt (fun u_p => 0 < seg (a 0) (rq a) u_p (XI xs (i + 1))) (a 0)) then 2 else 1) fv a G ak Gk As Gs Ah Gh th ap asl of tl tc ct a fv).symm)
    rw [hcode] at hP hD
    refine lv_istore (lv' := [(6, vI 0), (5, vI 1), (4, vI i), (3, .ref out), (2, .ref (w 0 0)), (1, .ref (u 0 0)), (0, .ref b)]) F.1 F.2.1 dL_law_581 hl (by decide) rfl (fun ls hl => ?_)
    refine lv_aload_n F.1 F.2.1 dL_law_583 rfl (lv_at hl 4 rfl) ?_
    refine rr_rdVp (rest := []) F hK (c_X7_thrown l D cy (w 0 0) (w 0 1) (w 0 2) (w 0 3) (w 0 4) (w 0 5) (w 0 6) 1 ct tl) hP (pm_m0 cy u w out tl tc ol ct 1 fv a G ak Gk As Gs Ah Gh th ap asl of tl tc ct a fv) sf_X7_thrown tw902 7 rfl rfl ⟨Nat.le_of_ble_eq_true rfl, Nat.le_of_ble_eq_true rfl⟩ hl rfl (Nat.le_of_ble_eq_true rfl) dL_law_584 ⟨by show cells + 1 ≤ 601024; omega, by show slots + 6 ≤ 7293033; omega⟩ ?_
    refine lv_iload F.1 F.2.1 dL_law_587 (lv_at hl 1 rfl) ?_
    refine rr_icmp_eq F (tgt := 594) dL_law_589 (by decide) ⟨by omega, by omega⟩ ⟨by omega, by omega⟩ (fun _ => ?_) (fun z => absurd rfl z)
    refine lv_iload F.1 F.2.1 dL_law_594 (lv_at hl 1 rfl) ?_
    refine rr_if_ne F (tgt := 611) dL_law_596 (by decide) ⟨by omega, by omega⟩ (fun _ => ?_) (fun z => by omega)
    refine lv_goto (tgt := 2055) F.1 F.2.1 dL_law_611 (by decide) ?_
    exact kk _ _ _ _ _ _ _ _ _ _ _ _ _ _ _ _ _ _ H locs ls (hI.mono (by omega)) hP hD hS (lv_sub hl [2, 3, 4, 5, 6] rfl)
set_option maxRecDepth 100000 in
set_option maxHeartbeats 8000000 in
theorem lc_find {p : Program} {l : Launch} {e : Env} {s : State} {m : MethodId} {args : Array Value} {below : List Frame} {meth : Method} {c : Code} {Q : State → Prop} {b L : Nat} {xs : Nat → Int32} {D : va_G} {cy : Nat → ClassId} {sa : Nat → Nat} {u w : NU} {out : Nat} (hnt : l.stackTraces = false) (F : FX p m c cL_law 7 s args RL) (hK : KK D cy s) (hX : XK sa s) (hZ0 : ZK (fun q => s.heap.size ≤ q) s s.heap) (hxs : va_X b L xs s s.heap) (hb : b < s.heap.size) (hL : L ≤ 2560) {N : Int} {tl : Int} {tc : Int → Int} {ol : Int} {ct : Int} {tr : Int} {fv : Int → Int} {a : Int → Int} {G : Int → Int → Int} {ak : Int → Int} {Gk : Int → Int → Int} {As : Nat → Int → Int} {Gs : Nat → Int → Int → Int} {Ah : Nat → Int → Int} {Gh : Nat → Int → Int → Int} {th : Int → Int} {ap : Int → Int} {asl : Int → Int} {of : Nat → Int64} (hI : INV N tl tc ol ct fv a G As Gs Ah Gh ap asl) (hN : 0 ≤ N ∧ N ≤ 80000000) {i : Int} (hi : 0 ≤ i ∧ i + 5 ≤ L) {H : Heap} {locs : List Loc} {cells slots : Nat} {ls : Array Slot} (hP : va_P D vwCl (LW cy u w out tl tc ol ct tr fv a G ak Gk As Gs Ah Gh th ap asl of tl tc ct a fv) H) (hD : va_D (fun q => s.heap.size ≤ q) (LW cy u w out tl tc ol ct tr fv a G ak Gk As Gs Ah Gh th ap asl of tl tc ct a fv)) (hS : va_S (fun q => s.heap.size ≤ q) s.heap H locs) (hl : lv_has ls 7 [(4, vI i), (3, .ref out), (2, .ref (w 0 0)), (1, .ref (u 0 0)), (0, .ref b)]) (hc : cells + 1 ≤ 601024 ∧ slots + 6 ≤ 7293033) (kk : LK p l e s m args below meth c D cy u w out b (N + 50) i (cells + 1) (slots + 6) Q) : W p l e room_1 s m args below meth c H locs cells slots Q (F0 m 614 ls []) := by
  have hT := hI.1
  obtain ⟨hZ, hSV, hsp0, hsp1⟩ := hI.2.1
  have hM := SB.mr hZ
  have hn0 := hM.n
  have hw0 := hM.nw
  have hc0 := hM.wc
  have hol := hI.2.2.1
  have hct := hI.2.2.2.1
  have hbA : ¬ (fun q => s.heap.size ≤ q) b := Nat.not_le.mpr hb
  have hA : ∀ q, s.heap.size ≤ q → (fun q => s.heap.size ≤ q) q := fun q h => h
  have hZ1 : ZK nA s H := (hZ0.kept (fun a h1 h2 => hS.2.1 a h1 h2)).narrow (fun _ h => h.elim)
  refine lv_aload_n F.1 F.2.1 dL_law_614 rfl (lv_at hl 3 rfl) ?_
  refine lv_aload_n F.1 F.2.1 dL_law_615 rfl (lv_at hl 4 rfl) ?_
  refine lv_iload F.1 F.2.1 dL_law_616 (lv_at hl 0 rfl) ?_
  refine rr_iconst F dL_law_618 ?_
  refine rr_iadd F (z := i + 1) dL_law_619 rfl ?_
  refine rr_sld F (A := fun q => s.heap.size ≤ q) hxs hb hbA hS (by omega) (by omega) hL dL_law_620 ?_
  refine lv_aload_n F.1 F.2.1 dL_law_621 rfl (lv_at hl 4 rfl) ?_
  refine lv_iload F.1 F.2.1 dL_law_622 (lv_at hl 0 rfl) ?_
  refine rr_iconst F dL_law_624 ?_
  refine rr_iadd F (z := i + 2) dL_law_625 rfl ?_
  refine rr_sld F (A := fun q => s.heap.size ≤ q) hxs hb hbA hS (by omega) (by omega) hL dL_law_626 ?_
  refine lv_aload_n F.1 F.2.1 dL_law_627 rfl (lv_at hl 4 rfl) ?_
  refine lv_iload F.1 F.2.1 dL_law_628 (lv_at hl 0 rfl) ?_
  refine rr_iconst F dL_law_630 ?_
  refine rr_iadd F (z := i + 3) dL_law_631 rfl ?_
  refine rr_sld F (A := fun q => s.heap.size ≤ q) hxs hb hbA hS (by omega) (by omega) hL dL_law_632 ?_
  refine lv_aload_n F.1 F.2.1 dL_law_633 rfl (lv_at hl 1 rfl) ?_
  have hb_1 := XI_b xs (i + 1)
  have hb_2 := XI_b xs (i + 2)
  have hb_3 := XI_b xs (i + 3)
  by_cases hx0 : (0 ≤ (XI xs (i + 1)) ∧ (XI xs (i + 1)) < (a 25)) ∧ 0 ≤ (XI xs (i + 2)) ∧ (XI xs (i + 2)) ≤ 1
  · by_cases hx1 : 0 ≤ (XI xs (i + 3))
    · refine W.widen (k := cells + 1) (n := slots + 6) (by omega) (by omega) ?_
      have hvr : inR (kpl (fun u_j => (rbl a) (XI xs (i + 1)) ≤ (a 0) ∧ stn (a 0) (rq a) ((rbl a) (XI xs (i + 1))) ((rbc a) (XI xs (i + 1))) u_j (XI xs (i + 2))) (XI xs (i + 3)) (a 0)) := kpl_r _ _ hn0
      refine rr_wwS (rest := []) F hK (w_find l D cy (u 0 0) (u 1 0) (u 3 0) (u 4 0) (u 0 1) (u 0 2) (u 2 0) (u 2 6) (a 96) (a 117) (u 2 1) (u 2 2) (a 0) (G 0) (rq a) (u 2 3) (u 2 4) (u 2 5) (a 25) (G 6) (G 7) (rbl a) (rbc a) (XI xs (i + 1)) (XI xs (i + 2)) (XI xs (i + 3)) out of (SB.rg hZ) (SB.bk hZ) (by first | assumption | omega | exact ⟨by omega, by omega⟩) (by first | assumption | omega | exact ⟨by omega, by omega⟩) (by first | assumption | omega | exact ⟨by omega, by omega⟩) hvr) hP hD hS hA sfw_find tw480 ⟨Nat.le_of_ble_eq_true rfl, Nat.le_of_ble_eq_true rfl⟩ hl rfl (Nat.le_of_ble_eq_true rfl) dL_law_634 ⟨by show cells + 1 ≤ 601024; omega, by show slots + 6 ≤ 7293033; omega⟩ (pm_cABO cy u w out tl tc ol ct tr fv a G ak Gk As Gs Ah Gh th ap asl of tl tc ct a fv) rfl (fun H locs hP hD hS _ => ?_)
      have hP : va_P D vwCl (LW cy u w out tl tc ol ct tr fv a G ak Gk As Gs Ah Gh th ap asl (vp_updL of 0 (lI (kpl (fun u_j => (rbl a) (XI xs (i + 1)) ≤ (a 0) ∧ stn (a 0) (rq a) ((rbl a) (XI xs (i + 1))) ((rbc a) (XI xs (i + 1))) u_j (XI xs (i + 2))) (XI xs (i + 3)) (a 0)))) tl tc ct a fv) H := hP.perm ((pm_cABO cy u w out tl tc ol ct tr fv a G ak Gk As Gs Ah Gh th ap asl (vp_updL of 0 (lI (kpl (fun u_j => (rbl a) (XI xs (i + 1)) ≤ (a 0) ∧ stn (a 0) (rq a) ((rbl a) (XI xs (i + 1))) ((rbc a) (XI xs (i + 1))) u_j (XI xs (i + 2))) (XI xs (i + 3)) (a 0)))) tl tc ct a fv).symm)
      have hD : va_D (fun q => s.heap.size ≤ q) (LW cy u w out tl tc ol ct tr fv a G ak Gk As Gs Ah Gh th ap asl (vp_updL of 0 (lI (kpl (fun u_j => (rbl a) (XI xs (i + 1)) ≤ (a 0) ∧ stn (a 0) (rq a) ((rbl a) (XI xs (i + 1))) ((rbc a) (XI xs (i + 1))) u_j (XI xs (i + 2))) (XI xs (i + 3)) (a 0)))) tl tc ct a fv) := hD.perm ((pm_cABO cy u w out tl tc ol ct tr fv a G ak Gk As Gs Ah Gh th ap asl (vp_updL of 0 (lI (kpl (fun u_j => (rbl a) (XI xs (i + 1)) ≤ (a 0) ∧ stn (a 0) (rq a) ((rbl a) (XI xs (i + 1))) ((rbc a) (XI xs (i + 1))) u_j (XI xs (i + 2))) (XI xs (i + 3)) (a 0)))) tl tc ct a fv).symm)
      refine lv_istore (lv' := [(5, vI 0), (4, vI i), (3, .ref out), (2, .ref (w 0 0)), (1, .ref (u 0 0)), (0, .ref b)]) F.1 F.2.1 dL_law_637 hl (by decide) rfl (fun ls hl => ?_)
      refine lv_aload_n F.1 F.2.1 dL_law_639 rfl (lv_at hl 3 rfl) ?_
      refine lv_aload_n F.1 F.2.1 dL_law_640 rfl (lv_at hl 5 rfl) ?_
      refine lv_iload F.1 F.2.1 dL_law_641 (lv_at hl 1 rfl) ?_
      refine rr_iconst F dL_law_643 ?_
      refine rr_iadd F (z := i + 1) dL_law_644 rfl ?_
      refine rr_sld F (A := fun q => s.heap.size ≤ q) hxs hb hbA hS (by omega) (by omega) hL dL_law_645 ?_
      refine lv_aload_n F.1 F.2.1 dL_law_646 rfl (lv_at hl 5 rfl) ?_
      refine lv_iload F.1 F.2.1 dL_law_647 (lv_at hl 1 rfl) ?_
      refine rr_iconst F dL_law_649 ?_
      refine rr_iadd F (z := i + 2) dL_law_650 rfl ?_
      refine rr_sld F (A := fun q => s.heap.size ≤ q) hxs hb hbA hS (by omega) (by omega) hL dL_law_651 ?_
      refine lv_aload_n F.1 F.2.1 dL_law_652 rfl (lv_at hl 5 rfl) ?_
      refine lv_iload F.1 F.2.1 dL_law_653 (lv_at hl 1 rfl) ?_
      refine rr_iconst F dL_law_655 ?_
      refine rr_iadd F (z := i + 3) dL_law_656 rfl ?_
      refine rr_sld F (A := fun q => s.heap.size ≤ q) hxs hb hbA hS (by omega) (by omega) hL dL_law_657 ?_
      refine rr_wrVp (rest := []) F hK (c_X7_find l D cy (w 0 0) (w 0 1) (w 0 2) (w 0 3) (w 0 4) (w 0 5) (w 0 6) tr ct tl a (XI xs (i + 1)) (XI xs (i + 2)) (XI xs (i + 3)) hM (XI_r _ _) (XI_r _ _) (XI_r _ _) (by first | assumption | omega | exact ⟨by omega, by omega⟩) (by first | assumption | omega | exact ⟨by omega, by omega⟩) (by first | assumption | omega | exact ⟨by omega, by omega⟩)) hP hD hS hA sf_X7_find tw1056 7 rfl rfl ⟨Nat.le_of_ble_eq_true rfl, Nat.le_of_ble_eq_true rfl⟩ hl rfl (Nat.le_of_ble_eq_true rfl) dL_law_658 ⟨by show cells + 1 ≤ 601024; omega, by show slots + 6 ≤ 7293033; omega⟩ (pm_mN cy u w out tl tc ol ct tr fv a G ak Gk As Gs Ah Gh th ap asl (vp_updL of 0 (lI (kpl (fun u_j => (rbl a) (XI xs (i + 1)) ≤ (a 0) ∧ stn (a 0) (rq a) ((rbl a) (XI xs (i + 1))) ((rbc a) (XI xs (i + 1))) u_j (XI xs (i + 2))) (XI xs (i + 3)) (a 0)))) tl tc ct a fv) rfl (fun H locs hP hD hS _ => ?_)
      have hP : va_P D vwCl (LW cy u w out tl tc ol ct 0 fv a G ak Gk As Gs Ah Gh th ap asl (vp_updL of 0 (lI (kpl (fun u_j => (rbl a) (XI xs (i + 1)) ≤ (a 0) ∧ stn (a 0) (rq a) ((rbl a) (XI xs (i + 1))) ((rbc a) (XI xs (i + 1))) u_j (XI xs (i + 2))) (XI xs (i + 3)) (a 0)))) tl tc ct a fv) H := hP.perm ((pm_mN cy u w out tl tc ol ct 0 fv a G ak Gk As Gs Ah Gh th ap asl (vp_updL of 0 (lI (kpl (fun u_j => (rbl a) (XI xs (i + 1)) ≤ (a 0) ∧ stn (a 0) (rq a) ((rbl a) (XI xs (i + 1))) ((rbc a) (XI xs (i + 1))) u_j (XI xs (i + 2))) (XI xs (i + 3)) (a 0)))) tl tc ct a fv).symm)
      have hD : va_D (fun q => s.heap.size ≤ q) (LW cy u w out tl tc ol ct 0 fv a G ak Gk As Gs Ah Gh th ap asl (vp_updL of 0 (lI (kpl (fun u_j => (rbl a) (XI xs (i + 1)) ≤ (a 0) ∧ stn (a 0) (rq a) ((rbl a) (XI xs (i + 1))) ((rbc a) (XI xs (i + 1))) u_j (XI xs (i + 2))) (XI xs (i + 3)) (a 0)))) tl tc ct a fv) := hD.perm ((pm_mN cy u w out tl tc ol ct 0 fv a G ak Gk As Gs Ah Gh th ap asl (vp_updL of 0 (lI (kpl (fun u_j => (rbl a) (XI xs (i + 1)) ≤ (a 0) ∧ stn (a 0) (rq a) ((rbl a) (XI xs (i + 1))) ((rbc a) (XI xs (i + 1))) u_j (XI xs (i + 2))) (XI xs (i + 3)) (a 0)))) tl tc ct a fv).symm)
      have hP : va_P D vwCl (LW cy u w out tl tc ol ct 0 fv a G ak Gk As Gs Ah Gh th ap asl (vp_updL of 0 (lI (kpl (fun u_j => (rbl a) (XI xs (i + 1)) ≤ (a 0) ∧ stn (a 0) (rq a) ((rbl a) (XI xs (i + 1))) ((rbc a) (XI xs (i + 1))) u_j (XI xs (i + 2))) (XI xs (i + 3)) (a 0)))) tl tc ct a fv) H := hP
      have hD : va_D (fun q => s.heap.size ≤ q) (LW cy u w out tl tc ol ct 0 fv a G ak Gk As Gs Ah Gh th ap asl (vp_updL of 0 (lI (kpl (fun u_j => (rbl a) (XI xs (i + 1)) ≤ (a 0) ∧ stn (a 0) (rq a) ((rbl a) (XI xs (i + 1))) ((rbc a) (XI xs (i + 1))) u_j (XI xs (i + 2))) (XI xs (i + 3)) (a 0)))) tl tc ct a fv) := hD
      refine lv_istore (lv' := [(6, vI (kpl (fun u_j => (rbl a) (XI xs (i + 1)) ≤ (a 0) ∧ stn (a 0) (rq a) ((rbl a) (XI xs (i + 1))) ((rbc a) (XI xs (i + 1))) u_j (XI xs (i + 2))) (XI xs (i + 3)) (a 0))), (5, vI 0), (4, vI i), (3, .ref out), (2, .ref (w 0 0)), (1, .ref (u 0 0)), (0, .ref b)]) F.1 F.2.1 dL_law_661 hl (by decide) rfl (fun ls hl => ?_)
      refine lv_aload_n F.1 F.2.1 dL_law_663 rfl (lv_at hl 4 rfl) ?_
      refine rr_rdVp (rest := []) F hK (c_X7_thrown l D cy (w 0 0) (w 0 1) (w 0 2) (w 0 3) (w 0 4) (w 0 5) (w 0 6) 0 ct tl) hP (pm_m0 cy u w out tl tc ol ct 0 fv a G ak Gk As Gs Ah Gh th ap asl (vp_updL of 0 (lI (kpl (fun u_j => (rbl a) (XI xs (i + 1)) ≤ (a 0) ∧ stn (a 0) (rq a) ((rbl a) (XI xs (i + 1))) ((rbc a) (XI xs (i + 1))) u_j (XI xs (i + 2))) (XI xs (i + 3)) (a 0)))) tl tc ct a fv) sf_X7_thrown tw902 7 rfl rfl ⟨Nat.le_of_ble_eq_true rfl, Nat.le_of_ble_eq_true rfl⟩ hl rfl (Nat.le_of_ble_eq_true rfl) dL_law_664 ⟨by show cells + 1 ≤ 601024; omega, by show slots + 6 ≤ 7293033; omega⟩ ?_
      refine lv_iload F.1 F.2.1 dL_law_667 (lv_at hl 1 rfl) ?_
      refine rr_icmp_eq F (tgt := 674) dL_law_669 (by decide) ⟨by omega, by omega⟩ ⟨by omega, by omega⟩ (fun _ => ?_) (fun z => absurd rfl z)
      refine lv_iload F.1 F.2.1 dL_law_674 (lv_at hl 1 rfl) ?_
      refine rr_if_ne F (tgt := 691) dL_law_676 (by decide) ⟨by omega, by omega⟩ (fun z => absurd rfl z) (fun _ => ?_)
      refine lv_aload_n F.1 F.2.1 dL_law_679 rfl (lv_at hl 3 rfl) ?_
      refine rr_iconst F dL_law_680 ?_
      refine rr_lald0 F hK (hP.perm (pm_o cy u w out tl tc ol ct 0 fv a G ak Gk As Gs Ah Gh th ap asl (vp_updL of 0 (lI (kpl (fun u_j => (rbl a) (XI xs (i + 1)) ≤ (a 0) ∧ stn (a 0) (rq a) ((rbl a) (XI xs (i + 1))) ((rbc a) (XI xs (i + 1))) u_j (XI xs (i + 2))) (XI xs (i + 3)) (a 0)))) tl tc ct a fv)) 0 rfl dL_law_681 ?_
      refine lv_iload F.1 F.2.1 dL_law_682 (lv_at hl 0 rfl) ?_
      refine rr_i2l F dL_law_684 hvr ?_
      refine rr_lcmp F (a := kpl (fun u_j => (rbl a) (XI xs (i + 1)) ≤ (a 0) ∧ stn (a 0) (rq a) ((rbl a) (XI xs (i + 1))) ((rbc a) (XI xs (i + 1))) u_j (XI xs (i + 2))) (XI xs (i + 3)) (a 0)) (b := kpl (fun u_j => (rbl a) (XI xs (i + 1)) ≤ (a 0) ∧ stn (a 0) (rq a) ((rbl a) (XI xs (i + 1))) ((rbc a) (XI xs (i + 1))) u_j (XI xs (i + 2))) (XI xs (i + 3)) (a 0)) dL_law_685 (inL_r hvr) (inL_r hvr) ?_
      refine rr_if_eq F (tgt := 691) dL_law_686 (by decide) (lcm_r _ _) (fun _ => ?_) (fun z => absurd ((lcm_spec _ _).2.1.mpr rfl) z)
      refine lv_goto (tgt := 2055) F.1 F.2.1 dL_law_691 (by decide) ?_
      exact kk _ _ _ _ _ _ _ _ _ _ _ _ _ _ _ _ _ _ H locs ls (hI.mono (by omega)) hP hD hS (lv_sub hl [2, 3, 4, 5, 6] rfl)
    · refine rr_twS (rest := []) F hK hX hZ1 (r_find_35 l hnt D cy sa (u 0 0) (u 1 0) (u 3 0) (u 4 0) (u 0 1) (u 0 2) (u 2 0) (u 2 6) (a 96) (a 117) (u 2 1) (u 2 2) (a 0) (G 0) (rq a) (u 2 3) (u 2 4) (u 2 5) (a 25) (G 6) (G 7) (rbl a) (rbc a) (XI xs (i + 1)) (XI xs (i + 2)) (XI xs (i + 3)) out (SB.rg hZ) (SB.bk hZ) (XI_r _ _) (XI_r _ _) (XI_r _ _) (by first | assumption | omega | exact ⟨by omega, by omega⟩) (by first | assumption | omega | exact ⟨by omega, by omega⟩)) hP hS sfw_find tw480 ⟨Nat.le_of_ble_eq_true rfl, Nat.le_of_ble_eq_true rfl⟩ hl rfl (Nat.le_of_ble_eq_true rfl) dL_law_634 ⟨by show cells + 1 ≤ 601024; omega, by show slots + 6 ≤ 7293033; omega⟩ (pm_cAB cy u w out tl tc ol ct tr fv a G ak Gk As Gs Ah Gh th ap asl of tl tc ct a fv) (fun H locs hP hS _ => ?_)
      refine lv_istore (lv' := [(5, vI 2), (4, vI i), (3, .ref out), (2, .ref (w 0 0)), (1, .ref (u 0 0)), (0, .ref b)]) F.1 F.2.1 dL_law_637 hl (by decide) rfl (fun ls hl => ?_)
      refine lv_aload_n F.1 F.2.1 dL_law_639 rfl (lv_at hl 3 rfl) ?_
      refine lv_aload_n F.1 F.2.1 dL_law_640 rfl (lv_at hl 5 rfl) ?_
      refine lv_iload F.1 F.2.1 dL_law_641 (lv_at hl 1 rfl) ?_
      refine rr_iconst F dL_law_643 ?_
      refine rr_iadd F (z := i + 1) dL_law_644 rfl ?_
      refine rr_sld F (A := fun q => s.heap.size ≤ q) hxs hb hbA hS (by omega) (by omega) hL dL_law_645 ?_
      refine lv_aload_n F.1 F.2.1 dL_law_646 rfl (lv_at hl 5 rfl) ?_
      refine lv_iload F.1 F.2.1 dL_law_647 (lv_at hl 1 rfl) ?_
      refine rr_iconst F dL_law_649 ?_
      refine rr_iadd F (z := i + 2) dL_law_650 rfl ?_
      refine rr_sld F (A := fun q => s.heap.size ≤ q) hxs hb hbA hS (by omega) (by omega) hL dL_law_651 ?_
      refine lv_aload_n F.1 F.2.1 dL_law_652 rfl (lv_at hl 5 rfl) ?_
      refine lv_iload F.1 F.2.1 dL_law_653 (lv_at hl 1 rfl) ?_
      refine rr_iconst F dL_law_655 ?_
      refine rr_iadd F (z := i + 3) dL_law_656 rfl ?_
      refine rr_sld F (A := fun q => s.heap.size ≤ q) hxs hb hbA hS (by omega) (by omega) hL dL_law_657 ?_
      have hcode : (if (0 ≤ (XI xs (i + 1)) ∧ (XI xs (i + 1)) < a 25) ∧ (0 ≤ (XI xs (i + 2)) ∧ (XI xs (i + 2)) ≤ 1) then 2 else 1 : Int) = 2 := by first | rfl | ((repeat' split) <;> first | rfl | omega)
      refine rr_wrVp (rest := []) F hK (n_X7_find l D cy (w 0 0) (w 0 1) (w 0 2) (w 0 3) (w 0 4) (w 0 5) (w 0 6) tr ct tl a (XI xs (i + 1)) (XI xs (i + 2)) (XI xs (i + 3)) hM (XI_r _ _) (XI_r _ _) (XI_r _ _) (by first | assumption | omega)) hP hD hS hA sf_X7_find tw1056 7 rfl rfl ⟨Nat.le_of_ble_eq_true rfl, Nat.le_of_ble_eq_true rfl⟩ hl rfl (Nat.le_of_ble_eq_true rfl) dL_law_658 ⟨by show cells + 1 ≤ 601024; omega, by show slots + 6 ≤ 7293033; omega⟩ (pm_mN cy u w out tl tc ol ct tr fv a G ak Gk As Gs Ah Gh th ap asl of tl tc ct a fv) rfl (fun H locs hP hD hS _ => ?_)
      have hP : va_P D vwCl (LW cy u w out tl tc ol ct (if (0 ≤ (XI xs (i + 1)) ∧ (XI xs (i + 1)) < a 25) ∧ (0 ≤ (XI xs (i + 2)) ∧ (XI xs (i + 2)) ≤ 1) then 2 else 1) fv a G ak Gk As Gs Ah Gh th ap asl of tl tc ct a fv) H := hP.perm ((pm_mN cy u w out tl tc ol ct (if (0 ≤ (XI xs (i + 1)) ∧ (XI xs (i + 1)) < a 25) ∧ (0 ≤ (XI xs (i + 2)) ∧ (XI xs (i + 2)) ≤ 1) then 2 else 1) fv a G ak Gk As Gs Ah Gh th ap asl of tl tc ct a fv).symm)
      have hD : va_D (fun q => s.heap.size ≤ q) (LW cy u w out tl tc ol ct (if (0 ≤ (XI xs (i + 1)) ∧ (XI xs (i + 1)) < a 25) ∧ (0 ≤ (XI xs (i + 2)) ∧ (XI xs (i + 2)) ≤ 1) then 2 else 1) fv a G ak Gk As Gs Ah Gh th ap asl of tl tc ct a fv) := hD.perm ((pm_mN cy u w out tl tc ol ct (if (0 ≤ (XI xs (i + 1)) ∧ (XI xs (i + 1)) < a 25) ∧ (0 ≤ (XI xs (i + 2)) ∧ (XI xs (i + 2)) ≤ 1) then 2 else 1) fv a G ak Gk As Gs Ah Gh th ap asl of tl tc ct a fv).symm)
      rw [hcode] at hP hD
      refine lv_istore (lv' := [(6, vI 0), (5, vI 2), (4, vI i), (3, .ref out), (2, .ref (w 0 0)), (1, .ref (u 0 0)), (0, .ref b)]) F.1 F.2.1 dL_law_661 hl (by decide) rfl (fun ls hl => ?_)
      refine lv_aload_n F.1 F.2.1 dL_law_663 rfl (lv_at hl 4 rfl) ?_
      refine rr_rdVp (rest := []) F hK (c_X7_thrown l D cy (w 0 0) (w 0 1) (w 0 2) (w 0 3) (w 0 4) (w 0 5) (w 0 6) 2 ct tl) hP (pm_m0 cy u w out tl tc ol ct 2 fv a G ak Gk As Gs Ah Gh th ap asl of tl tc ct a fv) sf_X7_thrown tw902 7 rfl rfl ⟨Nat.le_of_ble_eq_true rfl, Nat.le_of_ble_eq_true rfl⟩ hl rfl (Nat.le_of_ble_eq_true rfl) dL_law_664 ⟨by show cells + 1 ≤ 601024; omega, by show slots + 6 ≤ 7293033; omega⟩ ?_
      refine lv_iload F.1 F.2.1 dL_law_667 (lv_at hl 1 rfl) ?_
      refine rr_icmp_eq F (tgt := 674) dL_law_669 (by decide) ⟨by omega, by omega⟩ ⟨by omega, by omega⟩ (fun _ => ?_) (fun z => absurd rfl z)
      refine lv_iload F.1 F.2.1 dL_law_674 (lv_at hl 1 rfl) ?_
      refine rr_if_ne F (tgt := 691) dL_law_676 (by decide) ⟨by omega, by omega⟩ (fun _ => ?_) (fun z => by omega)
      refine lv_goto (tgt := 2055) F.1 F.2.1 dL_law_691 (by decide) ?_
      exact kk _ _ _ _ _ _ _ _ _ _ _ _ _ _ _ _ _ _ H locs ls (hI.mono (by omega)) hP hD hS (lv_sub hl [2, 3, 4, 5, 6] rfl)
  · refine rr_twS (rest := []) F hK hX hZ1 (r_find_21 l hnt D cy sa (u 0 0) (u 1 0) (u 3 0) (u 4 0) (u 0 1) (u 0 2) (u 2 0) (u 2 6) (a 96) (a 117) (u 2 1) (u 2 2) (a 0) (G 0) (rq a) (u 2 3) (u 2 4) (u 2 5) (a 25) (G 6) (G 7) (rbl a) (rbc a) (XI xs (i + 1)) (XI xs (i + 2)) (XI xs (i + 3)) out (SB.rg hZ) (SB.bk hZ) (XI_r _ _) (XI_r _ _) (XI_r _ _) (by first | assumption | omega | exact ⟨by omega, by omega⟩)) hP hS sfw_find tw480 ⟨Nat.le_of_ble_eq_true rfl, Nat.le_of_ble_eq_true rfl⟩ hl rfl (Nat.le_of_ble_eq_true rfl) dL_law_634 ⟨by show cells + 1 ≤ 601024; omega, by show slots + 6 ≤ 7293033; omega⟩ (pm_cAB cy u w out tl tc ol ct tr fv a G ak Gk As Gs Ah Gh th ap asl of tl tc ct a fv) (fun H locs hP hS _ => ?_)
    refine lv_istore (lv' := [(5, vI 1), (4, vI i), (3, .ref out), (2, .ref (w 0 0)), (1, .ref (u 0 0)), (0, .ref b)]) F.1 F.2.1 dL_law_637 hl (by decide) rfl (fun ls hl => ?_)
    refine lv_aload_n F.1 F.2.1 dL_law_639 rfl (lv_at hl 3 rfl) ?_
    refine lv_aload_n F.1 F.2.1 dL_law_640 rfl (lv_at hl 5 rfl) ?_
    refine lv_iload F.1 F.2.1 dL_law_641 (lv_at hl 1 rfl) ?_
    refine rr_iconst F dL_law_643 ?_
    refine rr_iadd F (z := i + 1) dL_law_644 rfl ?_
    refine rr_sld F (A := fun q => s.heap.size ≤ q) hxs hb hbA hS (by omega) (by omega) hL dL_law_645 ?_
    refine lv_aload_n F.1 F.2.1 dL_law_646 rfl (lv_at hl 5 rfl) ?_
    refine lv_iload F.1 F.2.1 dL_law_647 (lv_at hl 1 rfl) ?_
    refine rr_iconst F dL_law_649 ?_
    refine rr_iadd F (z := i + 2) dL_law_650 rfl ?_
    refine rr_sld F (A := fun q => s.heap.size ≤ q) hxs hb hbA hS (by omega) (by omega) hL dL_law_651 ?_
    refine lv_aload_n F.1 F.2.1 dL_law_652 rfl (lv_at hl 5 rfl) ?_
    refine lv_iload F.1 F.2.1 dL_law_653 (lv_at hl 1 rfl) ?_
    refine rr_iconst F dL_law_655 ?_
    refine rr_iadd F (z := i + 3) dL_law_656 rfl ?_
    refine rr_sld F (A := fun q => s.heap.size ≤ q) hxs hb hbA hS (by omega) (by omega) hL dL_law_657 ?_
    have hcode : (if (0 ≤ (XI xs (i + 1)) ∧ (XI xs (i + 1)) < a 25) ∧ (0 ≤ (XI xs (i + 2)) ∧ (XI xs (i + 2)) ≤ 1) then 2 else 1 : Int) = 1 := by first | rfl | ((repeat' split) <;> first | rfl | omega)
    refine rr_wrVp (rest := []) F hK (n_X7_find l D cy (w 0 0) (w 0 1) (w 0 2) (w 0 3) (w 0 4) (w 0 5) (w 0 6) tr ct tl a (XI xs (i + 1)) (XI xs (i + 2)) (XI xs (i + 3)) hM (XI_r _ _) (XI_r _ _) (XI_r _ _) (by first | assumption | omega)) hP hD hS hA sf_X7_find tw1056 7 rfl rfl ⟨Nat.le_of_ble_eq_true rfl, Nat.le_of_ble_eq_true rfl⟩ hl rfl (Nat.le_of_ble_eq_true rfl) dL_law_658 ⟨by show cells + 1 ≤ 601024; omega, by show slots + 6 ≤ 7293033; omega⟩ (pm_mN cy u w out tl tc ol ct tr fv a G ak Gk As Gs Ah Gh th ap asl of tl tc ct a fv) rfl (fun H locs hP hD hS _ => ?_)
    have hP : va_P D vwCl (LW cy u w out tl tc ol ct (if (0 ≤ (XI xs (i + 1)) ∧ (XI xs (i + 1)) < a 25) ∧ (0 ≤ (XI xs (i + 2)) ∧ (XI xs (i + 2)) ≤ 1) then 2 else 1) fv a G ak Gk As Gs Ah Gh th ap asl of tl tc ct a fv) H := hP.perm ((pm_mN cy u w out tl tc ol ct (if (0 ≤ (XI xs (i + 1)) ∧ (XI xs (i + 1)) < a 25) ∧ (0 ≤ (XI xs (i + 2)) ∧ (XI xs (i + 2)) ≤ 1) then 2 else 1) fv a G ak Gk As Gs Ah Gh th ap asl of tl tc ct a fv).symm)
    have hD : va_D (fun q => s.heap.size ≤ q) (LW cy u w out tl tc ol ct (if (0 ≤ (XI xs (i + 1)) ∧ (XI xs (i + 1)) < a 25) ∧ (0 ≤ (XI xs (i + 2)) ∧ (XI xs (i + 2)) ≤ 1) then 2 else 1) fv a G ak Gk As Gs Ah Gh th ap asl of tl tc ct a fv) := hD.perm ((pm_mN cy u w out tl tc ol ct (if (0 ≤ (XI xs (i + 1)) ∧ (XI xs (i + 1)) < a 25) ∧ (0 ≤ (XI xs (i + 2)) ∧ (XI xs (i + 2)) ≤ 1) then 2 else 1) fv a G ak Gk As Gs Ah Gh th ap asl of tl tc ct a fv).symm)
    rw [hcode] at hP hD
    refine lv_istore (lv' := [(6, vI 0), (5, vI 1), (4, vI i), (3, .ref out), (2, .ref (w 0 0)), (1, .ref (u 0 0)), (0, .ref b)]) F.1 F.2.1 dL_law_661 hl (by decide) rfl (fun ls hl => ?_)
    refine lv_aload_n F.1 F.2.1 dL_law_663 rfl (lv_at hl 4 rfl) ?_
    refine rr_rdVp (rest := []) F hK (c_X7_thrown l D cy (w 0 0) (w 0 1) (w 0 2) (w 0 3) (w 0 4) (w 0 5) (w 0 6) 1 ct tl) hP (pm_m0 cy u w out tl tc ol ct 1 fv a G ak Gk As Gs Ah Gh th ap asl of tl tc ct a fv) sf_X7_thrown tw902 7 rfl rfl ⟨Nat.le_of_ble_eq_true rfl, Nat.le_of_ble_eq_true rfl⟩ hl rfl (Nat.le_of_ble_eq_true rfl) dL_law_664 ⟨by show cells + 1 ≤ 601024; omega, by show slots + 6 ≤ 7293033; omega⟩ ?_
    refine lv_iload F.1 F.2.1 dL_law_667 (lv_at hl 1 rfl) ?_
    refine rr_icmp_eq F (tgt := 674) dL_law_669 (by decide) ⟨by omega, by omega⟩ ⟨by omega, by omega⟩ (fun _ => ?_) (fun z => absurd rfl z)
    refine lv_iload F.1 F.2.1 dL_law_674 (lv_at hl 1 rfl) ?_
    refine rr_if_ne F (tgt := 691) dL_law_676 (by decide) ⟨by omega, by omega⟩ (fun _ => ?_) (fun z => by omega)
    refine lv_goto (tgt := 2055) F.1 F.2.1 dL_law_691 (by decide) ?_
    exact kk _ _ _ _ _ _ _ _ _ _ _ _ _ _ _ _ _ _ H locs ls (hI.mono (by omega)) hP hD hS (lv_sub hl [2, 3, 4, 5, 6] rfl)
set_option maxRecDepth 100000 in
set_option maxHeartbeats 8000000 in
theorem lc_walker {p : Program} {l : Launch} {e : Env} {s : State} {m : MethodId} {args : Array Value} {below : List Frame} {meth : Method} {c : Code} {Q : State → Prop} {b L : Nat} {xs : Nat → Int32} {D : va_G} {cy : Nat → ClassId} {sa : Nat → Nat} {u w : NU} {out : Nat} (hnt : l.stackTraces = false) (F : FX p m c cL_law 7 s args RL) (hK : KK D cy s) (hX : XK sa s) (hZ0 : ZK (fun q => s.heap.size ≤ q) s s.heap) (hxs : va_X b L xs s s.heap) (hb : b < s.heap.size) (hL : L ≤ 2560) {N : Int} {tl : Int} {tc : Int → Int} {ol : Int} {ct : Int} {tr : Int} {fv : Int → Int} {a : Int → Int} {G : Int → Int → Int} {ak : Int → Int} {Gk : Int → Int → Int} {As : Nat → Int → Int} {Gs : Nat → Int → Int → Int} {Ah : Nat → Int → Int} {Gh : Nat → Int → Int → Int} {th : Int → Int} {ap : Int → Int} {asl : Int → Int} {of : Nat → Int64} (hI : INV N tl tc ol ct fv a G As Gs Ah Gh ap asl) (hN : 0 ≤ N ∧ N ≤ 80000000) {i : Int} (hi : 0 ≤ i ∧ i + 5 ≤ L) {H : Heap} {locs : List Loc} {cells slots : Nat} {ls : Array Slot} (hP : va_P D vwCl (LW cy u w out tl tc ol ct tr fv a G ak Gk As Gs Ah Gh th ap asl of tl tc ct a fv) H) (hD : va_D (fun q => s.heap.size ≤ q) (LW cy u w out tl tc ol ct tr fv a G ak Gk As Gs Ah Gh th ap asl of tl tc ct a fv)) (hS : va_S (fun q => s.heap.size ≤ q) s.heap H locs) (hl : lv_has ls 7 [(4, vI i), (3, .ref out), (2, .ref (w 0 0)), (1, .ref (u 0 0)), (0, .ref b)]) (hc : cells + 1 ≤ 601024 ∧ slots + 6 ≤ 7293033) (kk : LK p l e s m args below meth c D cy u w out b (N + 50) i (cells + 1) (slots + 6) Q) : W p l e room_1 s m args below meth c H locs cells slots Q (F0 m 694 ls []) := by
  have hT := hI.1
  obtain ⟨hZ, hSV, hsp0, hsp1⟩ := hI.2.1
  have hM := SB.mr hZ
  have hn0 := hM.n
  have hw0 := hM.nw
  have hc0 := hM.wc
  have hol := hI.2.2.1
  have hct := hI.2.2.2.1
  have hbA : ¬ (fun q => s.heap.size ≤ q) b := Nat.not_le.mpr hb
  have hA : ∀ q, s.heap.size ≤ q → (fun q => s.heap.size ≤ q) q := fun q h => h
  have hZ1 : ZK nA s H := (hZ0.kept (fun a h1 h2 => hS.2.1 a h1 h2)).narrow (fun _ h => h.elim)
  refine lv_aload_n F.1 F.2.1 dL_law_694 rfl (lv_at hl 3 rfl) ?_
  refine lv_aload_n F.1 F.2.1 dL_law_695 rfl (lv_at hl 4 rfl) ?_
  refine lv_iload F.1 F.2.1 dL_law_696 (lv_at hl 0 rfl) ?_
  refine rr_iconst F dL_law_698 ?_
  refine rr_iadd F (z := i + 1) dL_law_699 rfl ?_
  refine rr_sld F (A := fun q => s.heap.size ≤ q) hxs hb hbA hS (by omega) (by omega) hL dL_law_700 ?_
  refine lv_aload_n F.1 F.2.1 dL_law_701 rfl (lv_at hl 4 rfl) ?_
  refine lv_iload F.1 F.2.1 dL_law_702 (lv_at hl 0 rfl) ?_
  refine rr_iconst F dL_law_704 ?_
  refine rr_iadd F (z := i + 2) dL_law_705 rfl ?_
  refine rr_sld F (A := fun q => s.heap.size ≤ q) hxs hb hbA hS (by omega) (by omega) hL dL_law_706 ?_
  refine lv_aload_n F.1 F.2.1 dL_law_707 rfl (lv_at hl 1 rfl) ?_
  have hb_1 := XI_b xs (i + 1)
  have hb_2 := XI_b xs (i + 2)
  by_cases hx0 : 0 ≤ (XI xs (i + 1)) ∧ (XI xs (i + 1)) < (a 96)
  · by_cases hx1 : 0 ≤ (XI xs (i + 2)) ∧ (XI xs (i + 2)) ≤ 6
    · refine W.widen (k := cells + 1) (n := slots + 6) (by omega) (by omega) ?_
      have hvr : inR (wkv (a 0) (rq a) (a 25) (rbl a) (rbc a) ((G 1) (XI xs (i + 1))) ((G 2) (XI xs (i + 1))) ((G 3) (XI xs (i + 1))) ((G 4) (XI xs (i + 1))) ((G 5) (XI xs (i + 1))) (XI xs (i + 2))) := wkv_r hZ (by omega)
      refine rr_wwS (rest := []) F hK (w_walker l D cy (u 0 0) (u 1 0) (u 3 0) (u 4 0) (u 0 1) (u 0 2) (u 2 0) (u 2 6) (fun i => u 2 (7 + Int.toNat i)) (a 96) (a 117) (G 1) (G 2) (G 3) (G 4) (G 5) (u 2 1) (u 2 2) (a 0) (G 0) (rq a) (u 2 3) (u 2 4) (u 2 5) (a 25) (G 6) (G 7) (rbl a) (rbc a) (XI xs (i + 1)) (XI xs (i + 2)) out of (SB.rg hZ) (SB.bk hZ) (SB.ws hZ) (by first | assumption | omega | exact ⟨by omega, by omega⟩) (by first | assumption | omega | exact ⟨by omega, by omega⟩) hvr) hP hD hS hA sfw_walker tw493 ⟨Nat.le_of_ble_eq_true rfl, Nat.le_of_ble_eq_true rfl⟩ hl rfl (Nat.le_of_ble_eq_true rfl) dL_law_708 ⟨by show cells + 1 ≤ 601024; omega, by show slots + 6 ≤ 7293033; omega⟩ (pm_cABCO cy u w out tl tc ol ct tr fv a G ak Gk As Gs Ah Gh th ap asl of tl tc ct a fv) rfl (fun H locs hP hD hS _ => ?_)
      have hP : va_P D vwCl (LW cy u w out tl tc ol ct tr fv a G ak Gk As Gs Ah Gh th ap asl (vp_updL of 0 (lI (wkv (a 0) (rq a) (a 25) (rbl a) (rbc a) ((G 1) (XI xs (i + 1))) ((G 2) (XI xs (i + 1))) ((G 3) (XI xs (i + 1))) ((G 4) (XI xs (i + 1))) ((G 5) (XI xs (i + 1))) (XI xs (i + 2))))) tl tc ct a fv) H := hP.perm ((pm_cABCO cy u w out tl tc ol ct tr fv a G ak Gk As Gs Ah Gh th ap asl (vp_updL of 0 (lI (wkv (a 0) (rq a) (a 25) (rbl a) (rbc a) ((G 1) (XI xs (i + 1))) ((G 2) (XI xs (i + 1))) ((G 3) (XI xs (i + 1))) ((G 4) (XI xs (i + 1))) ((G 5) (XI xs (i + 1))) (XI xs (i + 2))))) tl tc ct a fv).symm)
      have hD : va_D (fun q => s.heap.size ≤ q) (LW cy u w out tl tc ol ct tr fv a G ak Gk As Gs Ah Gh th ap asl (vp_updL of 0 (lI (wkv (a 0) (rq a) (a 25) (rbl a) (rbc a) ((G 1) (XI xs (i + 1))) ((G 2) (XI xs (i + 1))) ((G 3) (XI xs (i + 1))) ((G 4) (XI xs (i + 1))) ((G 5) (XI xs (i + 1))) (XI xs (i + 2))))) tl tc ct a fv) := hD.perm ((pm_cABCO cy u w out tl tc ol ct tr fv a G ak Gk As Gs Ah Gh th ap asl (vp_updL of 0 (lI (wkv (a 0) (rq a) (a 25) (rbl a) (rbc a) ((G 1) (XI xs (i + 1))) ((G 2) (XI xs (i + 1))) ((G 3) (XI xs (i + 1))) ((G 4) (XI xs (i + 1))) ((G 5) (XI xs (i + 1))) (XI xs (i + 2))))) tl tc ct a fv).symm)
      refine lv_istore (lv' := [(5, vI 0), (4, vI i), (3, .ref out), (2, .ref (w 0 0)), (1, .ref (u 0 0)), (0, .ref b)]) F.1 F.2.1 dL_law_711 hl (by decide) rfl (fun ls hl => ?_)
      refine lv_aload_n F.1 F.2.1 dL_law_713 rfl (lv_at hl 3 rfl) ?_
      refine lv_aload_n F.1 F.2.1 dL_law_714 rfl (lv_at hl 5 rfl) ?_
      refine lv_iload F.1 F.2.1 dL_law_715 (lv_at hl 1 rfl) ?_
      refine rr_iconst F dL_law_717 ?_
      refine rr_iadd F (z := i + 1) dL_law_718 rfl ?_
      refine rr_sld F (A := fun q => s.heap.size ≤ q) hxs hb hbA hS (by omega) (by omega) hL dL_law_719 ?_
      refine lv_aload_n F.1 F.2.1 dL_law_720 rfl (lv_at hl 5 rfl) ?_
      refine lv_iload F.1 F.2.1 dL_law_721 (lv_at hl 1 rfl) ?_
      refine rr_iconst F dL_law_723 ?_
      refine rr_iadd F (z := i + 2) dL_law_724 rfl ?_
      refine rr_sld F (A := fun q => s.heap.size ≤ q) hxs hb hbA hS (by omega) (by omega) hL dL_law_725 ?_
      refine rr_wrVp (rest := []) F hK (c_X7_walker l D cy (w 0 0) (w 0 1) (w 0 2) (w 0 3) (w 0 4) (w 0 5) (w 0 6) tr ct tl a (XI xs (i + 1)) (XI xs (i + 2)) hM (XI_r _ _) (XI_r _ _) (by first | assumption | omega | exact ⟨by omega, by omega⟩) (by first | assumption | omega | exact ⟨by omega, by omega⟩)) hP hD hS hA sf_X7_walker tw1064 7 rfl rfl ⟨Nat.le_of_ble_eq_true rfl, Nat.le_of_ble_eq_true rfl⟩ hl rfl (Nat.le_of_ble_eq_true rfl) dL_law_726 ⟨by show cells + 1 ≤ 601024; omega, by show slots + 6 ≤ 7293033; omega⟩ (pm_mN cy u w out tl tc ol ct tr fv a G ak Gk As Gs Ah Gh th ap asl (vp_updL of 0 (lI (wkv (a 0) (rq a) (a 25) (rbl a) (rbc a) ((G 1) (XI xs (i + 1))) ((G 2) (XI xs (i + 1))) ((G 3) (XI xs (i + 1))) ((G 4) (XI xs (i + 1))) ((G 5) (XI xs (i + 1))) (XI xs (i + 2))))) tl tc ct a fv) rfl (fun H locs hP hD hS _ => ?_)
      have hP : va_P D vwCl (LW cy u w out tl tc ol ct 0 fv a G ak Gk As Gs Ah Gh th ap asl (vp_updL of 0 (lI (wkv (a 0) (rq a) (a 25) (rbl a) (rbc a) ((G 1) (XI xs (i + 1))) ((G 2) (XI xs (i + 1))) ((G 3) (XI xs (i + 1))) ((G 4) (XI xs (i + 1))) ((G 5) (XI xs (i + 1))) (XI xs (i + 2))))) tl tc ct a fv) H := hP.perm ((pm_mN cy u w out tl tc ol ct 0 fv a G ak Gk As Gs Ah Gh th ap asl (vp_updL of 0 (lI (wkv (a 0) (rq a) (a 25) (rbl a) (rbc a) ((G 1) (XI xs (i + 1))) ((G 2) (XI xs (i + 1))) ((G 3) (XI xs (i + 1))) ((G 4) (XI xs (i + 1))) ((G 5) (XI xs (i + 1))) (XI xs (i + 2))))) tl tc ct a fv).symm)
      have hD : va_D (fun q => s.heap.size ≤ q) (LW cy u w out tl tc ol ct 0 fv a G ak Gk As Gs Ah Gh th ap asl (vp_updL of 0 (lI (wkv (a 0) (rq a) (a 25) (rbl a) (rbc a) ((G 1) (XI xs (i + 1))) ((G 2) (XI xs (i + 1))) ((G 3) (XI xs (i + 1))) ((G 4) (XI xs (i + 1))) ((G 5) (XI xs (i + 1))) (XI xs (i + 2))))) tl tc ct a fv) := hD.perm ((pm_mN cy u w out tl tc ol ct 0 fv a G ak Gk As Gs Ah Gh th ap asl (vp_updL of 0 (lI (wkv (a 0) (rq a) (a 25) (rbl a) (rbc a) ((G 1) (XI xs (i + 1))) ((G 2) (XI xs (i + 1))) ((G 3) (XI xs (i + 1))) ((G 4) (XI xs (i + 1))) ((G 5) (XI xs (i + 1))) (XI xs (i + 2))))) tl tc ct a fv).symm)
      have hP : va_P D vwCl (LW cy u w out tl tc ol ct 0 fv a G ak Gk As Gs Ah Gh th ap asl (vp_updL of 0 (lI (wkv (a 0) (rq a) (a 25) (rbl a) (rbc a) ((G 1) (XI xs (i + 1))) ((G 2) (XI xs (i + 1))) ((G 3) (XI xs (i + 1))) ((G 4) (XI xs (i + 1))) ((G 5) (XI xs (i + 1))) (XI xs (i + 2))))) tl tc ct a fv) H := hP
      have hD : va_D (fun q => s.heap.size ≤ q) (LW cy u w out tl tc ol ct 0 fv a G ak Gk As Gs Ah Gh th ap asl (vp_updL of 0 (lI (wkv (a 0) (rq a) (a 25) (rbl a) (rbc a) ((G 1) (XI xs (i + 1))) ((G 2) (XI xs (i + 1))) ((G 3) (XI xs (i + 1))) ((G 4) (XI xs (i + 1))) ((G 5) (XI xs (i + 1))) (XI xs (i + 2))))) tl tc ct a fv) := hD
      rw [show (wkv (a 0) (rq a) (a 25) (rbl a) (rbc a) (a (97 + 5 * (XI xs (i + 1)) + 0)) (a (97 + 5 * (XI xs (i + 1)) + 1)) (a (97 + 5 * (XI xs (i + 1)) + 2)) (a (97 + 5 * (XI xs (i + 1)) + 3)) (a (97 + 5 * (XI xs (i + 1)) + 4)) (XI xs (i + 2)) : Int) = (wkv (a 0) (rq a) (a 25) (rbl a) (rbc a) ((G 1) (XI xs (i + 1))) ((G 2) (XI xs (i + 1))) ((G 3) (XI xs (i + 1))) ((G 4) (XI xs (i + 1))) ((G 5) (XI xs (i + 1))) (XI xs (i + 2))) from lk_walker hZ (by omega)]
      refine lv_istore (lv' := [(6, vI (wkv (a 0) (rq a) (a 25) (rbl a) (rbc a) ((G 1) (XI xs (i + 1))) ((G 2) (XI xs (i + 1))) ((G 3) (XI xs (i + 1))) ((G 4) (XI xs (i + 1))) ((G 5) (XI xs (i + 1))) (XI xs (i + 2)))), (5, vI 0), (4, vI i), (3, .ref out), (2, .ref (w 0 0)), (1, .ref (u 0 0)), (0, .ref b)]) F.1 F.2.1 dL_law_729 hl (by decide) rfl (fun ls hl => ?_)
      refine lv_aload_n F.1 F.2.1 dL_law_731 rfl (lv_at hl 4 rfl) ?_
      refine rr_rdVp (rest := []) F hK (c_X7_thrown l D cy (w 0 0) (w 0 1) (w 0 2) (w 0 3) (w 0 4) (w 0 5) (w 0 6) 0 ct tl) hP (pm_m0 cy u w out tl tc ol ct 0 fv a G ak Gk As Gs Ah Gh th ap asl (vp_updL of 0 (lI (wkv (a 0) (rq a) (a 25) (rbl a) (rbc a) ((G 1) (XI xs (i + 1))) ((G 2) (XI xs (i + 1))) ((G 3) (XI xs (i + 1))) ((G 4) (XI xs (i + 1))) ((G 5) (XI xs (i + 1))) (XI xs (i + 2))))) tl tc ct a fv) sf_X7_thrown tw902 7 rfl rfl ⟨Nat.le_of_ble_eq_true rfl, Nat.le_of_ble_eq_true rfl⟩ hl rfl (Nat.le_of_ble_eq_true rfl) dL_law_732 ⟨by show cells + 1 ≤ 601024; omega, by show slots + 6 ≤ 7293033; omega⟩ ?_
      refine lv_iload F.1 F.2.1 dL_law_735 (lv_at hl 1 rfl) ?_
      refine rr_icmp_eq F (tgt := 742) dL_law_737 (by decide) ⟨by omega, by omega⟩ ⟨by omega, by omega⟩ (fun _ => ?_) (fun z => absurd rfl z)
      refine lv_iload F.1 F.2.1 dL_law_742 (lv_at hl 1 rfl) ?_
      refine rr_if_ne F (tgt := 759) dL_law_744 (by decide) ⟨by omega, by omega⟩ (fun z => absurd rfl z) (fun _ => ?_)
      refine lv_aload_n F.1 F.2.1 dL_law_747 rfl (lv_at hl 3 rfl) ?_
      refine rr_iconst F dL_law_748 ?_
      refine rr_lald0 F hK (hP.perm (pm_o cy u w out tl tc ol ct 0 fv a G ak Gk As Gs Ah Gh th ap asl (vp_updL of 0 (lI (wkv (a 0) (rq a) (a 25) (rbl a) (rbc a) ((G 1) (XI xs (i + 1))) ((G 2) (XI xs (i + 1))) ((G 3) (XI xs (i + 1))) ((G 4) (XI xs (i + 1))) ((G 5) (XI xs (i + 1))) (XI xs (i + 2))))) tl tc ct a fv)) 0 rfl dL_law_749 ?_
      refine lv_iload F.1 F.2.1 dL_law_750 (lv_at hl 0 rfl) ?_
      refine rr_i2l F dL_law_752 hvr ?_
      refine rr_lcmp F (a := wkv (a 0) (rq a) (a 25) (rbl a) (rbc a) ((G 1) (XI xs (i + 1))) ((G 2) (XI xs (i + 1))) ((G 3) (XI xs (i + 1))) ((G 4) (XI xs (i + 1))) ((G 5) (XI xs (i + 1))) (XI xs (i + 2))) (b := wkv (a 0) (rq a) (a 25) (rbl a) (rbc a) ((G 1) (XI xs (i + 1))) ((G 2) (XI xs (i + 1))) ((G 3) (XI xs (i + 1))) ((G 4) (XI xs (i + 1))) ((G 5) (XI xs (i + 1))) (XI xs (i + 2))) dL_law_753 (inL_r hvr) (inL_r hvr) ?_
      refine rr_if_eq F (tgt := 759) dL_law_754 (by decide) (lcm_r _ _) (fun _ => ?_) (fun z => absurd ((lcm_spec _ _).2.1.mpr rfl) z)
      refine lv_goto (tgt := 2055) F.1 F.2.1 dL_law_759 (by decide) ?_
      exact kk _ _ _ _ _ _ _ _ _ _ _ _ _ _ _ _ _ _ H locs ls (hI.mono (by omega)) hP hD hS (lv_sub hl [2, 3, 4, 5, 6] rfl)
    · refine rr_twS (rest := []) F hK hX hZ1 (r_walker_31 l hnt D cy sa (u 0 0) (u 1 0) (u 2 0) (u 3 0) (u 4 0) (u 0 1) (u 0 2) (u 2 1) (u 2 3) (u 2 6) (a 96) (a 117) (XI xs (i + 1)) (XI xs (i + 2)) out hM.wc (XI_r _ _) (XI_r _ _) (by first | assumption | omega | exact ⟨by omega, by omega⟩) (by first | assumption | omega | exact ⟨by omega, by omega⟩)) hP hS sfw_walker tw493 ⟨Nat.le_of_ble_eq_true rfl, Nat.le_of_ble_eq_true rfl⟩ hl rfl (Nat.le_of_ble_eq_true rfl) dL_law_708 ⟨by show cells + 1 ≤ 601024; omega, by show slots + 6 ≤ 7293033; omega⟩ (pm_cA cy u w out tl tc ol ct tr fv a G ak Gk As Gs Ah Gh th ap asl of tl tc ct a fv) (fun H locs hP hS _ => ?_)
      refine lv_istore (lv' := [(5, vI 2), (4, vI i), (3, .ref out), (2, .ref (w 0 0)), (1, .ref (u 0 0)), (0, .ref b)]) F.1 F.2.1 dL_law_711 hl (by decide) rfl (fun ls hl => ?_)
      refine lv_aload_n F.1 F.2.1 dL_law_713 rfl (lv_at hl 3 rfl) ?_
      refine lv_aload_n F.1 F.2.1 dL_law_714 rfl (lv_at hl 5 rfl) ?_
      refine lv_iload F.1 F.2.1 dL_law_715 (lv_at hl 1 rfl) ?_
      refine rr_iconst F dL_law_717 ?_
      refine rr_iadd F (z := i + 1) dL_law_718 rfl ?_
      refine rr_sld F (A := fun q => s.heap.size ≤ q) hxs hb hbA hS (by omega) (by omega) hL dL_law_719 ?_
      refine lv_aload_n F.1 F.2.1 dL_law_720 rfl (lv_at hl 5 rfl) ?_
      refine lv_iload F.1 F.2.1 dL_law_721 (lv_at hl 1 rfl) ?_
      refine rr_iconst F dL_law_723 ?_
      refine rr_iadd F (z := i + 2) dL_law_724 rfl ?_
      refine rr_sld F (A := fun q => s.heap.size ≤ q) hxs hb hbA hS (by omega) (by omega) hL dL_law_725 ?_
      have hcode : (if 0 ≤ (XI xs (i + 1)) ∧ (XI xs (i + 1)) < a 96 then 2 else 1 : Int) = 2 := by first | rfl | ((repeat' split) <;> first | rfl | omega)
      refine rr_wrVp (rest := []) F hK (n_X7_walker l D cy (w 0 0) (w 0 1) (w 0 2) (w 0 3) (w 0 4) (w 0 5) (w 0 6) tr ct tl a (XI xs (i + 1)) (XI xs (i + 2)) hM (XI_r _ _) (XI_r _ _) (by first | assumption | omega)) hP hD hS hA sf_X7_walker tw1064 7 rfl rfl ⟨Nat.le_of_ble_eq_true rfl, Nat.le_of_ble_eq_true rfl⟩ hl rfl (Nat.le_of_ble_eq_true rfl) dL_law_726 ⟨by show cells + 1 ≤ 601024; omega, by show slots + 6 ≤ 7293033; omega⟩ (pm_mN cy u w out tl tc ol ct tr fv a G ak Gk As Gs Ah Gh th ap asl of tl tc ct a fv) rfl (fun H locs hP hD hS _ => ?_)
      have hP : va_P D vwCl (LW cy u w out tl tc ol ct (if 0 ≤ (XI xs (i + 1)) ∧ (XI xs (i + 1)) < a 96 then 2 else 1) fv a G ak Gk As Gs Ah Gh th ap asl of tl tc ct a fv) H := hP.perm ((pm_mN cy u w out tl tc ol ct (if 0 ≤ (XI xs (i + 1)) ∧ (XI xs (i + 1)) < a 96 then 2 else 1) fv a G ak Gk As Gs Ah Gh th ap asl of tl tc ct a fv).symm)
      have hD : va_D (fun q => s.heap.size ≤ q) (LW cy u w out tl tc ol ct (if 0 ≤ (XI xs (i + 1)) ∧ (XI xs (i + 1)) < a 96 then 2 else 1) fv a G ak Gk As Gs Ah Gh th ap asl of tl tc ct a fv) := hD.perm ((pm_mN cy u w out tl tc ol ct (if 0 ≤ (XI xs (i + 1)) ∧ (XI xs (i + 1)) < a 96 then 2 else 1) fv a G ak Gk As Gs Ah Gh th ap asl of tl tc ct a fv).symm)
      rw [hcode] at hP hD
      refine lv_istore (lv' := [(6, vI 0), (5, vI 2), (4, vI i), (3, .ref out), (2, .ref (w 0 0)), (1, .ref (u 0 0)), (0, .ref b)]) F.1 F.2.1 dL_law_729 hl (by decide) rfl (fun ls hl => ?_)
      refine lv_aload_n F.1 F.2.1 dL_law_731 rfl (lv_at hl 4 rfl) ?_
      refine rr_rdVp (rest := []) F hK (c_X7_thrown l D cy (w 0 0) (w 0 1) (w 0 2) (w 0 3) (w 0 4) (w 0 5) (w 0 6) 2 ct tl) hP (pm_m0 cy u w out tl tc ol ct 2 fv a G ak Gk As Gs Ah Gh th ap asl of tl tc ct a fv) sf_X7_thrown tw902 7 rfl rfl ⟨Nat.le_of_ble_eq_true rfl, Nat.le_of_ble_eq_true rfl⟩ hl rfl (Nat.le_of_ble_eq_true rfl) dL_law_732 ⟨by show cells + 1 ≤ 601024; omega, by show slots + 6 ≤ 7293033; omega⟩ ?_
      refine lv_iload F.1 F.2.1 dL_law_735 (lv_at hl 1 rfl) ?_
      refine rr_icmp_eq F (tgt := 742) dL_law_737 (by decide) ⟨by omega, by omega⟩ ⟨by omega, by omega⟩ (fun _ => ?_) (fun z => absurd rfl z)
      refine lv_iload F.1 F.2.1 dL_law_742 (lv_at hl 1 rfl) ?_
      refine rr_if_ne F (tgt := 759) dL_law_744 (by decide) ⟨by omega, by omega⟩ (fun _ => ?_) (fun z => by omega)
      refine lv_goto (tgt := 2055) F.1 F.2.1 dL_law_759 (by decide) ?_
      exact kk _ _ _ _ _ _ _ _ _ _ _ _ _ _ _ _ _ _ H locs ls (hI.mono (by omega)) hP hD hS (lv_sub hl [2, 3, 4, 5, 6] rfl)
  · refine rr_twS (rest := []) F hK hX hZ1 (r_walker_11 l hnt D cy sa (u 0 0) (u 1 0) (u 2 0) (u 3 0) (u 4 0) (u 0 1) (u 0 2) (u 2 1) (u 2 3) (u 2 6) (a 96) (a 117) (XI xs (i + 1)) (XI xs (i + 2)) out hM.wc (XI_r _ _) (XI_r _ _) (by first | assumption | omega | exact ⟨by omega, by omega⟩)) hP hS sfw_walker tw493 ⟨Nat.le_of_ble_eq_true rfl, Nat.le_of_ble_eq_true rfl⟩ hl rfl (Nat.le_of_ble_eq_true rfl) dL_law_708 ⟨by show cells + 1 ≤ 601024; omega, by show slots + 6 ≤ 7293033; omega⟩ (pm_cA cy u w out tl tc ol ct tr fv a G ak Gk As Gs Ah Gh th ap asl of tl tc ct a fv) (fun H locs hP hS _ => ?_)
    refine lv_istore (lv' := [(5, vI 1), (4, vI i), (3, .ref out), (2, .ref (w 0 0)), (1, .ref (u 0 0)), (0, .ref b)]) F.1 F.2.1 dL_law_711 hl (by decide) rfl (fun ls hl => ?_)
    refine lv_aload_n F.1 F.2.1 dL_law_713 rfl (lv_at hl 3 rfl) ?_
    refine lv_aload_n F.1 F.2.1 dL_law_714 rfl (lv_at hl 5 rfl) ?_
    refine lv_iload F.1 F.2.1 dL_law_715 (lv_at hl 1 rfl) ?_
    refine rr_iconst F dL_law_717 ?_
    refine rr_iadd F (z := i + 1) dL_law_718 rfl ?_
    refine rr_sld F (A := fun q => s.heap.size ≤ q) hxs hb hbA hS (by omega) (by omega) hL dL_law_719 ?_
    refine lv_aload_n F.1 F.2.1 dL_law_720 rfl (lv_at hl 5 rfl) ?_
    refine lv_iload F.1 F.2.1 dL_law_721 (lv_at hl 1 rfl) ?_
    refine rr_iconst F dL_law_723 ?_
    refine rr_iadd F (z := i + 2) dL_law_724 rfl ?_
    refine rr_sld F (A := fun q => s.heap.size ≤ q) hxs hb hbA hS (by omega) (by omega) hL dL_law_725 ?_
    have hcode : (if 0 ≤ (XI xs (i + 1)) ∧ (XI xs (i + 1)) < a 96 then 2 else 1 : Int) = 1 := by first | rfl | ((repeat' split) <;> first | rfl | omega)
    refine rr_wrVp (rest := []) F hK (n_X7_walker l D cy (w 0 0) (w 0 1) (w 0 2) (w 0 3) (w 0 4) (w 0 5) (w 0 6) tr ct tl a (XI xs (i + 1)) (XI xs (i + 2)) hM (XI_r _ _) (XI_r _ _) (by first | assumption | omega)) hP hD hS hA sf_X7_walker tw1064 7 rfl rfl ⟨Nat.le_of_ble_eq_true rfl, Nat.le_of_ble_eq_true rfl⟩ hl rfl (Nat.le_of_ble_eq_true rfl) dL_law_726 ⟨by show cells + 1 ≤ 601024; omega, by show slots + 6 ≤ 7293033; omega⟩ (pm_mN cy u w out tl tc ol ct tr fv a G ak Gk As Gs Ah Gh th ap asl of tl tc ct a fv) rfl (fun H locs hP hD hS _ => ?_)
    have hP : va_P D vwCl (LW cy u w out tl tc ol ct (if 0 ≤ (XI xs (i + 1)) ∧ (XI xs (i + 1)) < a 96 then 2 else 1) fv a G ak Gk As Gs Ah Gh th ap asl of tl tc ct a fv) H := hP.perm ((pm_mN cy u w out tl tc ol ct (if 0 ≤ (XI xs (i + 1)) ∧ (XI xs (i + 1)) < a 96 then 2 else 1) fv a G ak Gk As Gs Ah Gh th ap asl of tl tc ct a fv).symm)
    have hD : va_D (fun q => s.heap.size ≤ q) (LW cy u w out tl tc ol ct (if 0 ≤ (XI xs (i + 1)) ∧ (XI xs (i + 1)) < a 96 then 2 else 1) fv a G ak Gk As Gs Ah Gh th ap asl of tl tc ct a fv) := hD.perm ((pm_mN cy u w out tl tc ol ct (if 0 ≤ (XI xs (i + 1)) ∧ (XI xs (i + 1)) < a 96 then 2 else 1) fv a G ak Gk As Gs Ah Gh th ap asl of tl tc ct a fv).symm)
    rw [hcode] at hP hD
    refine lv_istore (lv' := [(6, vI 0), (5, vI 1), (4, vI i), (3, .ref out), (2, .ref (w 0 0)), (1, .ref (u 0 0)), (0, .ref b)]) F.1 F.2.1 dL_law_729 hl (by decide) rfl (fun ls hl => ?_)
    refine lv_aload_n F.1 F.2.1 dL_law_731 rfl (lv_at hl 4 rfl) ?_
    refine rr_rdVp (rest := []) F hK (c_X7_thrown l D cy (w 0 0) (w 0 1) (w 0 2) (w 0 3) (w 0 4) (w 0 5) (w 0 6) 1 ct tl) hP (pm_m0 cy u w out tl tc ol ct 1 fv a G ak Gk As Gs Ah Gh th ap asl of tl tc ct a fv) sf_X7_thrown tw902 7 rfl rfl ⟨Nat.le_of_ble_eq_true rfl, Nat.le_of_ble_eq_true rfl⟩ hl rfl (Nat.le_of_ble_eq_true rfl) dL_law_732 ⟨by show cells + 1 ≤ 601024; omega, by show slots + 6 ≤ 7293033; omega⟩ ?_
    refine lv_iload F.1 F.2.1 dL_law_735 (lv_at hl 1 rfl) ?_
    refine rr_icmp_eq F (tgt := 742) dL_law_737 (by decide) ⟨by omega, by omega⟩ ⟨by omega, by omega⟩ (fun _ => ?_) (fun z => absurd rfl z)
    refine lv_iload F.1 F.2.1 dL_law_742 (lv_at hl 1 rfl) ?_
    refine rr_if_ne F (tgt := 759) dL_law_744 (by decide) ⟨by omega, by omega⟩ (fun _ => ?_) (fun z => by omega)
    refine lv_goto (tgt := 2055) F.1 F.2.1 dL_law_759 (by decide) ?_
    exact kk _ _ _ _ _ _ _ _ _ _ _ _ _ _ _ _ _ _ H locs ls (hI.mono (by omega)) hP hD hS (lv_sub hl [2, 3, 4, 5, 6] rfl)
set_option maxRecDepth 100000 in
set_option maxHeartbeats 8000000 in
theorem lc_canBe {p : Program} {l : Launch} {e : Env} {s : State} {m : MethodId} {args : Array Value} {below : List Frame} {meth : Method} {c : Code} {Q : State → Prop} {b L : Nat} {xs : Nat → Int32} {D : va_G} {cy : Nat → ClassId} {sa : Nat → Nat} {u w : NU} {out : Nat} (hnt : l.stackTraces = false) (F : FX p m c cL_law 7 s args RL) (hK : KK D cy s) (hX : XK sa s) (hZ0 : ZK (fun q => s.heap.size ≤ q) s s.heap) (hxs : va_X b L xs s s.heap) (hb : b < s.heap.size) (hL : L ≤ 2560) {N : Int} {tl : Int} {tc : Int → Int} {ol : Int} {ct : Int} {tr : Int} {fv : Int → Int} {a : Int → Int} {G : Int → Int → Int} {ak : Int → Int} {Gk : Int → Int → Int} {As : Nat → Int → Int} {Gs : Nat → Int → Int → Int} {Ah : Nat → Int → Int} {Gh : Nat → Int → Int → Int} {th : Int → Int} {ap : Int → Int} {asl : Int → Int} {of : Nat → Int64} (hI : INV N tl tc ol ct fv a G As Gs Ah Gh ap asl) (hN : 0 ≤ N ∧ N ≤ 80000000) {i : Int} (hi : 0 ≤ i ∧ i + 5 ≤ L) {H : Heap} {locs : List Loc} {cells slots : Nat} {ls : Array Slot} (hP : va_P D vwCl (LW cy u w out tl tc ol ct tr fv a G ak Gk As Gs Ah Gh th ap asl of tl tc ct a fv) H) (hD : va_D (fun q => s.heap.size ≤ q) (LW cy u w out tl tc ol ct tr fv a G ak Gk As Gs Ah Gh th ap asl of tl tc ct a fv)) (hS : va_S (fun q => s.heap.size ≤ q) s.heap H locs) (hl : lv_has ls 7 [(4, vI i), (3, .ref out), (2, .ref (w 0 0)), (1, .ref (u 0 0)), (0, .ref b)]) (hc : cells + 1 ≤ 601024 ∧ slots + 6 ≤ 7293033) (kk : LK p l e s m args below meth c D cy u w out b (N + 50) i (cells + 1) (slots + 6) Q) : W p l e room_1 s m args below meth c H locs cells slots Q (F0 m 1675 ls []) := by
  have hT := hI.1
  obtain ⟨hZ, hSV, hsp0, hsp1⟩ := hI.2.1
  have hM := SB.mr hZ
  have hn0 := hM.n
  have hw0 := hM.nw
  have hc0 := hM.wc
  have hol := hI.2.2.1
  have hct := hI.2.2.2.1
  have hbA : ¬ (fun q => s.heap.size ≤ q) b := Nat.not_le.mpr hb
  have hA : ∀ q, s.heap.size ≤ q → (fun q => s.heap.size ≤ q) q := fun q h => h
  have hZ1 : ZK nA s H := (hZ0.kept (fun a h1 h2 => hS.2.1 a h1 h2)).narrow (fun _ h => h.elim)
  refine lv_aload_n F.1 F.2.1 dL_law_1675 rfl (lv_at hl 3 rfl) ?_
  refine lv_aload_n F.1 F.2.1 dL_law_1676 rfl (lv_at hl 4 rfl) ?_
  refine lv_iload F.1 F.2.1 dL_law_1677 (lv_at hl 0 rfl) ?_
  refine rr_iconst F dL_law_1679 ?_
  refine rr_iadd F (z := i + 1) dL_law_1680 rfl ?_
  refine rr_sld F (A := fun q => s.heap.size ≤ q) hxs hb hbA hS (by omega) (by omega) hL dL_law_1681 ?_
  refine lv_aload_n F.1 F.2.1 dL_law_1682 rfl (lv_at hl 4 rfl) ?_
  refine lv_iload F.1 F.2.1 dL_law_1683 (lv_at hl 0 rfl) ?_
  refine rr_iconst F dL_law_1685 ?_
  refine rr_iadd F (z := i + 2) dL_law_1686 rfl ?_
  refine rr_sld F (A := fun q => s.heap.size ≤ q) hxs hb hbA hS (by omega) (by omega) hL dL_law_1687 ?_
  refine lv_aload_n F.1 F.2.1 dL_law_1688 rfl (lv_at hl 1 rfl) ?_
  have hb_1 := XI_b xs (i + 1)
  have hb_2 := XI_b xs (i + 2)
  by_cases hx0 : (0 ≤ (XI xs (i + 1)) ∧ (XI xs (i + 1)) < (a 0)) ∧ 0 ≤ (XI xs (i + 2)) ∧ (XI xs (i + 2)) ≤ 1
  · refine W.widen (k := cells + 1) (n := slots + 6) (by omega) (by omega) ?_
    have hvr : inR (cbe (a 0) (rq a) (a 25) (rbl a) (rbc a) (XI xs (i + 1)) (XI xs (i + 2))) := cbe_r hM
    refine rr_wwS (rest := []) F hK (w_canBe l D cy (u 0 0) (u 1 0) (u 3 0) (u 4 0) (u 0 1) (u 0 2) (u 2 0) (u 2 6) (a 96) (a 117) (u 2 1) (u 2 2) (a 0) (G 0) (rq a) (u 2 3) (u 2 4) (u 2 5) (a 25) (G 6) (G 7) (rbl a) (rbc a) (XI xs (i + 1)) (XI xs (i + 2)) out of (SB.rg hZ) (SB.bk hZ) (by first | assumption | omega | exact ⟨by omega, by omega⟩) (by first | assumption | omega | exact ⟨by omega, by omega⟩) hvr) hP hD hS hA sfw_canBe tw803 ⟨Nat.le_of_ble_eq_true rfl, Nat.le_of_ble_eq_true rfl⟩ hl rfl (Nat.le_of_ble_eq_true rfl) dL_law_1689 ⟨by show cells + 1 ≤ 601024; omega, by show slots + 6 ≤ 7293033; omega⟩ (pm_cABO cy u w out tl tc ol ct tr fv a G ak Gk As Gs Ah Gh th ap asl of tl tc ct a fv) rfl (fun H locs hP hD hS _ => ?_)
    have hP : va_P D vwCl (LW cy u w out tl tc ol ct tr fv a G ak Gk As Gs Ah Gh th ap asl (vp_updL of 0 (lI (cbe (a 0) (rq a) (a 25) (rbl a) (rbc a) (XI xs (i + 1)) (XI xs (i + 2))))) tl tc ct a fv) H := hP.perm ((pm_cABO cy u w out tl tc ol ct tr fv a G ak Gk As Gs Ah Gh th ap asl (vp_updL of 0 (lI (cbe (a 0) (rq a) (a 25) (rbl a) (rbc a) (XI xs (i + 1)) (XI xs (i + 2))))) tl tc ct a fv).symm)
    have hD : va_D (fun q => s.heap.size ≤ q) (LW cy u w out tl tc ol ct tr fv a G ak Gk As Gs Ah Gh th ap asl (vp_updL of 0 (lI (cbe (a 0) (rq a) (a 25) (rbl a) (rbc a) (XI xs (i + 1)) (XI xs (i + 2))))) tl tc ct a fv) := hD.perm ((pm_cABO cy u w out tl tc ol ct tr fv a G ak Gk As Gs Ah Gh th ap asl (vp_updL of 0 (lI (cbe (a 0) (rq a) (a 25) (rbl a) (rbc a) (XI xs (i + 1)) (XI xs (i + 2))))) tl tc ct a fv).symm)
    refine lv_istore (lv' := [(5, vI 0), (4, vI i), (3, .ref out), (2, .ref (w 0 0)), (1, .ref (u 0 0)), (0, .ref b)]) F.1 F.2.1 dL_law_1692 hl (by decide) rfl (fun ls hl => ?_)
    refine lv_aload_n F.1 F.2.1 dL_law_1694 rfl (lv_at hl 3 rfl) ?_
    refine lv_aload_n F.1 F.2.1 dL_law_1695 rfl (lv_at hl 5 rfl) ?_
    refine lv_iload F.1 F.2.1 dL_law_1696 (lv_at hl 1 rfl) ?_
    refine rr_iconst F dL_law_1698 ?_
    refine rr_iadd F (z := i + 1) dL_law_1699 rfl ?_
    refine rr_sld F (A := fun q => s.heap.size ≤ q) hxs hb hbA hS (by omega) (by omega) hL dL_law_1700 ?_
    refine lv_aload_n F.1 F.2.1 dL_law_1701 rfl (lv_at hl 5 rfl) ?_
    refine lv_iload F.1 F.2.1 dL_law_1702 (lv_at hl 1 rfl) ?_
    refine rr_iconst F dL_law_1704 ?_
    refine rr_iadd F (z := i + 2) dL_law_1705 rfl ?_
    refine rr_sld F (A := fun q => s.heap.size ≤ q) hxs hb hbA hS (by omega) (by omega) hL dL_law_1706 ?_
    refine rr_wrVp (rest := []) F hK (c_X7_canBe l D cy (w 0 0) (w 0 1) (w 0 2) (w 0 3) (w 0 4) (w 0 5) (w 0 6) tr ct tl a (XI xs (i + 1)) (XI xs (i + 2)) hM (XI_r _ _) (XI_r _ _) (by first | assumption | omega | exact ⟨by omega, by omega⟩) (by first | assumption | omega | exact ⟨by omega, by omega⟩)) hP hD hS hA sf_X7_canBe tw1208 7 rfl rfl ⟨Nat.le_of_ble_eq_true rfl, Nat.le_of_ble_eq_true rfl⟩ hl rfl (Nat.le_of_ble_eq_true rfl) dL_law_1707 ⟨by show cells + 1 ≤ 601024; omega, by show slots + 6 ≤ 7293033; omega⟩ (pm_mN cy u w out tl tc ol ct tr fv a G ak Gk As Gs Ah Gh th ap asl (vp_updL of 0 (lI (cbe (a 0) (rq a) (a 25) (rbl a) (rbc a) (XI xs (i + 1)) (XI xs (i + 2))))) tl tc ct a fv) rfl (fun H locs hP hD hS _ => ?_)
    have hP : va_P D vwCl (LW cy u w out tl tc ol ct 0 fv a G ak Gk As Gs Ah Gh th ap asl (vp_updL of 0 (lI (cbe (a 0) (rq a) (a 25) (rbl a) (rbc a) (XI xs (i + 1)) (XI xs (i + 2))))) tl tc ct a fv) H := hP.perm ((pm_mN cy u w out tl tc ol ct 0 fv a G ak Gk As Gs Ah Gh th ap asl (vp_updL of 0 (lI (cbe (a 0) (rq a) (a 25) (rbl a) (rbc a) (XI xs (i + 1)) (XI xs (i + 2))))) tl tc ct a fv).symm)
    have hD : va_D (fun q => s.heap.size ≤ q) (LW cy u w out tl tc ol ct 0 fv a G ak Gk As Gs Ah Gh th ap asl (vp_updL of 0 (lI (cbe (a 0) (rq a) (a 25) (rbl a) (rbc a) (XI xs (i + 1)) (XI xs (i + 2))))) tl tc ct a fv) := hD.perm ((pm_mN cy u w out tl tc ol ct 0 fv a G ak Gk As Gs Ah Gh th ap asl (vp_updL of 0 (lI (cbe (a 0) (rq a) (a 25) (rbl a) (rbc a) (XI xs (i + 1)) (XI xs (i + 2))))) tl tc ct a fv).symm)
    have hP : va_P D vwCl (LW cy u w out tl tc ol ct 0 fv a G ak Gk As Gs Ah Gh th ap asl (vp_updL of 0 (lI (cbe (a 0) (rq a) (a 25) (rbl a) (rbc a) (XI xs (i + 1)) (XI xs (i + 2))))) tl tc ct a fv) H := hP
    have hD : va_D (fun q => s.heap.size ≤ q) (LW cy u w out tl tc ol ct 0 fv a G ak Gk As Gs Ah Gh th ap asl (vp_updL of 0 (lI (cbe (a 0) (rq a) (a 25) (rbl a) (rbc a) (XI xs (i + 1)) (XI xs (i + 2))))) tl tc ct a fv) := hD
    refine lv_istore (lv' := [(6, vI (cbe (a 0) (rq a) (a 25) (rbl a) (rbc a) (XI xs (i + 1)) (XI xs (i + 2)))), (5, vI 0), (4, vI i), (3, .ref out), (2, .ref (w 0 0)), (1, .ref (u 0 0)), (0, .ref b)]) F.1 F.2.1 dL_law_1710 hl (by decide) rfl (fun ls hl => ?_)
    refine lv_aload_n F.1 F.2.1 dL_law_1712 rfl (lv_at hl 4 rfl) ?_
    refine rr_rdVp (rest := []) F hK (c_X7_thrown l D cy (w 0 0) (w 0 1) (w 0 2) (w 0 3) (w 0 4) (w 0 5) (w 0 6) 0 ct tl) hP (pm_m0 cy u w out tl tc ol ct 0 fv a G ak Gk As Gs Ah Gh th ap asl (vp_updL of 0 (lI (cbe (a 0) (rq a) (a 25) (rbl a) (rbc a) (XI xs (i + 1)) (XI xs (i + 2))))) tl tc ct a fv) sf_X7_thrown tw902 7 rfl rfl ⟨Nat.le_of_ble_eq_true rfl, Nat.le_of_ble_eq_true rfl⟩ hl rfl (Nat.le_of_ble_eq_true rfl) dL_law_1713 ⟨by show cells + 1 ≤ 601024; omega, by show slots + 6 ≤ 7293033; omega⟩ ?_
    refine lv_iload F.1 F.2.1 dL_law_1716 (lv_at hl 1 rfl) ?_
    refine rr_icmp_eq F (tgt := 1723) dL_law_1718 (by decide) ⟨by omega, by omega⟩ ⟨by omega, by omega⟩ (fun _ => ?_) (fun z => absurd rfl z)
    refine lv_iload F.1 F.2.1 dL_law_1723 (lv_at hl 1 rfl) ?_
    refine rr_if_ne F (tgt := 1740) dL_law_1725 (by decide) ⟨by omega, by omega⟩ (fun z => absurd rfl z) (fun _ => ?_)
    refine lv_aload_n F.1 F.2.1 dL_law_1728 rfl (lv_at hl 3 rfl) ?_
    refine rr_iconst F dL_law_1729 ?_
    refine rr_lald0 F hK (hP.perm (pm_o cy u w out tl tc ol ct 0 fv a G ak Gk As Gs Ah Gh th ap asl (vp_updL of 0 (lI (cbe (a 0) (rq a) (a 25) (rbl a) (rbc a) (XI xs (i + 1)) (XI xs (i + 2))))) tl tc ct a fv)) 0 rfl dL_law_1730 ?_
    refine lv_iload F.1 F.2.1 dL_law_1731 (lv_at hl 0 rfl) ?_
    refine rr_i2l F dL_law_1733 hvr ?_
    refine rr_lcmp F (a := cbe (a 0) (rq a) (a 25) (rbl a) (rbc a) (XI xs (i + 1)) (XI xs (i + 2))) (b := cbe (a 0) (rq a) (a 25) (rbl a) (rbc a) (XI xs (i + 1)) (XI xs (i + 2))) dL_law_1734 (inL_r hvr) (inL_r hvr) ?_
    refine rr_if_eq F (tgt := 1740) dL_law_1735 (by decide) (lcm_r _ _) (fun _ => ?_) (fun z => absurd ((lcm_spec _ _).2.1.mpr rfl) z)
    refine lv_goto (tgt := 2055) F.1 F.2.1 dL_law_1740 (by decide) ?_
    exact kk _ _ _ _ _ _ _ _ _ _ _ _ _ _ _ _ _ _ H locs ls (hI.mono (by omega)) hP hD hS (lv_sub hl [2, 3, 4, 5, 6] rfl)
  · refine rr_twS (rest := []) F hK hX hZ1 (r_canBe_21 l hnt D cy sa (u 0 0) (u 1 0) (u 3 0) (u 4 0) (u 0 1) (u 0 2) (u 2 0) (u 2 6) (a 96) (a 117) (u 2 1) (u 2 2) (a 0) (G 0) (rq a) (u 2 3) (u 2 4) (u 2 5) (a 25) (G 6) (G 7) (rbl a) (rbc a) (XI xs (i + 1)) (XI xs (i + 2)) out (SB.rg hZ) (SB.bk hZ) (XI_r _ _) (XI_r _ _) (by first | assumption | omega | exact ⟨by omega, by omega⟩)) hP hS sfw_canBe tw803 ⟨Nat.le_of_ble_eq_true rfl, Nat.le_of_ble_eq_true rfl⟩ hl rfl (Nat.le_of_ble_eq_true rfl) dL_law_1689 ⟨by show cells + 1 ≤ 601024; omega, by show slots + 6 ≤ 7293033; omega⟩ (pm_cAB cy u w out tl tc ol ct tr fv a G ak Gk As Gs Ah Gh th ap asl of tl tc ct a fv) (fun H locs hP hS _ => ?_)
    refine lv_istore (lv' := [(5, vI 1), (4, vI i), (3, .ref out), (2, .ref (w 0 0)), (1, .ref (u 0 0)), (0, .ref b)]) F.1 F.2.1 dL_law_1692 hl (by decide) rfl (fun ls hl => ?_)
    refine lv_aload_n F.1 F.2.1 dL_law_1694 rfl (lv_at hl 3 rfl) ?_
    refine lv_aload_n F.1 F.2.1 dL_law_1695 rfl (lv_at hl 5 rfl) ?_
    refine lv_iload F.1 F.2.1 dL_law_1696 (lv_at hl 1 rfl) ?_
    refine rr_iconst F dL_law_1698 ?_
    refine rr_iadd F (z := i + 1) dL_law_1699 rfl ?_
    refine rr_sld F (A := fun q => s.heap.size ≤ q) hxs hb hbA hS (by omega) (by omega) hL dL_law_1700 ?_
    refine lv_aload_n F.1 F.2.1 dL_law_1701 rfl (lv_at hl 5 rfl) ?_
    refine lv_iload F.1 F.2.1 dL_law_1702 (lv_at hl 1 rfl) ?_
    refine rr_iconst F dL_law_1704 ?_
    refine rr_iadd F (z := i + 2) dL_law_1705 rfl ?_
    refine rr_sld F (A := fun q => s.heap.size ≤ q) hxs hb hbA hS (by omega) (by omega) hL dL_law_1706 ?_
    have hcode : (1 : Int) = 1 := by first | rfl | ((repeat' split) <;> first | rfl | omega)
    refine rr_wrVp (rest := []) F hK (n_X7_canBe l D cy (w 0 0) (w 0 1) (w 0 2) (w 0 3) (w 0 4) (w 0 5) (w 0 6) tr ct tl a (XI xs (i + 1)) (XI xs (i + 2)) hM (XI_r _ _) (XI_r _ _) (by first | assumption | omega)) hP hD hS hA sf_X7_canBe tw1208 7 rfl rfl ⟨Nat.le_of_ble_eq_true rfl, Nat.le_of_ble_eq_true rfl⟩ hl rfl (Nat.le_of_ble_eq_true rfl) dL_law_1707 ⟨by show cells + 1 ≤ 601024; omega, by show slots + 6 ≤ 7293033; omega⟩ (pm_mN cy u w out tl tc ol ct tr fv a G ak Gk As Gs Ah Gh th ap asl of tl tc ct a fv) rfl (fun H locs hP hD hS _ => ?_)
    have hP : va_P D vwCl (LW cy u w out tl tc ol ct 1 fv a G ak Gk As Gs Ah Gh th ap asl of tl tc ct a fv) H := hP.perm ((pm_mN cy u w out tl tc ol ct 1 fv a G ak Gk As Gs Ah Gh th ap asl of tl tc ct a fv).symm)
    have hD : va_D (fun q => s.heap.size ≤ q) (LW cy u w out tl tc ol ct 1 fv a G ak Gk As Gs Ah Gh th ap asl of tl tc ct a fv) := hD.perm ((pm_mN cy u w out tl tc ol ct 1 fv a G ak Gk As Gs Ah Gh th ap asl of tl tc ct a fv).symm)
    refine lv_istore (lv' := [(6, vI 0), (5, vI 1), (4, vI i), (3, .ref out), (2, .ref (w 0 0)), (1, .ref (u 0 0)), (0, .ref b)]) F.1 F.2.1 dL_law_1710 hl (by decide) rfl (fun ls hl => ?_)
    refine lv_aload_n F.1 F.2.1 dL_law_1712 rfl (lv_at hl 4 rfl) ?_
    refine rr_rdVp (rest := []) F hK (c_X7_thrown l D cy (w 0 0) (w 0 1) (w 0 2) (w 0 3) (w 0 4) (w 0 5) (w 0 6) 1 ct tl) hP (pm_m0 cy u w out tl tc ol ct 1 fv a G ak Gk As Gs Ah Gh th ap asl of tl tc ct a fv) sf_X7_thrown tw902 7 rfl rfl ⟨Nat.le_of_ble_eq_true rfl, Nat.le_of_ble_eq_true rfl⟩ hl rfl (Nat.le_of_ble_eq_true rfl) dL_law_1713 ⟨by show cells + 1 ≤ 601024; omega, by show slots + 6 ≤ 7293033; omega⟩ ?_
    refine lv_iload F.1 F.2.1 dL_law_1716 (lv_at hl 1 rfl) ?_
    refine rr_icmp_eq F (tgt := 1723) dL_law_1718 (by decide) ⟨by omega, by omega⟩ ⟨by omega, by omega⟩ (fun _ => ?_) (fun z => absurd rfl z)
    refine lv_iload F.1 F.2.1 dL_law_1723 (lv_at hl 1 rfl) ?_
    refine rr_if_ne F (tgt := 1740) dL_law_1725 (by decide) ⟨by omega, by omega⟩ (fun _ => ?_) (fun z => by omega)
    refine lv_goto (tgt := 2055) F.1 F.2.1 dL_law_1740 (by decide) ?_
    exact kk _ _ _ _ _ _ _ _ _ _ _ _ _ _ _ _ _ _ H locs ls (hI.mono (by omega)) hP hD hS (lv_sub hl [2, 3, 4, 5, 6] rfl)
set_option maxRecDepth 100000 in
set_option maxHeartbeats 8000000 in
theorem lc_meet {p : Program} {l : Launch} {e : Env} {s : State} {m : MethodId} {args : Array Value} {below : List Frame} {meth : Method} {c : Code} {Q : State → Prop} {b L : Nat} {xs : Nat → Int32} {D : va_G} {cy : Nat → ClassId} {sa : Nat → Nat} {u w : NU} {out : Nat} (hnt : l.stackTraces = false) (F : FX p m c cL_law 7 s args RL) (hK : KK D cy s) (hX : XK sa s) (hZ0 : ZK (fun q => s.heap.size ≤ q) s s.heap) (hxs : va_X b L xs s s.heap) (hb : b < s.heap.size) (hL : L ≤ 2560) {N : Int} {tl : Int} {tc : Int → Int} {ol : Int} {ct : Int} {tr : Int} {fv : Int → Int} {a : Int → Int} {G : Int → Int → Int} {ak : Int → Int} {Gk : Int → Int → Int} {As : Nat → Int → Int} {Gs : Nat → Int → Int → Int} {Ah : Nat → Int → Int} {Gh : Nat → Int → Int → Int} {th : Int → Int} {ap : Int → Int} {asl : Int → Int} {of : Nat → Int64} (hI : INV N tl tc ol ct fv a G As Gs Ah Gh ap asl) (hN : 0 ≤ N ∧ N ≤ 80000000) {i : Int} (hi : 0 ≤ i ∧ i + 5 ≤ L) {H : Heap} {locs : List Loc} {cells slots : Nat} {ls : Array Slot} (hP : va_P D vwCl (LW cy u w out tl tc ol ct tr fv a G ak Gk As Gs Ah Gh th ap asl of tl tc ct a fv) H) (hD : va_D (fun q => s.heap.size ≤ q) (LW cy u w out tl tc ol ct tr fv a G ak Gk As Gs Ah Gh th ap asl of tl tc ct a fv)) (hS : va_S (fun q => s.heap.size ≤ q) s.heap H locs) (hl : lv_has ls 7 [(4, vI i), (3, .ref out), (2, .ref (w 0 0)), (1, .ref (u 0 0)), (0, .ref b)]) (hc : cells + 1 ≤ 601024 ∧ slots + 6 ≤ 7293033) (kk : LK p l e s m args below meth c D cy u w out b (N + 50) i (cells + 1) (slots + 6) Q) : W p l e room_1 s m args below meth c H locs cells slots Q (F0 m 1402 ls []) := by
  have hT := hI.1
  obtain ⟨hZ, hSV, hsp0, hsp1⟩ := hI.2.1
  have hM := SB.mr hZ
  have hn0 := hM.n
  have hw0 := hM.nw
  have hc0 := hM.wc
  have hol := hI.2.2.1
  have hct := hI.2.2.2.1
  have hbA : ¬ (fun q => s.heap.size ≤ q) b := Nat.not_le.mpr hb
  have hA : ∀ q, s.heap.size ≤ q → (fun q => s.heap.size ≤ q) q := fun q h => h
  have hZ1 : ZK nA s H := (hZ0.kept (fun a h1 h2 => hS.2.1 a h1 h2)).narrow (fun _ h => h.elim)
  refine lv_aload_n F.1 F.2.1 dL_law_1402 rfl (lv_at hl 3 rfl) ?_
  refine lv_aload_n F.1 F.2.1 dL_law_1403 rfl (lv_at hl 4 rfl) ?_
  refine lv_iload F.1 F.2.1 dL_law_1404 (lv_at hl 0 rfl) ?_
  refine rr_iconst F dL_law_1406 ?_
  refine rr_iadd F (z := i + 1) dL_law_1407 rfl ?_
  refine rr_sld F (A := fun q => s.heap.size ≤ q) hxs hb hbA hS (by omega) (by omega) hL dL_law_1408 ?_
  refine lv_aload_n F.1 F.2.1 dL_law_1409 rfl (lv_at hl 4 rfl) ?_
  refine lv_iload F.1 F.2.1 dL_law_1410 (lv_at hl 0 rfl) ?_
  refine rr_iconst F dL_law_1412 ?_
  refine rr_iadd F (z := i + 2) dL_law_1413 rfl ?_
  refine rr_sld F (A := fun q => s.heap.size ≤ q) hxs hb hbA hS (by omega) (by omega) hL dL_law_1414 ?_
  refine lv_aload_n F.1 F.2.1 dL_law_1415 rfl (lv_at hl 1 rfl) ?_
  have hb_1 := XI_b xs (i + 1)
  have hb_2 := XI_b xs (i + 2)
  by_cases hx0 : (0 ≤ (XI xs (i + 1)) ∧ (XI xs (i + 1)) < (a 96)) ∧ 0 ≤ (XI xs (i + 2)) ∧ (XI xs (i + 2)) < (a 96)
  · by_cases hx1 : ¬ (XI xs (i + 1)) = (XI xs (i + 2))
    · refine W.widen (k := cells + 1) (n := slots + 6) (by omega) (by omega) ?_
      have hvr : inR (low (fun u_t => off (a 0) ((G 1) (XI xs (i + 1))) ((G 2) (XI xs (i + 1))) (u_t * (G 3) (XI xs (i + 1))) = off (a 0) ((G 1) (XI xs (i + 2))) ((G 2) (XI xs (i + 2))) (u_t * (G 3) (XI xs (i + 2)))) (a 0)) := low_r _ (by omega)
      refine rr_wwS (rest := []) F hK (w_meet l D cy (u 0 0) (u 1 0) (u 3 0) (u 4 0) (u 0 1) (u 0 2) (u 2 0) (u 2 6) (fun i => u 2 (7 + Int.toNat i)) (a 96) (a 117) (G 1) (G 2) (G 3) (G 4) (G 5) (u 2 1) (u 2 2) (a 0) (G 0) (rq a) (u 2 3) (u 2 4) (u 2 5) (a 25) (G 6) (G 7) (rbl a) (rbc a) (XI xs (i + 1)) (XI xs (i + 2)) out of (SB.rg hZ) (SB.bk hZ) (SB.ws hZ) (by first | assumption | omega | exact ⟨by omega, by omega⟩) (by first | assumption | omega | exact ⟨by omega, by omega⟩) (by first | assumption | omega | exact ⟨by omega, by omega⟩) hvr) hP hD hS hA sfw_meet tw762 ⟨Nat.le_of_ble_eq_true rfl, Nat.le_of_ble_eq_true rfl⟩ hl rfl (Nat.le_of_ble_eq_true rfl) dL_law_1416 ⟨by show cells + 1 ≤ 601024; omega, by show slots + 6 ≤ 7293033; omega⟩ (pm_cABCO cy u w out tl tc ol ct tr fv a G ak Gk As Gs Ah Gh th ap asl of tl tc ct a fv) rfl (fun H locs hP hD hS _ => ?_)
      have hP : va_P D vwCl (LW cy u w out tl tc ol ct tr fv a G ak Gk As Gs Ah Gh th ap asl (vp_updL of 0 (lI (low (fun u_t => off (a 0) ((G 1) (XI xs (i + 1))) ((G 2) (XI xs (i + 1))) (u_t * (G 3) (XI xs (i + 1))) = off (a 0) ((G 1) (XI xs (i + 2))) ((G 2) (XI xs (i + 2))) (u_t * (G 3) (XI xs (i + 2)))) (a 0)))) tl tc ct a fv) H := hP.perm ((pm_cABCO cy u w out tl tc ol ct tr fv a G ak Gk As Gs Ah Gh th ap asl (vp_updL of 0 (lI (low (fun u_t => off (a 0) ((G 1) (XI xs (i + 1))) ((G 2) (XI xs (i + 1))) (u_t * (G 3) (XI xs (i + 1))) = off (a 0) ((G 1) (XI xs (i + 2))) ((G 2) (XI xs (i + 2))) (u_t * (G 3) (XI xs (i + 2)))) (a 0)))) tl tc ct a fv).symm)
      have hD : va_D (fun q => s.heap.size ≤ q) (LW cy u w out tl tc ol ct tr fv a G ak Gk As Gs Ah Gh th ap asl (vp_updL of 0 (lI (low (fun u_t => off (a 0) ((G 1) (XI xs (i + 1))) ((G 2) (XI xs (i + 1))) (u_t * (G 3) (XI xs (i + 1))) = off (a 0) ((G 1) (XI xs (i + 2))) ((G 2) (XI xs (i + 2))) (u_t * (G 3) (XI xs (i + 2)))) (a 0)))) tl tc ct a fv) := hD.perm ((pm_cABCO cy u w out tl tc ol ct tr fv a G ak Gk As Gs Ah Gh th ap asl (vp_updL of 0 (lI (low (fun u_t => off (a 0) ((G 1) (XI xs (i + 1))) ((G 2) (XI xs (i + 1))) (u_t * (G 3) (XI xs (i + 1))) = off (a 0) ((G 1) (XI xs (i + 2))) ((G 2) (XI xs (i + 2))) (u_t * (G 3) (XI xs (i + 2)))) (a 0)))) tl tc ct a fv).symm)
      refine lv_istore (lv' := [(5, vI 0), (4, vI i), (3, .ref out), (2, .ref (w 0 0)), (1, .ref (u 0 0)), (0, .ref b)]) F.1 F.2.1 dL_law_1419 hl (by decide) rfl (fun ls hl => ?_)
      refine lv_aload_n F.1 F.2.1 dL_law_1421 rfl (lv_at hl 3 rfl) ?_
      refine lv_aload_n F.1 F.2.1 dL_law_1422 rfl (lv_at hl 5 rfl) ?_
      refine lv_iload F.1 F.2.1 dL_law_1423 (lv_at hl 1 rfl) ?_
      refine rr_iconst F dL_law_1425 ?_
      refine rr_iadd F (z := i + 1) dL_law_1426 rfl ?_
      refine rr_sld F (A := fun q => s.heap.size ≤ q) hxs hb hbA hS (by omega) (by omega) hL dL_law_1427 ?_
      refine lv_aload_n F.1 F.2.1 dL_law_1428 rfl (lv_at hl 5 rfl) ?_
      refine lv_iload F.1 F.2.1 dL_law_1429 (lv_at hl 1 rfl) ?_
      refine rr_iconst F dL_law_1431 ?_
      refine rr_iadd F (z := i + 2) dL_law_1432 rfl ?_
      refine rr_sld F (A := fun q => s.heap.size ≤ q) hxs hb hbA hS (by omega) (by omega) hL dL_law_1433 ?_
      refine rr_wrVp (rest := []) F hK (c_X7_meet l D cy (w 0 0) (w 0 1) (w 0 2) (w 0 3) (w 0 4) (w 0 5) (w 0 6) tr ct tl a th (XI xs (i + 1)) (XI xs (i + 2)) hM (XI_r _ _) (XI_r _ _) (by first | assumption | omega | exact ⟨by omega, by omega⟩) (by first | assumption | omega | exact ⟨by omega, by omega⟩) (by first | assumption | omega | exact ⟨by omega, by omega⟩)) hP hD hS hA sf_X7_meet tw1172 7 rfl rfl ⟨Nat.le_of_ble_eq_true rfl, Nat.le_of_ble_eq_true rfl⟩ hl rfl (Nat.le_of_ble_eq_true rfl) dL_law_1434 ⟨by show cells + 1 ≤ 601024; omega, by show slots + 6 ≤ 7293033; omega⟩ (pm_mNT cy u w out tl tc ol ct tr fv a G ak Gk As Gs Ah Gh th ap asl (vp_updL of 0 (lI (low (fun u_t => off (a 0) ((G 1) (XI xs (i + 1))) ((G 2) (XI xs (i + 1))) (u_t * (G 3) (XI xs (i + 1))) = off (a 0) ((G 1) (XI xs (i + 2))) ((G 2) (XI xs (i + 2))) (u_t * (G 3) (XI xs (i + 2)))) (a 0)))) tl tc ct a fv) rfl (fun H locs hP hD hS _ => ?_)
      have hP : va_P D vwCl (LW cy u w out tl tc ol ct 0 fv a G ak Gk As Gs Ah Gh (stW (stW a (XI xs (i + 1)) (r25 (low (fun u_t => ps (a 0) (a (97 + 5 * (XI xs (i + 1)) + 0)) (a (97 + 5 * (XI xs (i + 1)) + 1)) (a (97 + 5 * (XI xs (i + 1)) + 2)) u_t = ps (a 0) (a (97 + 5 * (XI xs (i + 2)) + 0)) (a (97 + 5 * (XI xs (i + 2)) + 1)) (a (97 + 5 * (XI xs (i + 2)) + 2)) u_t) 25))) (XI xs (i + 2)) (r25 (low (fun u_t => ps (a 0) (a (97 + 5 * (XI xs (i + 1)) + 0)) (a (97 + 5 * (XI xs (i + 1)) + 1)) (a (97 + 5 * (XI xs (i + 1)) + 2)) u_t = ps (a 0) (a (97 + 5 * (XI xs (i + 2)) + 0)) (a (97 + 5 * (XI xs (i + 2)) + 1)) (a (97 + 5 * (XI xs (i + 2)) + 2)) u_t) 25))) ap asl (vp_updL of 0 (lI (low (fun u_t => off (a 0) ((G 1) (XI xs (i + 1))) ((G 2) (XI xs (i + 1))) (u_t * (G 3) (XI xs (i + 1))) = off (a 0) ((G 1) (XI xs (i + 2))) ((G 2) (XI xs (i + 2))) (u_t * (G 3) (XI xs (i + 2)))) (a 0)))) tl tc ct a fv) H := hP.perm ((pm_mNT cy u w out tl tc ol ct 0 fv a G ak Gk As Gs Ah Gh (stW (stW a (XI xs (i + 1)) (r25 (low (fun u_t => ps (a 0) (a (97 + 5 * (XI xs (i + 1)) + 0)) (a (97 + 5 * (XI xs (i + 1)) + 1)) (a (97 + 5 * (XI xs (i + 1)) + 2)) u_t = ps (a 0) (a (97 + 5 * (XI xs (i + 2)) + 0)) (a (97 + 5 * (XI xs (i + 2)) + 1)) (a (97 + 5 * (XI xs (i + 2)) + 2)) u_t) 25))) (XI xs (i + 2)) (r25 (low (fun u_t => ps (a 0) (a (97 + 5 * (XI xs (i + 1)) + 0)) (a (97 + 5 * (XI xs (i + 1)) + 1)) (a (97 + 5 * (XI xs (i + 1)) + 2)) u_t = ps (a 0) (a (97 + 5 * (XI xs (i + 2)) + 0)) (a (97 + 5 * (XI xs (i + 2)) + 1)) (a (97 + 5 * (XI xs (i + 2)) + 2)) u_t) 25))) ap asl (vp_updL of 0 (lI (low (fun u_t => off (a 0) ((G 1) (XI xs (i + 1))) ((G 2) (XI xs (i + 1))) (u_t * (G 3) (XI xs (i + 1))) = off (a 0) ((G 1) (XI xs (i + 2))) ((G 2) (XI xs (i + 2))) (u_t * (G 3) (XI xs (i + 2)))) (a 0)))) tl tc ct a fv).symm)
      have hD : va_D (fun q => s.heap.size ≤ q) (LW cy u w out tl tc ol ct 0 fv a G ak Gk As Gs Ah Gh (stW (stW a (XI xs (i + 1)) (r25 (low (fun u_t => ps (a 0) (a (97 + 5 * (XI xs (i + 1)) + 0)) (a (97 + 5 * (XI xs (i + 1)) + 1)) (a (97 + 5 * (XI xs (i + 1)) + 2)) u_t = ps (a 0) (a (97 + 5 * (XI xs (i + 2)) + 0)) (a (97 + 5 * (XI xs (i + 2)) + 1)) (a (97 + 5 * (XI xs (i + 2)) + 2)) u_t) 25))) (XI xs (i + 2)) (r25 (low (fun u_t => ps (a 0) (a (97 + 5 * (XI xs (i + 1)) + 0)) (a (97 + 5 * (XI xs (i + 1)) + 1)) (a (97 + 5 * (XI xs (i + 1)) + 2)) u_t = ps (a 0) (a (97 + 5 * (XI xs (i + 2)) + 0)) (a (97 + 5 * (XI xs (i + 2)) + 1)) (a (97 + 5 * (XI xs (i + 2)) + 2)) u_t) 25))) ap asl (vp_updL of 0 (lI (low (fun u_t => off (a 0) ((G 1) (XI xs (i + 1))) ((G 2) (XI xs (i + 1))) (u_t * (G 3) (XI xs (i + 1))) = off (a 0) ((G 1) (XI xs (i + 2))) ((G 2) (XI xs (i + 2))) (u_t * (G 3) (XI xs (i + 2)))) (a 0)))) tl tc ct a fv) := hD.perm ((pm_mNT cy u w out tl tc ol ct 0 fv a G ak Gk As Gs Ah Gh (stW (stW a (XI xs (i + 1)) (r25 (low (fun u_t => ps (a 0) (a (97 + 5 * (XI xs (i + 1)) + 0)) (a (97 + 5 * (XI xs (i + 1)) + 1)) (a (97 + 5 * (XI xs (i + 1)) + 2)) u_t = ps (a 0) (a (97 + 5 * (XI xs (i + 2)) + 0)) (a (97 + 5 * (XI xs (i + 2)) + 1)) (a (97 + 5 * (XI xs (i + 2)) + 2)) u_t) 25))) (XI xs (i + 2)) (r25 (low (fun u_t => ps (a 0) (a (97 + 5 * (XI xs (i + 1)) + 0)) (a (97 + 5 * (XI xs (i + 1)) + 1)) (a (97 + 5 * (XI xs (i + 1)) + 2)) u_t = ps (a 0) (a (97 + 5 * (XI xs (i + 2)) + 0)) (a (97 + 5 * (XI xs (i + 2)) + 1)) (a (97 + 5 * (XI xs (i + 2)) + 2)) u_t) 25))) ap asl (vp_updL of 0 (lI (low (fun u_t => off (a 0) ((G 1) (XI xs (i + 1))) ((G 2) (XI xs (i + 1))) (u_t * (G 3) (XI xs (i + 1))) = off (a 0) ((G 1) (XI xs (i + 2))) ((G 2) (XI xs (i + 2))) (u_t * (G 3) (XI xs (i + 2)))) (a 0)))) tl tc ct a fv).symm)
      have hP : va_P D vwCl (LW cy u w out tl tc ol ct 0 fv a G ak Gk As Gs Ah Gh (stW (stW a (XI xs (i + 1)) (r25 (low (fun u_t => ps (a 0) (a (97 + 5 * (XI xs (i + 1)) + 0)) (a (97 + 5 * (XI xs (i + 1)) + 1)) (a (97 + 5 * (XI xs (i + 1)) + 2)) u_t = ps (a 0) (a (97 + 5 * (XI xs (i + 2)) + 0)) (a (97 + 5 * (XI xs (i + 2)) + 1)) (a (97 + 5 * (XI xs (i + 2)) + 2)) u_t) 25))) (XI xs (i + 2)) (r25 (low (fun u_t => ps (a 0) (a (97 + 5 * (XI xs (i + 1)) + 0)) (a (97 + 5 * (XI xs (i + 1)) + 1)) (a (97 + 5 * (XI xs (i + 1)) + 2)) u_t = ps (a 0) (a (97 + 5 * (XI xs (i + 2)) + 0)) (a (97 + 5 * (XI xs (i + 2)) + 1)) (a (97 + 5 * (XI xs (i + 2)) + 2)) u_t) 25))) ap asl (vp_updL of 0 (lI (low (fun u_t => off (a 0) ((G 1) (XI xs (i + 1))) ((G 2) (XI xs (i + 1))) (u_t * (G 3) (XI xs (i + 1))) = off (a 0) ((G 1) (XI xs (i + 2))) ((G 2) (XI xs (i + 2))) (u_t * (G 3) (XI xs (i + 2)))) (a 0)))) tl tc ct a fv) H := hP
      have hD : va_D (fun q => s.heap.size ≤ q) (LW cy u w out tl tc ol ct 0 fv a G ak Gk As Gs Ah Gh (stW (stW a (XI xs (i + 1)) (r25 (low (fun u_t => ps (a 0) (a (97 + 5 * (XI xs (i + 1)) + 0)) (a (97 + 5 * (XI xs (i + 1)) + 1)) (a (97 + 5 * (XI xs (i + 1)) + 2)) u_t = ps (a 0) (a (97 + 5 * (XI xs (i + 2)) + 0)) (a (97 + 5 * (XI xs (i + 2)) + 1)) (a (97 + 5 * (XI xs (i + 2)) + 2)) u_t) 25))) (XI xs (i + 2)) (r25 (low (fun u_t => ps (a 0) (a (97 + 5 * (XI xs (i + 1)) + 0)) (a (97 + 5 * (XI xs (i + 1)) + 1)) (a (97 + 5 * (XI xs (i + 1)) + 2)) u_t = ps (a 0) (a (97 + 5 * (XI xs (i + 2)) + 0)) (a (97 + 5 * (XI xs (i + 2)) + 1)) (a (97 + 5 * (XI xs (i + 2)) + 2)) u_t) 25))) ap asl (vp_updL of 0 (lI (low (fun u_t => off (a 0) ((G 1) (XI xs (i + 1))) ((G 2) (XI xs (i + 1))) (u_t * (G 3) (XI xs (i + 1))) = off (a 0) ((G 1) (XI xs (i + 2))) ((G 2) (XI xs (i + 2))) (u_t * (G 3) (XI xs (i + 2)))) (a 0)))) tl tc ct a fv) := hD
      rw [show (low (fun u_t => ps (a 0) (a (97 + 5 * (XI xs (i + 1)) + 0)) (a (97 + 5 * (XI xs (i + 1)) + 1)) (a (97 + 5 * (XI xs (i + 1)) + 2)) u_t = ps (a 0) (a (97 + 5 * (XI xs (i + 2)) + 0)) (a (97 + 5 * (XI xs (i + 2)) + 1)) (a (97 + 5 * (XI xs (i + 2)) + 2)) u_t) 25 : Int) = (low (fun u_t => off (a 0) ((G 1) (XI xs (i + 1))) ((G 2) (XI xs (i + 1))) (u_t * (G 3) (XI xs (i + 1))) = off (a 0) ((G 1) (XI xs (i + 2))) ((G 2) (XI xs (i + 2))) (u_t * (G 3) (XI xs (i + 2)))) (a 0)) from lk_meet hZ (by omega) (by omega)]
      refine lv_istore (lv' := [(6, vI (low (fun u_t => off (a 0) ((G 1) (XI xs (i + 1))) ((G 2) (XI xs (i + 1))) (u_t * (G 3) (XI xs (i + 1))) = off (a 0) ((G 1) (XI xs (i + 2))) ((G 2) (XI xs (i + 2))) (u_t * (G 3) (XI xs (i + 2)))) (a 0))), (5, vI 0), (4, vI i), (3, .ref out), (2, .ref (w 0 0)), (1, .ref (u 0 0)), (0, .ref b)]) F.1 F.2.1 dL_law_1437 hl (by decide) rfl (fun ls hl => ?_)
      refine lv_aload_n F.1 F.2.1 dL_law_1439 rfl (lv_at hl 4 rfl) ?_
      refine rr_rdVp (rest := []) F hK (c_X7_thrown l D cy (w 0 0) (w 0 1) (w 0 2) (w 0 3) (w 0 4) (w 0 5) (w 0 6) 0 ct tl) hP (pm_m0 cy u w out tl tc ol ct 0 fv a G ak Gk As Gs Ah Gh (stW (stW a (XI xs (i + 1)) (r25 (low (fun u_t => ps (a 0) (a (97 + 5 * (XI xs (i + 1)) + 0)) (a (97 + 5 * (XI xs (i + 1)) + 1)) (a (97 + 5 * (XI xs (i + 1)) + 2)) u_t = ps (a 0) (a (97 + 5 * (XI xs (i + 2)) + 0)) (a (97 + 5 * (XI xs (i + 2)) + 1)) (a (97 + 5 * (XI xs (i + 2)) + 2)) u_t) 25))) (XI xs (i + 2)) (r25 (low (fun u_t => ps (a 0) (a (97 + 5 * (XI xs (i + 1)) + 0)) (a (97 + 5 * (XI xs (i + 1)) + 1)) (a (97 + 5 * (XI xs (i + 1)) + 2)) u_t = ps (a 0) (a (97 + 5 * (XI xs (i + 2)) + 0)) (a (97 + 5 * (XI xs (i + 2)) + 1)) (a (97 + 5 * (XI xs (i + 2)) + 2)) u_t) 25))) ap asl (vp_updL of 0 (lI (low (fun u_t => off (a 0) ((G 1) (XI xs (i + 1))) ((G 2) (XI xs (i + 1))) (u_t * (G 3) (XI xs (i + 1))) = off (a 0) ((G 1) (XI xs (i + 2))) ((G 2) (XI xs (i + 2))) (u_t * (G 3) (XI xs (i + 2)))) (a 0)))) tl tc ct a fv) sf_X7_thrown tw902 7 rfl rfl ⟨Nat.le_of_ble_eq_true rfl, Nat.le_of_ble_eq_true rfl⟩ hl rfl (Nat.le_of_ble_eq_true rfl) dL_law_1440 ⟨by show cells + 1 ≤ 601024; omega, by show slots + 6 ≤ 7293033; omega⟩ ?_
      refine lv_iload F.1 F.2.1 dL_law_1443 (lv_at hl 1 rfl) ?_
      refine rr_icmp_eq F (tgt := 1450) dL_law_1445 (by decide) ⟨by omega, by omega⟩ ⟨by omega, by omega⟩ (fun _ => ?_) (fun z => absurd rfl z)
      refine lv_iload F.1 F.2.1 dL_law_1450 (lv_at hl 1 rfl) ?_
      refine rr_if_ne F (tgt := 1467) dL_law_1452 (by decide) ⟨by omega, by omega⟩ (fun z => absurd rfl z) (fun _ => ?_)
      refine lv_aload_n F.1 F.2.1 dL_law_1455 rfl (lv_at hl 3 rfl) ?_
      refine rr_iconst F dL_law_1456 ?_
      refine rr_lald0 F hK (hP.perm (pm_o cy u w out tl tc ol ct 0 fv a G ak Gk As Gs Ah Gh (stW (stW a (XI xs (i + 1)) (r25 (low (fun u_t => ps (a 0) (a (97 + 5 * (XI xs (i + 1)) + 0)) (a (97 + 5 * (XI xs (i + 1)) + 1)) (a (97 + 5 * (XI xs (i + 1)) + 2)) u_t = ps (a 0) (a (97 + 5 * (XI xs (i + 2)) + 0)) (a (97 + 5 * (XI xs (i + 2)) + 1)) (a (97 + 5 * (XI xs (i + 2)) + 2)) u_t) 25))) (XI xs (i + 2)) (r25 (low (fun u_t => ps (a 0) (a (97 + 5 * (XI xs (i + 1)) + 0)) (a (97 + 5 * (XI xs (i + 1)) + 1)) (a (97 + 5 * (XI xs (i + 1)) + 2)) u_t = ps (a 0) (a (97 + 5 * (XI xs (i + 2)) + 0)) (a (97 + 5 * (XI xs (i + 2)) + 1)) (a (97 + 5 * (XI xs (i + 2)) + 2)) u_t) 25))) ap asl (vp_updL of 0 (lI (low (fun u_t => off (a 0) ((G 1) (XI xs (i + 1))) ((G 2) (XI xs (i + 1))) (u_t * (G 3) (XI xs (i + 1))) = off (a 0) ((G 1) (XI xs (i + 2))) ((G 2) (XI xs (i + 2))) (u_t * (G 3) (XI xs (i + 2)))) (a 0)))) tl tc ct a fv)) 0 rfl dL_law_1457 ?_
      refine lv_iload F.1 F.2.1 dL_law_1458 (lv_at hl 0 rfl) ?_
      refine rr_i2l F dL_law_1460 hvr ?_
      refine rr_lcmp F (a := low (fun u_t => off (a 0) ((G 1) (XI xs (i + 1))) ((G 2) (XI xs (i + 1))) (u_t * (G 3) (XI xs (i + 1))) = off (a 0) ((G 1) (XI xs (i + 2))) ((G 2) (XI xs (i + 2))) (u_t * (G 3) (XI xs (i + 2)))) (a 0)) (b := low (fun u_t => off (a 0) ((G 1) (XI xs (i + 1))) ((G 2) (XI xs (i + 1))) (u_t * (G 3) (XI xs (i + 1))) = off (a 0) ((G 1) (XI xs (i + 2))) ((G 2) (XI xs (i + 2))) (u_t * (G 3) (XI xs (i + 2)))) (a 0)) dL_law_1461 (inL_r hvr) (inL_r hvr) ?_
      refine rr_if_eq F (tgt := 1467) dL_law_1462 (by decide) (lcm_r _ _) (fun _ => ?_) (fun z => absurd ((lcm_spec _ _).2.1.mpr rfl) z)
      refine lv_goto (tgt := 2055) F.1 F.2.1 dL_law_1467 (by decide) ?_
      exact kk _ _ _ _ _ _ _ _ _ _ _ _ _ _ _ _ _ _ H locs ls (hI.mono (by omega)) hP hD hS (lv_sub hl [2, 3, 4, 5, 6] rfl)
    · refine rr_twS (rest := []) F hK hX hZ1 (r_meet_37 l hnt D cy sa (u 0 0) (u 1 0) (u 2 0) (u 3 0) (u 4 0) (u 0 1) (u 0 2) (u 2 1) (u 2 3) (u 2 6) (a 96) (a 117) (XI xs (i + 1)) (XI xs (i + 2)) out hM.wc (XI_r _ _) (XI_r _ _) (by first | assumption | omega | exact ⟨by omega, by omega⟩) (by first | assumption | omega | exact ⟨by omega, by omega⟩)) hP hS sfw_meet tw762 ⟨Nat.le_of_ble_eq_true rfl, Nat.le_of_ble_eq_true rfl⟩ hl rfl (Nat.le_of_ble_eq_true rfl) dL_law_1416 ⟨by show cells + 1 ≤ 601024; omega, by show slots + 6 ≤ 7293033; omega⟩ (pm_cA cy u w out tl tc ol ct tr fv a G ak Gk As Gs Ah Gh th ap asl of tl tc ct a fv) (fun H locs hP hS _ => ?_)
      refine lv_istore (lv' := [(5, vI 2), (4, vI i), (3, .ref out), (2, .ref (w 0 0)), (1, .ref (u 0 0)), (0, .ref b)]) F.1 F.2.1 dL_law_1419 hl (by decide) rfl (fun ls hl => ?_)
      refine lv_aload_n F.1 F.2.1 dL_law_1421 rfl (lv_at hl 3 rfl) ?_
      refine lv_aload_n F.1 F.2.1 dL_law_1422 rfl (lv_at hl 5 rfl) ?_
      refine lv_iload F.1 F.2.1 dL_law_1423 (lv_at hl 1 rfl) ?_
      refine rr_iconst F dL_law_1425 ?_
      refine rr_iadd F (z := i + 1) dL_law_1426 rfl ?_
      refine rr_sld F (A := fun q => s.heap.size ≤ q) hxs hb hbA hS (by omega) (by omega) hL dL_law_1427 ?_
      refine lv_aload_n F.1 F.2.1 dL_law_1428 rfl (lv_at hl 5 rfl) ?_
      refine lv_iload F.1 F.2.1 dL_law_1429 (lv_at hl 1 rfl) ?_
      refine rr_iconst F dL_law_1431 ?_
      refine rr_iadd F (z := i + 2) dL_law_1432 rfl ?_
      refine rr_sld F (A := fun q => s.heap.size ≤ q) hxs hb hbA hS (by omega) (by omega) hL dL_law_1433 ?_
      have hcode : (if (0 ≤ (XI xs (i + 1)) ∧ (XI xs (i + 1)) < a 96) ∧ (0 ≤ (XI xs (i + 2)) ∧ (XI xs (i + 2)) < a 96) then 2 else 1 : Int) = 2 := by first | rfl | ((repeat' split) <;> first | rfl | omega)
      refine rr_wrVp (rest := []) F hK (n_X7_meet l D cy (w 0 0) (w 0 1) (w 0 2) (w 0 3) (w 0 4) (w 0 5) (w 0 6) tr ct tl a th (XI xs (i + 1)) (XI xs (i + 2)) hM (XI_r _ _) (XI_r _ _) (by first | assumption | omega)) hP hD hS hA sf_X7_meet tw1172 7 rfl rfl ⟨Nat.le_of_ble_eq_true rfl, Nat.le_of_ble_eq_true rfl⟩ hl rfl (Nat.le_of_ble_eq_true rfl) dL_law_1434 ⟨by show cells + 1 ≤ 601024; omega, by show slots + 6 ≤ 7293033; omega⟩ (pm_mNT cy u w out tl tc ol ct tr fv a G ak Gk As Gs Ah Gh th ap asl of tl tc ct a fv) rfl (fun H locs hP hD hS _ => ?_)
      have hP : va_P D vwCl (LW cy u w out tl tc ol ct (if (0 ≤ (XI xs (i + 1)) ∧ (XI xs (i + 1)) < a 96) ∧ (0 ≤ (XI xs (i + 2)) ∧ (XI xs (i + 2)) < a 96) then 2 else 1) fv a G ak Gk As Gs Ah Gh th ap asl of tl tc ct a fv) H := hP.perm ((pm_mNT cy u w out tl tc ol ct (if (0 ≤ (XI xs (i + 1)) ∧ (XI xs (i + 1)) < a 96) ∧ (0 ≤ (XI xs (i + 2)) ∧ (XI xs (i + 2)) < a 96) then 2 else 1) fv a G ak Gk As Gs Ah Gh th ap asl of tl tc ct a fv).symm)
      have hD : va_D (fun q => s.heap.size ≤ q) (LW cy u w out tl tc ol ct (if (0 ≤ (XI xs (i + 1)) ∧ (XI xs (i + 1)) < a 96) ∧ (0 ≤ (XI xs (i + 2)) ∧ (XI xs (i + 2)) < a 96) then 2 else 1) fv a G ak Gk As Gs Ah Gh th ap asl of tl tc ct a fv) := hD.perm ((pm_mNT cy u w out tl tc ol ct (if (0 ≤ (XI xs (i + 1)) ∧ (XI xs (i + 1)) < a 96) ∧ (0 ≤ (XI xs (i + 2)) ∧ (XI xs (i + 2)) < a 96) then 2 else 1) fv a G ak Gk As Gs Ah Gh th ap asl of tl tc ct a fv).symm)
      rw [hcode] at hP hD
      refine lv_istore (lv' := [(6, vI 0), (5, vI 2), (4, vI i), (3, .ref out), (2, .ref (w 0 0)), (1, .ref (u 0 0)), (0, .ref b)]) F.1 F.2.1 dL_law_1437 hl (by decide) rfl (fun ls hl => ?_)
      refine lv_aload_n F.1 F.2.1 dL_law_1439 rfl (lv_at hl 4 rfl) ?_
      refine rr_rdVp (rest := []) F hK (c_X7_thrown l D cy (w 0 0) (w 0 1) (w 0 2) (w 0 3) (w 0 4) (w 0 5) (w 0 6) 2 ct tl) hP (pm_m0 cy u w out tl tc ol ct 2 fv a G ak Gk As Gs Ah Gh th ap asl of tl tc ct a fv) sf_X7_thrown tw902 7 rfl rfl ⟨Nat.le_of_ble_eq_true rfl, Nat.le_of_ble_eq_true rfl⟩ hl rfl (Nat.le_of_ble_eq_true rfl) dL_law_1440 ⟨by show cells + 1 ≤ 601024; omega, by show slots + 6 ≤ 7293033; omega⟩ ?_
      refine lv_iload F.1 F.2.1 dL_law_1443 (lv_at hl 1 rfl) ?_
      refine rr_icmp_eq F (tgt := 1450) dL_law_1445 (by decide) ⟨by omega, by omega⟩ ⟨by omega, by omega⟩ (fun _ => ?_) (fun z => absurd rfl z)
      refine lv_iload F.1 F.2.1 dL_law_1450 (lv_at hl 1 rfl) ?_
      refine rr_if_ne F (tgt := 1467) dL_law_1452 (by decide) ⟨by omega, by omega⟩ (fun _ => ?_) (fun z => by omega)
      refine lv_goto (tgt := 2055) F.1 F.2.1 dL_law_1467 (by decide) ?_
      exact kk _ _ _ _ _ _ _ _ _ _ _ _ _ _ _ _ _ _ H locs ls (hI.mono (by omega)) hP hD hS (lv_sub hl [2, 3, 4, 5, 6] rfl)
  · refine rr_twS (rest := []) F hK hX hZ1 (r_meet_22 l hnt D cy sa (u 0 0) (u 1 0) (u 2 0) (u 3 0) (u 4 0) (u 0 1) (u 0 2) (u 2 1) (u 2 3) (u 2 6) (a 96) (a 117) (XI xs (i + 1)) (XI xs (i + 2)) out hM.wc (XI_r _ _) (XI_r _ _) (by first | assumption | omega | exact ⟨by omega, by omega⟩)) hP hS sfw_meet tw762 ⟨Nat.le_of_ble_eq_true rfl, Nat.le_of_ble_eq_true rfl⟩ hl rfl (Nat.le_of_ble_eq_true rfl) dL_law_1416 ⟨by show cells + 1 ≤ 601024; omega, by show slots + 6 ≤ 7293033; omega⟩ (pm_cA cy u w out tl tc ol ct tr fv a G ak Gk As Gs Ah Gh th ap asl of tl tc ct a fv) (fun H locs hP hS _ => ?_)
    refine lv_istore (lv' := [(5, vI 1), (4, vI i), (3, .ref out), (2, .ref (w 0 0)), (1, .ref (u 0 0)), (0, .ref b)]) F.1 F.2.1 dL_law_1419 hl (by decide) rfl (fun ls hl => ?_)
    refine lv_aload_n F.1 F.2.1 dL_law_1421 rfl (lv_at hl 3 rfl) ?_
    refine lv_aload_n F.1 F.2.1 dL_law_1422 rfl (lv_at hl 5 rfl) ?_
    refine lv_iload F.1 F.2.1 dL_law_1423 (lv_at hl 1 rfl) ?_
    refine rr_iconst F dL_law_1425 ?_
    refine rr_iadd F (z := i + 1) dL_law_1426 rfl ?_
    refine rr_sld F (A := fun q => s.heap.size ≤ q) hxs hb hbA hS (by omega) (by omega) hL dL_law_1427 ?_
    refine lv_aload_n F.1 F.2.1 dL_law_1428 rfl (lv_at hl 5 rfl) ?_
    refine lv_iload F.1 F.2.1 dL_law_1429 (lv_at hl 1 rfl) ?_
    refine rr_iconst F dL_law_1431 ?_
    refine rr_iadd F (z := i + 2) dL_law_1432 rfl ?_
    refine rr_sld F (A := fun q => s.heap.size ≤ q) hxs hb hbA hS (by omega) (by omega) hL dL_law_1433 ?_
    have hcode : (if (0 ≤ (XI xs (i + 1)) ∧ (XI xs (i + 1)) < a 96) ∧ (0 ≤ (XI xs (i + 2)) ∧ (XI xs (i + 2)) < a 96) then 2 else 1 : Int) = 1 := by first | rfl | ((repeat' split) <;> first | rfl | omega)
    refine rr_wrVp (rest := []) F hK (n_X7_meet l D cy (w 0 0) (w 0 1) (w 0 2) (w 0 3) (w 0 4) (w 0 5) (w 0 6) tr ct tl a th (XI xs (i + 1)) (XI xs (i + 2)) hM (XI_r _ _) (XI_r _ _) (by first | assumption | omega)) hP hD hS hA sf_X7_meet tw1172 7 rfl rfl ⟨Nat.le_of_ble_eq_true rfl, Nat.le_of_ble_eq_true rfl⟩ hl rfl (Nat.le_of_ble_eq_true rfl) dL_law_1434 ⟨by show cells + 1 ≤ 601024; omega, by show slots + 6 ≤ 7293033; omega⟩ (pm_mNT cy u w out tl tc ol ct tr fv a G ak Gk As Gs Ah Gh th ap asl of tl tc ct a fv) rfl (fun H locs hP hD hS _ => ?_)
    have hP : va_P D vwCl (LW cy u w out tl tc ol ct (if (0 ≤ (XI xs (i + 1)) ∧ (XI xs (i + 1)) < a 96) ∧ (0 ≤ (XI xs (i + 2)) ∧ (XI xs (i + 2)) < a 96) then 2 else 1) fv a G ak Gk As Gs Ah Gh th ap asl of tl tc ct a fv) H := hP.perm ((pm_mNT cy u w out tl tc ol ct (if (0 ≤ (XI xs (i + 1)) ∧ (XI xs (i + 1)) < a 96) ∧ (0 ≤ (XI xs (i + 2)) ∧ (XI xs (i + 2)) < a 96) then 2 else 1) fv a G ak Gk As Gs Ah Gh th ap asl of tl tc ct a fv).symm)
    have hD : va_D (fun q => s.heap.size ≤ q) (LW cy u w out tl tc ol ct (if (0 ≤ (XI xs (i + 1)) ∧ (XI xs (i + 1)) < a 96) ∧ (0 ≤ (XI xs (i + 2)) ∧ (XI xs (i + 2)) < a 96) then 2 else 1) fv a G ak Gk As Gs Ah Gh th ap asl of tl tc ct a fv) := hD.perm ((pm_mNT cy u w out tl tc ol ct (if (0 ≤ (XI xs (i + 1)) ∧ (XI xs (i + 1)) < a 96) ∧ (0 ≤ (XI xs (i + 2)) ∧ (XI xs (i + 2)) < a 96) then 2 else 1) fv a G ak Gk As Gs Ah Gh th ap asl of tl tc ct a fv).symm)
    rw [hcode] at hP hD
    refine lv_istore (lv' := [(6, vI 0), (5, vI 1), (4, vI i), (3, .ref out), (2, .ref (w 0 0)), (1, .ref (u 0 0)), (0, .ref b)]) F.1 F.2.1 dL_law_1437 hl (by decide) rfl (fun ls hl => ?_)
    refine lv_aload_n F.1 F.2.1 dL_law_1439 rfl (lv_at hl 4 rfl) ?_
    refine rr_rdVp (rest := []) F hK (c_X7_thrown l D cy (w 0 0) (w 0 1) (w 0 2) (w 0 3) (w 0 4) (w 0 5) (w 0 6) 1 ct tl) hP (pm_m0 cy u w out tl tc ol ct 1 fv a G ak Gk As Gs Ah Gh th ap asl of tl tc ct a fv) sf_X7_thrown tw902 7 rfl rfl ⟨Nat.le_of_ble_eq_true rfl, Nat.le_of_ble_eq_true rfl⟩ hl rfl (Nat.le_of_ble_eq_true rfl) dL_law_1440 ⟨by show cells + 1 ≤ 601024; omega, by show slots + 6 ≤ 7293033; omega⟩ ?_
    refine lv_iload F.1 F.2.1 dL_law_1443 (lv_at hl 1 rfl) ?_
    refine rr_icmp_eq F (tgt := 1450) dL_law_1445 (by decide) ⟨by omega, by omega⟩ ⟨by omega, by omega⟩ (fun _ => ?_) (fun z => absurd rfl z)
    refine lv_iload F.1 F.2.1 dL_law_1450 (lv_at hl 1 rfl) ?_
    refine rr_if_ne F (tgt := 1467) dL_law_1452 (by decide) ⟨by omega, by omega⟩ (fun _ => ?_) (fun z => by omega)
    refine lv_goto (tgt := 2055) F.1 F.2.1 dL_law_1467 (by decide) ?_
    exact kk _ _ _ _ _ _ _ _ _ _ _ _ _ _ _ _ _ _ H locs ls (hI.mono (by omega)) hP hD hS (lv_sub hl [2, 3, 4, 5, 6] rfl)
