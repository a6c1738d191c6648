-- the law's cases without a caller: laid by lawd.py
set_option maxRecDepth 100000 in
set_option maxHeartbeats 8000000 in
theorem lc_clearText {p : Program} {l : Launch} {e : Env} {s : State} {m : MethodId} {args : Array Value} {below : List Frame} {meth : Method} {c : Code} {Q : State → Prop} {b L : Nat} {xs : Nat → Int32} {D : va_G} {cy : Nat → ClassId} {sa : Nat → Nat} {u w : NU} {out : Nat} (hnt : l.stackTraces = false) (F : FX p m c cL_law 7 s args RL) (hK : KK D cy s) (hX : XK sa s) (hZ0 : ZK (fun q => s.heap.size ≤ q) s s.heap) (hxs : va_X b L xs s s.heap) (hb : b < s.heap.size) (hL : L ≤ 2560) {N : Int} {tl : Int} {tc : Int → Int} {ol : Int} {ct : Int} {tr : Int} {fv : Int → Int} {a : Int → Int} {G : Int → Int → Int} {ak : Int → Int} {Gk : Int → Int → Int} {As : Nat → Int → Int} {Gs : Nat → Int → Int → Int} {Ah : Nat → Int → Int} {Gh : Nat → Int → Int → Int} {th : Int → Int} {ap : Int → Int} {asl : Int → Int} {of : Nat → Int64} (hI : INV N tl tc ol ct fv a G As Gs Ah Gh ap asl) (hN : 0 ≤ N ∧ N ≤ 80000000) {i : Int} (hi : 0 ≤ i ∧ i + 5 ≤ L) {H : Heap} {locs : List Loc} {cells slots : Nat} {ls : Array Slot} (hP : va_P D vwCl (LW cy u w out tl tc ol ct tr fv a G ak Gk As Gs Ah Gh th ap asl of tl tc ct a fv) H) (hD : va_D (fun q => s.heap.size ≤ q) (LW cy u w out tl tc ol ct tr fv a G ak Gk As Gs Ah Gh th ap asl of tl tc ct a fv)) (hS : va_S (fun q => s.heap.size ≤ q) s.heap H locs) (hl : lv_has ls 7 [(4, vI i), (3, .ref out), (2, .ref (w 0 0)), (1, .ref (u 0 0)), (0, .ref b)]) (hc : cells + 1 ≤ 601024 ∧ slots + 6 ≤ 7293033) (kk : LK p l e s m args below meth c D cy u w out b (N + 50) i (cells + 1) (slots + 6) Q) : W p l e room_1 s m args below meth c H locs cells slots Q (F0 m 232 ls []) := by
  have hT := hI.1
  obtain ⟨hZ, hSV, hsp0, hsp1⟩ := hI.2.1
  have hM := SB.mr hZ
  have hn0 := hM.n
  have hw0 := hM.nw
  have hc0 := hM.wc
  have hol := hI.2.2.1
  have hct := hI.2.2.2.1
  have hbA : ¬ (fun q => s.heap.size ≤ q) b := Nat.not_le.mpr hb
  have hA : ∀ q, s.heap.size ≤ q → (fun q => s.heap.size ≤ q) q := fun q h => h
  refine W.widen (k := cells + 1) (n := slots + 6) (by omega) (by omega) ?_
  refine lv_aload_n F.1 F.2.1 dL_law_232 rfl (lv_at hl 3 rfl) ?_
  refine rr_wrVp (rest := []) F hK (c_X6_clearText l D cy (u 0 0) (u 2 0) (u 3 0) (u 4 0) (u 0 1) (u 0 2) (u 1 0) (u 1 1) tl tc hT) hP hD hS hA sf_X6_clearText tw177 6 rfl rfl ⟨Nat.le_of_ble_eq_true rfl, Nat.le_of_ble_eq_true rfl⟩ hl rfl (Nat.le_of_ble_eq_true rfl) dL_law_233 ⟨by show cells + 1 ≤ 601024; omega, by show slots + 6 ≤ 7293033; omega⟩ (pm_cT cy u w out tl tc ol ct tr fv a G ak Gk As Gs Ah Gh th ap asl of tl tc ct a fv) rfl (fun H locs hP hD hS _ => ?_)
  have hP : va_P D vwCl (LW cy u w out 0 tc ol ct tr fv a G ak Gk As Gs Ah Gh th ap asl of tl tc ct a fv) H := hP.perm ((pm_cT cy u w out 0 tc ol ct tr fv a G ak Gk As Gs Ah Gh th ap asl of tl tc ct a fv).symm)
  have hD : va_D (fun q => s.heap.size ≤ q) (LW cy u w out 0 tc ol ct tr fv a G ak Gk As Gs Ah Gh th ap asl of tl tc ct a fv) := hD.perm ((pm_cT cy u w out 0 tc ol ct tr fv a G ak Gk As Gs Ah Gh th ap asl of tl tc ct a fv).symm)
  refine lv_aload_n F.1 F.2.1 dL_law_236 rfl (lv_at hl 2 rfl) ?_
  refine rr_wrVp (rest := [vI tl]) F hK (c_X7_clearText l D cy (w 0 0) (w 0 1) (w 0 2) (w 0 3) (w 0 4) (w 0 5) (w 0 6) tr ct tl ) hP hD hS hA sf_X7_clearText tw924 7 rfl rfl ⟨Nat.le_of_ble_eq_true rfl, Nat.le_of_ble_eq_true rfl⟩ hl rfl (Nat.le_of_ble_eq_true rfl) dL_law_237 ⟨by show cells + 1 ≤ 601024; omega, by show slots + 6 ≤ 7293033; omega⟩ (pm_m0 cy u w out 0 tc ol ct tr fv a G ak Gk As Gs Ah Gh th ap asl of tl tc ct a fv) rfl (fun H locs hP hD hS _ => ?_)
  have hP : va_P D vwCl (LW cy u w out 0 tc ol ct 0 fv a G ak Gk As Gs Ah Gh th ap asl of 0 tc ct a fv) H := hP.perm ((pm_m0 cy u w out 0 tc ol ct 0 fv a G ak Gk As Gs Ah Gh th ap asl of 0 tc ct a fv).symm)
  have hD : va_D (fun q => s.heap.size ≤ q) (LW cy u w out 0 tc ol ct 0 fv a G ak Gk As Gs Ah Gh th ap asl of 0 tc ct a fv) := hD.perm ((pm_m0 cy u w out 0 tc ol ct 0 fv a G ak Gk As Gs Ah Gh th ap asl of 0 tc ct a fv).symm)
  refine rr_icmp_eq F (tgt := 2055) dL_law_240 (by decide) ⟨by omega, by omega⟩ ⟨by omega, by omega⟩ (fun _ => ?_) (fun z => absurd rfl z)
  have hP : va_P D vwCl (LW cy u w out 0 tc ol ct 0 fv a G ak Gk As Gs Ah Gh th ap asl of 0 tc ct a fv) H := hP
  have hD : va_D (fun q => s.heap.size ≤ q) (LW cy u w out 0 tc ol ct 0 fv a G ak Gk As Gs Ah Gh th ap asl of 0 tc ct a fv) := hD
  exact kk _ _ _ _ _ _ _ _ _ _ _ _ _ _ _ _ _ _ H locs ls ((hI.text ⟨by omega, hT.2⟩).mono (by omega)) hP hD hS hl
set_option maxRecDepth 100000 in
set_option maxHeartbeats 8000000 in
theorem lc_errorPosition {p : Program} {l : Launch} {e : Env} {s : State} {m : MethodId} {args : Array Value} {below : List Frame} {meth : Method} {c : Code} {Q : State → Prop} {b L : Nat} {xs : Nat → Int32} {D : va_G} {cy : Nat → ClassId} {sa : Nat → Nat} {u w : NU} {out : Nat} (hnt : l.stackTraces = false) (F : FX p m c cL_law 7 s args RL) (hK : KK D cy s) (hX : XK sa s) (hZ0 : ZK (fun q => s.heap.size ≤ q) s s.heap) (hxs : va_X b L xs s s.heap) (hb : b < s.heap.size) (hL : L ≤ 2560) {N : Int} {tl : Int} {tc : Int → Int} {ol : Int} {ct : Int} {tr : Int} {fv : Int → Int} {a : Int → Int} {G : Int → Int → Int} {ak : Int → Int} {Gk : Int → Int → Int} {As : Nat → Int → Int} {Gs : Nat → Int → Int → Int} {Ah : Nat → Int → Int} {Gh : Nat → Int → Int → Int} {th : Int → Int} {ap : Int → Int} {asl : Int → Int} {of : Nat → Int64} (hI : INV N tl tc ol ct fv a G As Gs Ah Gh ap asl) (hN : 0 ≤ N ∧ N ≤ 80000000) {i : Int} (hi : 0 ≤ i ∧ i + 5 ≤ L) {H : Heap} {locs : List Loc} {cells slots : Nat} {ls : Array Slot} (hP : va_P D vwCl (LW cy u w out tl tc ol ct tr fv a G ak Gk As Gs Ah Gh th ap asl of tl tc ct a fv) H) (hD : va_D (fun q => s.heap.size ≤ q) (LW cy u w out tl tc ol ct tr fv a G ak Gk As Gs Ah Gh th ap asl of tl tc ct a fv)) (hS : va_S (fun q => s.heap.size ≤ q) s.heap H locs) (hl : lv_has ls 7 [(4, vI i), (3, .ref out), (2, .ref (w 0 0)), (1, .ref (u 0 0)), (0, .ref b)]) (hc : cells + 1 ≤ 601024 ∧ slots + 6 ≤ 7293033) (kk : LK p l e s m args below meth c D cy u w out b (N + 50) i (cells + 1) (slots + 6) Q) : W p l e room_1 s m args below meth c H locs cells slots Q (F0 m 245 ls []) := by
  have hT := hI.1
  obtain ⟨hZ, hSV, hsp0, hsp1⟩ := hI.2.1
  have hM := SB.mr hZ
  have hn0 := hM.n
  have hw0 := hM.nw
  have hc0 := hM.wc
  have hol := hI.2.2.1
  have hct := hI.2.2.2.1
  have hbA : ¬ (fun q => s.heap.size ≤ q) b := Nat.not_le.mpr hb
  have hA : ∀ q, s.heap.size ≤ q → (fun q => s.heap.size ≤ q) q := fun q h => h
  refine W.widen (k := cells + 1) (n := slots + 6) (by omega) (by omega) ?_
  have fr0 := ferr_rng (tl := tl) (tc := tc) (fb := 0) hT.1.1
  have fr1 := ferr_rng (tl := tl) (tc := tc) (fb := 1) hT.1.1
  refine lv_aload_n F.1 F.2.1 dL_law_245 rfl (lv_at hl 3 rfl) ?_
  refine lv_aload_n F.1 F.2.1 dL_law_246 rfl (lv_at hl 4 rfl) ?_
  refine lv_iload F.1 F.2.1 dL_law_247 (lv_at hl 0 rfl) ?_
  refine rr_iconst F dL_law_249 ?_
  refine rr_iadd F (z := i + 1) dL_law_250 rfl ?_
  refine rr_sld F (A := fun q => s.heap.size ≤ q) hxs hb hbA hS (by omega) (by omega) hL dL_law_251 ?_
  refine rr_if_eq F (tgt := 259) dL_law_252 (by decide) (XI_r _ _) (fun z1 => ?_) (fun z1 => ?_)
  · refine rr_iconst F dL_law_259 ?_
    refine rr_rdVp (rest := []) F hK (c_X6_errorPosition l D cy (u 0 0) (u 2 0) (u 3 0) (u 4 0) (u 0 1) (u 0 2) (u 1 0) (u 1 1) tl tc 0 hT (by omega)) hP (pm_cT cy u w out tl tc ol ct tr fv a G ak Gk As Gs Ah Gh th ap asl of tl tc ct a fv) sf_X6_errorPosition tw185 6 rfl rfl ⟨Nat.le_of_ble_eq_true rfl, Nat.le_of_ble_eq_true rfl⟩ hl rfl (Nat.le_of_ble_eq_true rfl) dL_law_260 ⟨by show cells + 1 ≤ 601024; omega, by show slots + 6 ≤ 7293033; omega⟩ ?_
    refine lv_aload_n F.1 F.2.1 dL_law_263 rfl (lv_at hl 2 rfl) ?_
    refine lv_aload_n F.1 F.2.1 dL_law_264 rfl (lv_at hl 4 rfl) ?_
    refine lv_iload F.1 F.2.1 dL_law_265 (lv_at hl 0 rfl) ?_
    refine rr_iconst F dL_law_267 ?_
    refine rr_iadd F (z := i + 1) dL_law_268 rfl ?_
    refine rr_sld F (A := fun q => s.heap.size ≤ q) hxs hb hbA hS (by omega) (by omega) hL dL_law_269 ?_
    refine rr_if_eq F (tgt := 277) dL_law_270 (by decide) (XI_r _ _) (fun z2 => ?_) (fun z2 => ?_)
    · refine rr_iconst F dL_law_277 ?_
      refine rr_wrVp (rest := [vI (ferr tl tc 0)]) F hK (c_X7_errorPosition l D cy (w 0 0) (w 0 1) (w 0 2) (w 0 3) (w 0 4) (w 0 5) (w 0 6) tr ct tl tc 0 hT (by omega)) hP hD hS hA sf_X7_errorPosition tw928 7 rfl rfl ⟨Nat.le_of_ble_eq_true rfl, Nat.le_of_ble_eq_true rfl⟩ hl rfl (Nat.le_of_ble_eq_true rfl) dL_law_278 ⟨by show cells + 1 ≤ 601024; omega, by show slots + 6 ≤ 7293033; omega⟩ (pm_mT cy u w out tl tc ol ct tr fv a G ak Gk As Gs Ah Gh th ap asl of tl tc ct a fv) rfl (fun H locs hP hD hS _ => ?_)
      have hP : va_P D vwCl (LW cy u w out tl tc ol ct 0 fv a G ak Gk As Gs Ah Gh th ap asl of tl tc ct a fv) H := hP.perm ((pm_mT cy u w out tl tc ol ct 0 fv a G ak Gk As Gs Ah Gh th ap asl of tl tc ct a fv).symm)
      have hD : va_D (fun q => s.heap.size ≤ q) (LW cy u w out tl tc ol ct 0 fv a G ak Gk As Gs Ah Gh th ap asl of tl tc ct a fv) := hD.perm ((pm_mT cy u w out tl tc ol ct 0 fv a G ak Gk As Gs Ah Gh th ap asl of tl tc ct a fv).symm)
      refine rr_icmp_eq F (tgt := 2055) dL_law_281 (by decide) ⟨by omega, by omega⟩ ⟨by omega, by omega⟩ (fun _ => ?_) (fun z => absurd rfl z)
      have hP : va_P D vwCl (LW cy u w out tl tc ol ct 0 fv a G ak Gk As Gs Ah Gh th ap asl of tl tc ct a fv) H := hP
      have hD : va_D (fun q => s.heap.size ≤ q) (LW cy u w out tl tc ol ct 0 fv a G ak Gk As Gs Ah Gh th ap asl of tl tc ct a fv) := hD
      exact kk _ _ _ _ _ _ _ _ _ _ _ _ _ _ _ _ _ _ H locs ls (hI.mono (by omega)) hP hD hS hl
    · exact absurd z1 z2
  · refine rr_iconst F dL_law_255 ?_
    refine lv_goto (tgt := 260) F.1 F.2.1 dL_law_256 (by decide) ?_
    refine rr_rdVp (rest := []) F hK (c_X6_errorPosition l D cy (u 0 0) (u 2 0) (u 3 0) (u 4 0) (u 0 1) (u 0 2) (u 1 0) (u 1 1) tl tc 1 hT (by omega)) hP (pm_cT cy u w out tl tc ol ct tr fv a G ak Gk As Gs Ah Gh th ap asl of tl tc ct a fv) sf_X6_errorPosition tw185 6 rfl rfl ⟨Nat.le_of_ble_eq_true rfl, Nat.le_of_ble_eq_true rfl⟩ hl rfl (Nat.le_of_ble_eq_true rfl) dL_law_260 ⟨by show cells + 1 ≤ 601024; omega, by show slots + 6 ≤ 7293033; omega⟩ ?_
    refine lv_aload_n F.1 F.2.1 dL_law_263 rfl (lv_at hl 2 rfl) ?_
    refine lv_aload_n F.1 F.2.1 dL_law_264 rfl (lv_at hl 4 rfl) ?_
    refine lv_iload F.1 F.2.1 dL_law_265 (lv_at hl 0 rfl) ?_
    refine rr_iconst F dL_law_267 ?_
    refine rr_iadd F (z := i + 1) dL_law_268 rfl ?_
    refine rr_sld F (A := fun q => s.heap.size ≤ q) hxs hb hbA hS (by omega) (by omega) hL dL_law_269 ?_
    refine rr_if_eq F (tgt := 277) dL_law_270 (by decide) (XI_r _ _) (fun z2 => ?_) (fun z2 => ?_)
    · exact absurd z2 z1
    · refine rr_iconst F dL_law_273 ?_
      refine lv_goto (tgt := 278) F.1 F.2.1 dL_law_274 (by decide) ?_
      refine rr_wrVp (rest := [vI (ferr tl tc 1)]) F hK (c_X7_errorPosition l D cy (w 0 0) (w 0 1) (w 0 2) (w 0 3) (w 0 4) (w 0 5) (w 0 6) tr ct tl tc 1 hT (by omega)) hP hD hS hA sf_X7_errorPosition tw928 7 rfl rfl ⟨Nat.le_of_ble_eq_true rfl, Nat.le_of_ble_eq_true rfl⟩ hl rfl (Nat.le_of_ble_eq_true rfl) dL_law_278 ⟨by show cells + 1 ≤ 601024; omega, by show slots + 6 ≤ 7293033; omega⟩ (pm_mT cy u w out tl tc ol ct tr fv a G ak Gk As Gs Ah Gh th ap asl of tl tc ct a fv) rfl (fun H locs hP hD hS _ => ?_)
      have hP : va_P D vwCl (LW cy u w out tl tc ol ct 0 fv a G ak Gk As Gs Ah Gh th ap asl of tl tc ct a fv) H := hP.perm ((pm_mT cy u w out tl tc ol ct 0 fv a G ak Gk As Gs Ah Gh th ap asl of tl tc ct a fv).symm)
      have hD : va_D (fun q => s.heap.size ≤ q) (LW cy u w out tl tc ol ct 0 fv a G ak Gk As Gs Ah Gh th ap asl of tl tc ct a fv) := hD.perm ((pm_mT cy u w out tl tc ol ct 0 fv a G ak Gk As Gs Ah Gh th ap asl of tl tc ct a fv).symm)
      refine rr_icmp_eq F (tgt := 2055) dL_law_281 (by decide) ⟨by omega, by omega⟩ ⟨by omega, by omega⟩ (fun _ => ?_) (fun z => absurd rfl z)
      have hP : va_P D vwCl (LW cy u w out tl tc ol ct 0 fv a G ak Gk As Gs Ah Gh th ap asl of tl tc ct a fv) H := hP
      have hD : va_D (fun q => s.heap.size ≤ q) (LW cy u w out tl tc ol ct 0 fv a G ak Gk As Gs Ah Gh th ap asl of tl tc ct a fv) := hD
      exact kk _ _ _ _ _ _ _ _ _ _ _ _ _ _ _ _ _ _ H locs ls (hI.mono (by omega)) hP hD hS hl
set_option maxRecDepth 100000 in
set_option maxHeartbeats 8000000 in
theorem lc_bestDirection {p : Program} {l : Launch} {e : Env} {s : State} {m : MethodId} {args : Array Value} {below : List Frame} {meth : Method} {c : Code} {Q : State → Prop} {b L : Nat} {xs : Nat → Int32} {D : va_G} {cy : Nat → ClassId} {sa : Nat → Nat} {u w : NU} {out : Nat} (hnt : l.stackTraces = false) (F : FX p m c cL_law 7 s args RL) (hK : KK D cy s) (hX : XK sa s) (hZ0 : ZK (fun q => s.heap.size ≤ q) s s.heap) (hxs : va_X b L xs s s.heap) (hb : b < s.heap.size) (hL : L ≤ 2560) {N : Int} {tl : Int} {tc : Int → Int} {ol : Int} {ct : Int} {tr : Int} {fv : Int → Int} {a : Int → Int} {G : Int → Int → Int} {ak : Int → Int} {Gk : Int → Int → Int} {As : Nat → Int → Int} {Gs : Nat → Int → Int → Int} {Ah : Nat → Int → Int} {Gh : Nat → Int → Int → Int} {th : Int → Int} {ap : Int → Int} {asl : Int → Int} {of : Nat → Int64} (hI : INV N tl tc ol ct fv a G As Gs Ah Gh ap asl) (hN : 0 ≤ N ∧ N ≤ 80000000) {i : Int} (hi : 0 ≤ i ∧ i + 5 ≤ L) {H : Heap} {locs : List Loc} {cells slots : Nat} {ls : Array Slot} (hP : va_P D vwCl (LW cy u w out tl tc ol ct tr fv a G ak Gk As Gs Ah Gh th ap asl of tl tc ct a fv) H) (hD : va_D (fun q => s.heap.size ≤ q) (LW cy u w out tl tc ol ct tr fv a G ak Gk As Gs Ah Gh th ap asl of tl tc ct a fv)) (hS : va_S (fun q => s.heap.size ≤ q) s.heap H locs) (hl : lv_has ls 7 [(4, vI i), (3, .ref out), (2, .ref (w 0 0)), (1, .ref (u 0 0)), (0, .ref b)]) (hc : cells + 1 ≤ 601024 ∧ slots + 6 ≤ 7293033) (kk : LK p l e s m args below meth c D cy u w out b (N + 50) i (cells + 1) (slots + 6) Q) : W p l e room_1 s m args below meth c H locs cells slots Q (F0 m 1662 ls []) := by
  have hT := hI.1
  obtain ⟨hZ, hSV, hsp0, hsp1⟩ := hI.2.1
  have hM := SB.mr hZ
  have hn0 := hM.n
  have hw0 := hM.nw
  have hc0 := hM.wc
  have hol := hI.2.2.1
  have hct := hI.2.2.2.1
  have hbA : ¬ (fun q => s.heap.size ≤ q) b := Nat.not_le.mpr hb
  have hA : ∀ q, s.heap.size ≤ q → (fun q => s.heap.size ≤ q) q := fun q h => h
  refine W.widen (k := cells + 1) (n := slots + 6) (by omega) (by omega) ?_
  have hv2 : inR (if sns (a 0) (rq a) (a 25) (rbl a) (rbc a) 0 < sns (a 0) (rq a) (a 25) (rbl a) (rbc a) 1 ∨ (sns (a 0) (rq a) (a 25) (rbl a) (rbc a) 1 = sns (a 0) (rq a) (a 25) (rbl a) (rbc a) 0 ∧ rdg (a 0) (rq a) (a 25) (rbl a) (rbc a) 0 < rdg (a 0) (rq a) (a 25) (rbl a) (rbc a) 1) then 1 else 0) := by split <;> exact ⟨by decide, by decide⟩
  refine lv_aload_n F.1 F.2.1 dL_law_1662 rfl (lv_at hl 3 rfl) ?_
  refine rr_rdVp (rest := []) F hK (c_X6_bestDirection l D cy (u 0 0) (u 1 0) (u 3 0) (u 4 0) (u 0 1) (u 0 2) (u 2 0) (u 2 6) (a 96) (a 117) (u 2 1) (u 2 2) (a 0) (G 0) (rq a) (u 2 3) (u 2 4) (u 2 5) (a 25) (G 6) (G 7) (rbl a) (rbc a) (SB.rg hZ) (SB.bk hZ)) hP (pm_cAB cy u w out tl tc ol ct tr fv a G ak Gk As Gs Ah Gh th ap asl of tl tc ct a fv) sf_X6_bestDirection tw199 6 rfl rfl ⟨Nat.le_of_ble_eq_true rfl, Nat.le_of_ble_eq_true rfl⟩ hl rfl (Nat.le_of_ble_eq_true rfl) dL_law_1663 ⟨by show cells + 1 ≤ 601024; omega, by show slots + 6 ≤ 7293033; omega⟩ ?_
  refine lv_aload_n F.1 F.2.1 dL_law_1666 rfl (lv_at hl 2 rfl) ?_
  refine rr_wrVp (rest := [vI (if sns (a 0) (rq a) (a 25) (rbl a) (rbc a) 0 < sns (a 0) (rq a) (a 25) (rbl a) (rbc a) 1 ∨ (sns (a 0) (rq a) (a 25) (rbl a) (rbc a) 1 = sns (a 0) (rq a) (a 25) (rbl a) (rbc a) 0 ∧ rdg (a 0) (rq a) (a 25) (rbl a) (rbc a) 0 < rdg (a 0) (rq a) (a 25) (rbl a) (rbc a) 1) then 1 else 0)]) F hK (c_X7_bestDirection l D cy (w 0 0) (w 0 1) (w 0 2) (w 0 3) (w 0 4) (w 0 5) (w 0 6) tr ct tl a hM) hP hD hS hA sf_X7_bestDirection tw1204 7 rfl rfl ⟨Nat.le_of_ble_eq_true rfl, Nat.le_of_ble_eq_true rfl⟩ hl rfl (Nat.le_of_ble_eq_true rfl) dL_law_1667 ⟨by show cells + 1 ≤ 601024; omega, by show slots + 6 ≤ 7293033; omega⟩ (pm_mN cy u w out tl tc ol ct tr fv a G ak Gk As Gs Ah Gh th ap asl of tl tc ct a fv) rfl (fun H locs hP hD hS _ => ?_)
  have hP : va_P D vwCl (LW cy u w out tl tc ol ct 0 fv a G ak Gk As Gs Ah Gh th ap asl of tl tc ct a fv) H := hP.perm ((pm_mN cy u w out tl tc ol ct 0 fv a G ak Gk As Gs Ah Gh th ap asl of tl tc ct a fv).symm)
  have hD : va_D (fun q => s.heap.size ≤ q) (LW cy u w out tl tc ol ct 0 fv a G ak Gk As Gs Ah Gh th ap asl of tl tc ct a fv) := hD.perm ((pm_mN cy u w out tl tc ol ct 0 fv a G ak Gk As Gs Ah Gh th ap asl of tl tc ct a fv).symm)
  refine rr_icmp_eq F (tgt := 2055) dL_law_1670 (by decide) hv2 hv2 (fun _ => ?_) (fun z => absurd rfl z)
  have hP : va_P D vwCl (LW cy u w out tl tc ol ct 0 fv a G ak Gk As Gs Ah Gh th ap asl of tl tc ct a fv) H := hP
  have hD : va_D (fun q => s.heap.size ≤ q) (LW cy u w out tl tc ol ct 0 fv a G ak Gk As Gs Ah Gh th ap asl of tl tc ct a fv) := hD
  exact kk _ _ _ _ _ _ _ _ _ _ _ _ _ _ _ _ _ _ H locs ls (hI.mono (by omega)) hP hD hS hl
