set_option maxRecDepth 100000 in
set_option maxHeartbeats 8000000 in
theorem lc_seesAll {p : Program} {l : Launch} {e : Env} {s : State} {m : MethodId} {args : Array Value} {below : List Frame} {meth : Method} {c : Code} {Q : State → Prop} {b L : Nat} {xs : Nat → Int32} {D : va_G} {cy : Nat → ClassId} {sa : Nat → Nat} {u w : NU} {out : Nat} (hnt : l.stackTraces = false) (F : FX p m c cL_law 7 s args RL) (hK : KK D cy s) (hX : XK sa s) (hZ0 : ZK (fun q => s.heap.size ≤ q) s s.heap) (hxs : va_X b L xs s s.heap) (hb : b < s.heap.size) (hL : L ≤ 2560) {N : Int} {tl : Int} {tc : Int → Int} {ol : Int} {ct : Int} {tr : Int} {fv : Int → Int} {a : Int → Int} {G : Int → Int → Int} {ak : Int → Int} {Gk : Int → Int → Int} {As : Nat → Int → Int} {Gs : Nat → Int → Int → Int} {Ah : Nat → Int → Int} {Gh : Nat → Int → Int → Int} {th : Int → Int} {ap : Int → Int} {asl : Int → Int} {of : Nat → Int64} (hI : INV N tl tc ol ct fv a G As Gs Ah Gh ap asl) (hN : 0 ≤ N ∧ N ≤ 80000000) {i : Int} (hi : 0 ≤ i ∧ i + 5 ≤ L) {H : Heap} {locs : List Loc} {cells slots : Nat} {ls : Array Slot} (hP : va_P D vwCl (LW cy u w out tl tc ol ct tr fv a G ak Gk As Gs Ah Gh th ap asl of tl tc ct a fv) H) (hD : va_D (fun q => s.heap.size ≤ q) (LW cy u w out tl tc ol ct tr fv a G ak Gk As Gs Ah Gh th ap asl of tl tc ct a fv)) (hS : va_S (fun q => s.heap.size ≤ q) s.heap H locs) (hl : lv_has ls 7 [(4, vI i), (3, .ref out), (2, .ref (w 0 0)), (1, .ref (u 0 0)), (0, .ref b)]) (hc : cells + 1 ≤ 601024 ∧ slots + 6 ≤ 7293033) (kk : LK p l e s m args below meth c D cy u w out b (N + 50) i (cells + 1) (slots + 6) Q) : W p l e room_1 s m args below meth c H locs cells slots Q (F0 m 1470 ls []) := by
  have hT := hI.1
  obtain ⟨hZ, hSV, hsp0, hsp1⟩ := hI.2.1
  have hM := SB.mr hZ
  have hn0 := hM.n
  have hw0 := hM.nw
  have hc0 := hM.wc
  have hol := hI.2.2.1
  have hct := hI.2.2.2.1
  have hbA : ¬ (fun q => s.heap.size ≤ q) b := Nat.not_le.mpr hb
  have hA : ∀ q, s.heap.size ≤ q → (fun q => s.heap.size ≤ q) q := fun q h => h
  have hZ1 : ZK nA s H := (hZ0.kept (fun a h1 h2 => hS.2.1 a h1 h2)).narrow (fun _ h => h.elim)
  refine lv_aload_n F.1 F.2.1 dL_law_1470 rfl (lv_at hl 3 rfl) ?_
  refine lv_aload_n F.1 F.2.1 dL_law_1471 rfl (lv_at hl 4 rfl) ?_
  refine lv_iload F.1 F.2.1 dL_law_1472 (lv_at hl 0 rfl) ?_
  refine rr_iconst F dL_law_1474 ?_
  refine rr_iadd F (z := i + 1) dL_law_1475 rfl ?_
  refine rr_sld F (A := fun q => s.heap.size ≤ q) hxs hb hbA hS (by omega) (by omega) hL dL_law_1476 ?_
  refine lv_aload_n F.1 F.2.1 dL_law_1477 rfl (lv_at hl 1 rfl) ?_
  have hb_1 := XI_b xs (i + 1)
  by_cases hx0 : 0 ≤ (XI xs (i + 1)) ∧ (XI xs (i + 1)) < (a 96)
  · refine W.widen (k := cells + 1) (n := slots + 6) (by omega) (by omega) ?_
    have hvr : inR (low (fun u_t => ac (a 0) ((G 1) (XI xs (i + 1))) ((G 2) (XI xs (i + 1))) ((G 3) (XI xs (i + 1))) ((G 4) (XI xs (i + 1))) ((G 5) (XI xs (i + 1))) (u_t + 1) = p2 (a 0) - 1) ((a 0) + 1)) := low_r _ (by omega)
    refine rr_wwS (rest := []) F hK (w_seesAll l D cy (u 0 0) (u 1 0) (u 3 0) (u 4 0) (u 0 1) (u 0 2) (u 2 0) (u 2 6) (fun i => u 2 (7 + Int.toNat i)) (a 96) (a 117) (G 1) (G 2) (G 3) (G 4) (G 5) (u 2 1) (u 2 2) (a 0) (G 0) (rq a) (u 2 3) (u 2 4) (u 2 5) (a 25) (G 6) (G 7) (rbl a) (rbc a) (XI xs (i + 1)) out of (SB.rg hZ) (SB.bk hZ) (SB.ws hZ) (by first | assumption | omega | exact ⟨by omega, by omega⟩) hvr) hP hD hS hA sfw_seesAll tw775 ⟨Nat.le_of_ble_eq_true rfl, Nat.le_of_ble_eq_true rfl⟩ hl rfl (Nat.le_of_ble_eq_true rfl) dL_law_1478 ⟨by show cells + 1 ≤ 601024; omega, by show slots + 6 ≤ 7293033; omega⟩ (pm_cABCO cy u w out tl tc ol ct tr fv a G ak Gk As Gs Ah Gh th ap asl of tl tc ct a fv) rfl (fun H locs hP hD hS _ => ?_)
    have hP : va_P D vwCl (LW cy u w out tl tc ol ct tr fv a G ak Gk As Gs Ah Gh th ap asl (vp_updL of 0 (lI (low (fun u_t => ac (a 0) ((G 1) (XI xs (i + 1))) ((G 2) (XI xs (i + 1))) ((G 3) (XI xs (i + 1))) ((G 4) (XI xs (i + 1))) ((G 5) (XI xs (i + 1))) (u_t + 1) = p2 (a 0) - 1) ((a 0) + 1)))) tl tc ct a fv) H := hP.perm ((pm_cABCO cy u w out tl tc ol ct tr fv a G ak Gk As Gs Ah Gh th ap asl (vp_updL of 0 (lI (low (fun u_t => ac (a 0) ((G 1) (XI xs (i + 1))) ((G 2) (XI xs (i + 1))) ((G 3) (XI xs (i + 1))) ((G 4) (XI xs (i + 1))) ((G 5) (XI xs (i + 1))) (u_t + 1) = p2 (a 0) - 1) ((a 0) + 1)))) tl tc ct a fv).symm)
    have hD : va_D (fun q => s.heap.size ≤ q) (LW cy u w out tl tc ol ct tr fv a G ak Gk As Gs Ah Gh th ap asl (vp_updL of 0 (lI (low (fun u_t => ac (a 0) ((G 1) (XI xs (i + 1))) ((G 2) (XI xs (i + 1))) ((G 3) (XI xs (i + 1))) ((G 4) (XI xs (i + 1))) ((G 5) (XI xs (i + 1))) (u_t + 1) = p2 (a 0) - 1) ((a 0) + 1)))) tl tc ct a fv) := hD.perm ((pm_cABCO cy u w out tl tc ol ct tr fv a G ak Gk As Gs Ah Gh th ap asl (vp_updL of 0 (lI (low (fun u_t => ac (a 0) ((G 1) (XI xs (i + 1))) ((G 2) (XI xs (i + 1))) ((G 3) (XI xs (i + 1))) ((G 4) (XI xs (i + 1))) ((G 5) (XI xs (i + 1))) (u_t + 1) = p2 (a 0) - 1) ((a 0) + 1)))) tl tc ct a fv).symm)
    refine lv_istore (lv' := [(5, vI 0), (4, vI i), (3, .ref out), (2, .ref (w 0 0)), (1, .ref (u 0 0)), (0, .ref b)]) F.1 F.2.1 dL_law_1481 hl (by decide) rfl (fun ls hl => ?_)
    refine lv_aload_n F.1 F.2.1 dL_law_1483 rfl (lv_at hl 3 rfl) ?_
    refine lv_aload_n F.1 F.2.1 dL_law_1484 rfl (lv_at hl 5 rfl) ?_
    refine lv_iload F.1 F.2.1 dL_law_1485 (lv_at hl 1 rfl) ?_
    refine rr_iconst F dL_law_1487 ?_
    refine rr_iadd F (z := i + 1) dL_law_1488 rfl ?_
    refine rr_sld F (A := fun q => s.heap.size ≤ q) hxs hb hbA hS (by omega) (by omega) hL dL_law_1489 ?_
    refine rr_wrVp (rest := []) F hK (c_X7_seesAll l D cy (w 0 0) (w 0 1) (w 0 2) (w 0 3) (w 0 4) (w 0 5) (w 0 6) tr ct tl a th (XI xs (i + 1)) hM (XI_r _ _) (by first | assumption | omega | exact ⟨by omega, by omega⟩)) hP hD hS hA sf_X7_seesAll tw1180 7 rfl rfl ⟨Nat.le_of_ble_eq_true rfl, Nat.le_of_ble_eq_true rfl⟩ hl rfl (Nat.le_of_ble_eq_true rfl) dL_law_1490 ⟨by show cells + 1 ≤ 601024; omega, by show slots + 6 ≤ 7293033; omega⟩ (pm_mNT cy u w out tl tc ol ct tr fv a G ak Gk As Gs Ah Gh th ap asl (vp_updL of 0 (lI (low (fun u_t => ac (a 0) ((G 1) (XI xs (i + 1))) ((G 2) (XI xs (i + 1))) ((G 3) (XI xs (i + 1))) ((G 4) (XI xs (i + 1))) ((G 5) (XI xs (i + 1))) (u_t + 1) = p2 (a 0) - 1) ((a 0) + 1)))) tl tc ct a fv) rfl (fun H locs hP hD hS _ => ?_)
    have hP : va_P D vwCl (LW cy u w out tl tc ol ct 0 fv a G ak Gk As Gs Ah Gh (stW a (XI xs (i + 1)) (r25 (low (fun u_t => cnt (bit (se (a 0) (a (97 + 5 * (XI xs (i + 1)) + 0)) (a (97 + 5 * (XI xs (i + 1)) + 1)) (a (97 + 5 * (XI xs (i + 1)) + 2)) (a (97 + 5 * (XI xs (i + 1)) + 3)) (a (97 + 5 * (XI xs (i + 1)) + 4)) u_t)) 24 = a 0) 25))) ap asl (vp_updL of 0 (lI (low (fun u_t => ac (a 0) ((G 1) (XI xs (i + 1))) ((G 2) (XI xs (i + 1))) ((G 3) (XI xs (i + 1))) ((G 4) (XI xs (i + 1))) ((G 5) (XI xs (i + 1))) (u_t + 1) = p2 (a 0) - 1) ((a 0) + 1)))) tl tc ct a fv) H := hP.perm ((pm_mNT cy u w out tl tc ol ct 0 fv a G ak Gk As Gs Ah Gh (stW a (XI xs (i + 1)) (r25 (low (fun u_t => cnt (bit (se (a 0) (a (97 + 5 * (XI xs (i + 1)) + 0)) (a (97 + 5 * (XI xs (i + 1)) + 1)) (a (97 + 5 * (XI xs (i + 1)) + 2)) (a (97 + 5 * (XI xs (i + 1)) + 3)) (a (97 + 5 * (XI xs (i + 1)) + 4)) u_t)) 24 = a 0) 25))) ap asl (vp_updL of 0 (lI (low (fun u_t => ac (a 0) ((G 1) (XI xs (i + 1))) ((G 2) (XI xs (i + 1))) ((G 3) (XI xs (i + 1))) ((G 4) (XI xs (i + 1))) ((G 5) (XI xs (i + 1))) (u_t + 1) = p2 (a 0) - 1) ((a 0) + 1)))) tl tc ct a fv).symm)
    have hD : va_D (fun q => s.heap.size ≤ q) (LW cy u w out tl tc ol ct 0 fv a G ak Gk As Gs Ah Gh (stW a (XI xs (i + 1)) (r25 (low (fun u_t => cnt (bit (se (a 0) (a (97 + 5 * (XI xs (i + 1)) + 0)) (a (97 + 5 * (XI xs (i + 1)) + 1)) (a (97 + 5 * (XI xs (i + 1)) + 2)) (a (97 + 5 * (XI xs (i + 1)) + 3)) (a (97 + 5 * (XI xs (i + 1)) + 4)) u_t)) 24 = a 0) 25))) ap asl (vp_updL of 0 (lI (low (fun u_t => ac (a 0) ((G 1) (XI xs (i + 1))) ((G 2) (XI xs (i + 1))) ((G 3) (XI xs (i + 1))) ((G 4) (XI xs (i + 1))) ((G 5) (XI xs (i + 1))) (u_t + 1) = p2 (a 0) - 1) ((a 0) + 1)))) tl tc ct a fv) := hD.perm ((pm_mNT cy u w out tl tc ol ct 0 fv a G ak Gk As Gs Ah Gh (stW a (XI xs (i + 1)) (r25 (low (fun u_t => cnt (bit (se (a 0) (a (97 + 5 * (XI xs (i + 1)) + 0)) (a (97 + 5 * (XI xs (i + 1)) + 1)) (a (97 + 5 * (XI xs (i + 1)) + 2)) (a (97 + 5 * (XI xs (i + 1)) + 3)) (a (97 + 5 * (XI xs (i + 1)) + 4)) u_t)) 24 = a 0) 25))) ap asl (vp_updL of 0 (lI (low (fun u_t => ac (a 0) ((G 1) (XI xs (i + 1))) ((G 2) (XI xs (i + 1))) ((G 3) (XI xs (i + 1))) ((G 4) (XI xs (i + 1))) ((G 5) (XI xs (i + 1))) (u_t + 1) = p2 (a 0) - 1) ((a 0) + 1)))) tl tc ct a fv).symm)
    have hP : va_P D vwCl (LW cy u w out tl tc ol ct 0 fv a G ak Gk As Gs Ah Gh (stW a (XI xs (i + 1)) (r25 (low (fun u_t => cnt (bit (se (a 0) (a (97 + 5 * (XI xs (i + 1)) + 0)) (a (97 + 5 * (XI xs (i + 1)) + 1)) (a (97 + 5 * (XI xs (i + 1)) + 2)) (a (97 + 5 * (XI xs (i + 1)) + 3)) (a (97 + 5 * (XI xs (i + 1)) + 4)) u_t)) 24 = a 0) 25))) ap asl (vp_updL of 0 (lI (low (fun u_t => ac (a 0) ((G 1) (XI xs (i + 1))) ((G 2) (XI xs (i + 1))) ((G 3) (XI xs (i + 1))) ((G 4) (XI xs (i + 1))) ((G 5) (XI xs (i + 1))) (u_t + 1) = p2 (a 0) - 1) ((a 0) + 1)))) tl tc ct a fv) H := hP
    have hD : va_D (fun q => s.heap.size ≤ q) (LW cy u w out tl tc ol ct 0 fv a G ak Gk As Gs Ah Gh (stW a (XI xs (i + 1)) (r25 (low (fun u_t => cnt (bit (se (a 0) (a (97 + 5 * (XI xs (i + 1)) + 0)) (a (97 + 5 * (XI xs (i + 1)) + 1)) (a (97 + 5 * (XI xs (i + 1)) + 2)) (a (97 + 5 * (XI xs (i + 1)) + 3)) (a (97 + 5 * (XI xs (i + 1)) + 4)) u_t)) 24 = a 0) 25))) ap asl (vp_updL of 0 (lI (low (fun u_t => ac (a 0) ((G 1) (XI xs (i + 1))) ((G 2) (XI xs (i + 1))) ((G 3) (XI xs (i + 1))) ((G 4) (XI xs (i + 1))) ((G 5) (XI xs (i + 1))) (u_t + 1) = p2 (a 0) - 1) ((a 0) + 1)))) tl tc ct a fv) := hD
    rw [show (low (fun u_t => cnt (bit (se (a 0) (a (97 + 5 * (XI xs (i + 1)) + 0)) (a (97 + 5 * (XI xs (i + 1)) + 1)) (a (97 + 5 * (XI xs (i + 1)) + 2)) (a (97 + 5 * (XI xs (i + 1)) + 3)) (a (97 + 5 * (XI xs (i + 1)) + 4)) u_t)) 24 = a 0) 25 : Int) = (low (fun u_t => ac (a 0) ((G 1) (XI xs (i + 1))) ((G 2) (XI xs (i + 1))) ((G 3) (XI xs (i + 1))) ((G 4) (XI xs (i + 1))) ((G 5) (XI xs (i + 1))) (u_t + 1) = p2 (a 0) - 1) ((a 0) + 1)) from lk_sees hZ hSV (by omega)]
    refine lv_istore (lv' := [(6, vI (low (fun u_t => ac (a 0) ((G 1) (XI xs (i + 1))) ((G 2) (XI xs (i + 1))) ((G 3) (XI xs (i + 1))) ((G 4) (XI xs (i + 1))) ((G 5) (XI xs (i + 1))) (u_t + 1) = p2 (a 0) - 1) ((a 0) + 1))), (5, vI 0), (4, vI i), (3, .ref out), (2, .ref (w 0 0)), (1, .ref (u 0 0)), (0, .ref b)]) F.1 F.2.1 dL_law_1493 hl (by decide) rfl (fun ls hl => ?_)
    refine lv_aload_n F.1 F.2.1 dL_law_1495 rfl (lv_at hl 4 rfl) ?_
    refine rr_rdVp (rest := []) F hK (c_X7_thrown l D cy (w 0 0) (w 0 1) (w 0 2) (w 0 3) (w 0 4) (w 0 5) (w 0 6) 0 ct tl) hP (pm_m0 cy u w out tl tc ol ct 0 fv a G ak Gk As Gs Ah Gh (stW a (XI xs (i + 1)) (r25 (low (fun u_t => cnt (bit (se (a 0) (a (97 + 5 * (XI xs (i + 1)) + 0)) (a (97 + 5 * (XI xs (i + 1)) + 1)) (a (97 + 5 * (XI xs (i + 1)) + 2)) (a (97 + 5 * (XI xs (i + 1)) + 3)) (a (97 + 5 * (XI xs (i + 1)) + 4)) u_t)) 24 = a 0) 25))) ap asl (vp_updL of 0 (lI (low (fun u_t => ac (a 0) ((G 1) (XI xs (i + 1))) ((G 2) (XI xs (i + 1))) ((G 3) (XI xs (i + 1))) ((G 4) (XI xs (i + 1))) ((G 5) (XI xs (i + 1))) (u_t + 1) = p2 (a 0) - 1) ((a 0) + 1)))) tl tc ct a fv) sf_X7_thrown tw902 7 rfl rfl ⟨Nat.le_of_ble_eq_true rfl, Nat.le_of_ble_eq_true rfl⟩ hl rfl (Nat.le_of_ble_eq_true rfl) dL_law_1496 ⟨by show cells + 1 ≤ 601024; omega, by show slots + 6 ≤ 7293033; omega⟩ ?_
    refine lv_iload F.1 F.2.1 dL_law_1499 (lv_at hl 1 rfl) ?_
    refine rr_icmp_eq F (tgt := 1506) dL_law_1501 (by decide) ⟨by omega, by omega⟩ ⟨by omega, by omega⟩ (fun _ => ?_) (fun z => absurd rfl z)
    refine lv_iload F.1 F.2.1 dL_law_1506 (lv_at hl 1 rfl) ?_
    refine rr_if_ne F (tgt := 1523) dL_law_1508 (by decide) ⟨by omega, by omega⟩ (fun z => absurd rfl z) (fun _ => ?_)
    refine lv_aload_n F.1 F.2.1 dL_law_1511 rfl (lv_at hl 3 rfl) ?_
    refine rr_iconst F dL_law_1512 ?_
    refine rr_lald0 F hK (hP.perm (pm_o cy u w out tl tc ol ct 0 fv a G ak Gk As Gs Ah Gh (stW a (XI xs (i + 1)) (r25 (low (fun u_t => cnt (bit (se (a 0) (a (97 + 5 * (XI xs (i + 1)) + 0)) (a (97 + 5 * (XI xs (i + 1)) + 1)) (a (97 + 5 * (XI xs (i + 1)) + 2)) (a (97 + 5 * (XI xs (i + 1)) + 3)) (a (97 + 5 * (XI xs (i + 1)) + 4)) u_t)) 24 = a 0) 25))) ap asl (vp_updL of 0 (lI (low (fun u_t => ac (a 0) ((G 1) (XI xs (i + 1))) ((G 2) (XI xs (i + 1))) ((G 3) (XI xs (i + 1))) ((G 4) (XI xs (i + 1))) ((G 5) (XI xs (i + 1))) (u_t + 1) = p2 (a 0) - 1) ((a 0) + 1)))) tl tc ct a fv)) 0 rfl dL_law_1513 ?_
    refine lv_iload F.1 F.2.1 dL_law_1514 (lv_at hl 0 rfl) ?_
    refine rr_i2l F dL_law_1516 hvr ?_
    refine rr_lcmp F (a := low (fun u_t => ac (a 0) ((G 1) (XI xs (i + 1))) ((G 2) (XI xs (i + 1))) ((G 3) (XI xs (i + 1))) ((G 4) (XI xs (i + 1))) ((G 5) (XI xs (i + 1))) (u_t + 1) = p2 (a 0) - 1) ((a 0) + 1)) (b := low (fun u_t => ac (a 0) ((G 1) (XI xs (i + 1))) ((G 2) (XI xs (i + 1))) ((G 3) (XI xs (i + 1))) ((G 4) (XI xs (i + 1))) ((G 5) (XI xs (i + 1))) (u_t + 1) = p2 (a 0) - 1) ((a 0) + 1)) dL_law_1517 (inL_r hvr) (inL_r hvr) ?_
    refine rr_if_eq F (tgt := 1523) dL_law_1518 (by decide) (lcm_r _ _) (fun _ => ?_) (fun z => absurd ((lcm_spec _ _).2.1.mpr rfl) z)
    refine lv_goto (tgt := 2055) F.1 F.2.1 dL_law_1523 (by decide) ?_
    exact kk _ _ _ _ _ _ _ _ _ _ _ _ _ _ _ _ _ _ H locs ls (hI.mono (by omega)) hP hD hS (lv_sub hl [2, 3, 4, 5, 6] rfl)
  · refine rr_twS (rest := []) F hK hX hZ1 (r_seesAll_11 l hnt D cy sa (u 0 0) (u 1 0) (u 2 0) (u 3 0) (u 4 0) (u 0 1) (u 0 2) (u 2 1) (u 2 3) (u 2 6) (a 96) (a 117) (XI xs (i + 1)) out hM.wc (XI_r _ _) (by first | assumption | omega | exact ⟨by omega, by omega⟩)) hP hS sfw_seesAll tw775 ⟨Nat.le_of_ble_eq_true rfl, Nat.le_of_ble_eq_true rfl⟩ hl rfl (Nat.le_of_ble_eq_true rfl) dL_law_1478 ⟨by show cells + 1 ≤ 601024; omega, by show slots + 6 ≤ 7293033; omega⟩ (pm_cA cy u w out tl tc ol ct tr fv a G ak Gk As Gs Ah Gh th ap asl of tl tc ct a fv) (fun H locs hP hS _ => ?_)
    refine lv_istore (lv' := [(5, vI 1), (4, vI i), (3, .ref out), (2, .ref (w 0 0)), (1, .ref (u 0 0)), (0, .ref b)]) F.1 F.2.1 dL_law_1481 hl (by decide) rfl (fun ls hl => ?_)
    refine lv_aload_n F.1 F.2.1 dL_law_1483 rfl (lv_at hl 3 rfl) ?_
    refine lv_aload_n F.1 F.2.1 dL_law_1484 rfl (lv_at hl 5 rfl) ?_
    refine lv_iload F.1 F.2.1 dL_law_1485 (lv_at hl 1 rfl) ?_
    refine rr_iconst F dL_law_1487 ?_
    refine rr_iadd F (z := i + 1) dL_law_1488 rfl ?_
    refine rr_sld F (A := fun q => s.heap.size ≤ q) hxs hb hbA hS (by omega) (by omega) hL dL_law_1489 ?_
    have hcode : (1 : Int) = 1 := by first | rfl | ((repeat' split) <;> first | rfl | omega)
    refine rr_wrVp (rest := []) F hK (n_X7_seesAll l D cy (w 0 0) (w 0 1) (w 0 2) (w 0 3) (w 0 4) (w 0 5) (w 0 6) tr ct tl a th (XI xs (i + 1)) hM (XI_r _ _) (by first | assumption | omega)) hP hD hS hA sf_X7_seesAll tw1180 7 rfl rfl ⟨Nat.le_of_ble_eq_true rfl, Nat.le_of_ble_eq_true rfl⟩ hl rfl (Nat.le_of_ble_eq_true rfl) dL_law_1490 ⟨by show cells + 1 ≤ 601024; omega, by show slots + 6 ≤ 7293033; omega⟩ (pm_mNT cy u w out tl tc ol ct tr fv a G ak Gk As Gs Ah Gh th ap asl of tl tc ct a fv) rfl (fun H locs hP hD hS _ => ?_)
    have hP : va_P D vwCl (LW cy u w out tl tc ol ct 1 fv a G ak Gk As Gs Ah Gh th ap asl of tl tc ct a fv) H := hP.perm ((pm_mNT cy u w out tl tc ol ct 1 fv a G ak Gk As Gs Ah Gh th ap asl of tl tc ct a fv).symm)
    have hD : va_D (fun q => s.heap.size ≤ q) (LW cy u w out tl tc ol ct 1 fv a G ak Gk As Gs Ah Gh th ap asl of tl tc ct a fv) := hD.perm ((pm_mNT cy u w out tl tc ol ct 1 fv a G ak Gk As Gs Ah Gh th ap asl of tl tc ct a fv).symm)
    refine lv_istore (lv' := [(6, vI 0), (5, vI 1), (4, vI i), (3, .ref out), (2, .ref (w 0 0)), (1, .ref (u 0 0)), (0, .ref b)]) F.1 F.2.1 dL_law_1493 hl (by decide) rfl (fun ls hl => ?_)
    refine lv_aload_n F.1 F.2.1 dL_law_1495 rfl (lv_at hl 4 rfl) ?_
    refine rr_rdVp (rest := []) F hK (c_X7_thrown l D cy (w 0 0) (w 0 1) (w 0 2) (w 0 3) (w 0 4) (w 0 5) (w 0 6) 1 ct tl) hP (pm_m0 cy u w out tl tc ol ct 1 fv a G ak Gk As Gs Ah Gh th ap asl of tl tc ct a fv) sf_X7_thrown tw902 7 rfl rfl ⟨Nat.le_of_ble_eq_true rfl, Nat.le_of_ble_eq_true rfl⟩ hl rfl (Nat.le_of_ble_eq_true rfl) dL_law_1496 ⟨by show cells + 1 ≤ 601024; omega, by show slots + 6 ≤ 7293033; omega⟩ ?_
    refine lv_iload F.1 F.2.1 dL_law_1499 (lv_at hl 1 rfl) ?_
    refine rr_icmp_eq F (tgt := 1506) dL_law_1501 (by decide) ⟨by omega, by omega⟩ ⟨by omega, by omega⟩ (fun _ => ?_) (fun z => absurd rfl z)
    refine lv_iload F.1 F.2.1 dL_law_1506 (lv_at hl 1 rfl) ?_
    refine rr_if_ne F (tgt := 1523) dL_law_1508 (by decide) ⟨by omega, by omega⟩ (fun _ => ?_) (fun z => by omega)
    refine lv_goto (tgt := 2055) F.1 F.2.1 dL_law_1523 (by decide) ?_
    exact kk _ _ _ _ _ _ _ _ _ _ _ _ _ _ _ _ _ _ H locs ls (hI.mono (by omega)) hP hD hS (lv_sub hl [2, 3, 4, 5, 6] rfl)
set_option maxRecDepth 100000 in
set_option maxHeartbeats 8000000 in
theorem lc_ifWorn {p : Program} {l : Launch} {e : Env} {s : State} {m : MethodId} {args : Array Value} {below : List Frame} {meth : Method} {c : Code} {Q : State → Prop} {b L : Nat} {xs : Nat → Int32} {D : va_G} {cy : Nat → ClassId} {sa : Nat → Nat} {u w : NU} {out : Nat} (hnt : l.stackTraces = false) (F : FX p m c cL_law 7 s args RL) (hK : KK D cy s) (hX : XK sa s) (hZ0 : ZK (fun q => s.heap.size ≤ q) s s.heap) (hxs : va_X b L xs s s.heap) (hb : b < s.heap.size) (hL : L ≤ 2560) {N : Int} {tl : Int} {tc : Int → Int} {ol : Int} {ct : Int} {tr : Int} {fv : Int → Int} {a : Int → Int} {G : Int → Int → Int} {ak : Int → Int} {Gk : Int → Int → Int} {As : Nat → Int → Int} {Gs : Nat → Int → Int → Int} {Ah : Nat → Int → Int} {Gh : Nat → Int → Int → Int} {th : Int → Int} {ap : Int → Int} {asl : Int → Int} {of : Nat → Int64} (hI : INV N tl tc ol ct fv a G As Gs Ah Gh ap asl) (hN : 0 ≤ N ∧ N ≤ 80000000) {i : Int} (hi : 0 ≤ i ∧ i + 5 ≤ L) {H : Heap} {locs : List Loc} {cells slots : Nat} {ls : Array Slot} (hP : va_P D vwCl (LW cy u w out tl tc ol ct tr fv a G ak Gk As Gs Ah Gh th ap asl of tl tc ct a fv) H) (hD : va_D (fun q => s.heap.size ≤ q) (LW cy u w out tl tc ol ct tr fv a G ak Gk As Gs Ah Gh th ap asl of tl tc ct a fv)) (hS : va_S (fun q => s.heap.size ≤ q) s.heap H locs) (hl : lv_has ls 7 [(4, vI i), (3, .ref out), (2, .ref (w 0 0)), (1, .ref (u 0 0)), (0, .ref b)]) (hc : cells + 1 ≤ 601024 ∧ slots + 6 ≤ 7293033) (kk : LK p l e s m args below meth c D cy u w out b (N + 50) i (cells + 1) (slots + 6) Q) : W p l e room_1 s m args below meth c H locs cells slots Q (F0 m 1526 ls []) := by
  have hT := hI.1
  obtain ⟨hZ, hSV, hsp0, hsp1⟩ := hI.2.1
  have hM := SB.mr hZ
  have hn0 := hM.n
  have hw0 := hM.nw
  have hc0 := hM.wc
  have hol := hI.2.2.1
  have hct := hI.2.2.2.1
  have hbA : ¬ (fun q => s.heap.size ≤ q) b := Nat.not_le.mpr hb
  have hA : ∀ q, s.heap.size ≤ q → (fun q => s.heap.size ≤ q) q := fun q h => h
  have hZ1 : ZK nA s H := (hZ0.kept (fun a h1 h2 => hS.2.1 a h1 h2)).narrow (fun _ h => h.elim)
  refine lv_aload_n F.1 F.2.1 dL_law_1526 rfl (lv_at hl 3 rfl) ?_
  refine lv_aload_n F.1 F.2.1 dL_law_1527 rfl (lv_at hl 4 rfl) ?_
  refine lv_iload F.1 F.2.1 dL_law_1528 (lv_at hl 0 rfl) ?_
  refine rr_iconst F dL_law_1530 ?_
  refine rr_iadd F (z := i + 1) dL_law_1531 rfl ?_
  refine rr_sld F (A := fun q => s.heap.size ≤ q) hxs hb hbA hS (by omega) (by omega) hL dL_law_1532 ?_
  refine lv_aload_n F.1 F.2.1 dL_law_1533 rfl (lv_at hl 4 rfl) ?_
  refine lv_iload F.1 F.2.1 dL_law_1534 (lv_at hl 0 rfl) ?_
  refine rr_iconst F dL_law_1536 ?_
  refine rr_iadd F (z := i + 2) dL_law_1537 rfl ?_
  refine rr_sld F (A := fun q => s.heap.size ≤ q) hxs hb hbA hS (by omega) (by omega) hL dL_law_1538 ?_
  refine lv_aload_n F.1 F.2.1 dL_law_1539 rfl (lv_at hl 1 rfl) ?_
  have hb_1 := XI_b xs (i + 1)
  have hb_2 := XI_b xs (i + 2)
  by_cases hx0 : (0 ≤ (XI xs (i + 1)) ∧ (XI xs (i + 1)) < a 0) ∧ 0 ≤ (XI xs (i + 2)) ∧ (XI xs (i + 2)) ≤ 1
  · refine W.widen (k := cells + 1) (n := slots + 6) (by omega) (by omega) ?_
    have hvr : inR (rdg ((tryR a 2 (XI xs (i + 1)) 0) 0) (rq (tryR a 2 (XI xs (i + 1)) 0)) ((tryR a 2 (XI xs (i + 1)) 0) 25) (rbl (tryR a 2 (XI xs (i + 1)) 0)) (rbc (tryR a 2 (XI xs (i + 1)) 0)) (XI xs (i + 2))) := rdg_r (SBG_try hZ (kd := 2) (by omega)).mr
    refine rr_wwS (rest := []) F hK (w_ifWorn l D cy (u 0 0) (u 1 0) (u 4 0) (u 0 1) (u 0 2) (u 2 0) (u 2 1) (u 2 2) (u 2 3) (u 2 4) (u 2 5) (u 2 6) (fun i => u 2 (7 + Int.toNat i)) (u 3 0) (u 3 1) (u 3 2) (u 3 3) (u 3 4) (u 3 5) (u 3 6) (fun i => u 3 (7 + Int.toNat i)) a ak G Gk (XI xs (i + 1)) (XI xs (i + 2)) out of hZ (by first | assumption | omega | exact ⟨by omega, by omega⟩) (by first | assumption | omega | exact ⟨by omega, by omega⟩) hvr) hP hD hS hA sfw_ifWorn tw786 ⟨Nat.le_of_ble_eq_true rfl, Nat.le_of_ble_eq_true rfl⟩ hl rfl (Nat.le_of_ble_eq_true rfl) dL_law_1540 ⟨by show cells + 1 ≤ 601024; omega, by show slots + 6 ≤ 7293033; omega⟩ (pm_cK cy u w out tl tc ol ct tr fv a G ak Gk As Gs Ah Gh th ap asl of tl tc ct a fv) rfl (fun H locs hP hD hS _ => ?_)
    have hP : va_P D vwCl (LW cy u w out tl tc ol ct tr fv a G (tryR a 2 (XI xs (i + 1)) 0) (GTry a G 2 (XI xs (i + 1)) 0) As Gs Ah Gh th ap asl (vp_updL of 0 (lI (rdg ((tryR a 2 (XI xs (i + 1)) 0) 0) (rq (tryR a 2 (XI xs (i + 1)) 0)) ((tryR a 2 (XI xs (i + 1)) 0) 25) (rbl (tryR a 2 (XI xs (i + 1)) 0)) (rbc (tryR a 2 (XI xs (i + 1)) 0)) (XI xs (i + 2))))) tl tc ct a fv) H := hP.perm ((pm_cK cy u w out tl tc ol ct tr fv a G (tryR a 2 (XI xs (i + 1)) 0) (GTry a G 2 (XI xs (i + 1)) 0) As Gs Ah Gh th ap asl (vp_updL of 0 (lI (rdg ((tryR a 2 (XI xs (i + 1)) 0) 0) (rq (tryR a 2 (XI xs (i + 1)) 0)) ((tryR a 2 (XI xs (i + 1)) 0) 25) (rbl (tryR a 2 (XI xs (i + 1)) 0)) (rbc (tryR a 2 (XI xs (i + 1)) 0)) (XI xs (i + 2))))) tl tc ct a fv).symm)
    have hD : va_D (fun q => s.heap.size ≤ q) (LW cy u w out tl tc ol ct tr fv a G (tryR a 2 (XI xs (i + 1)) 0) (GTry a G 2 (XI xs (i + 1)) 0) As Gs Ah Gh th ap asl (vp_updL of 0 (lI (rdg ((tryR a 2 (XI xs (i + 1)) 0) 0) (rq (tryR a 2 (XI xs (i + 1)) 0)) ((tryR a 2 (XI xs (i + 1)) 0) 25) (rbl (tryR a 2 (XI xs (i + 1)) 0)) (rbc (tryR a 2 (XI xs (i + 1)) 0)) (XI xs (i + 2))))) tl tc ct a fv) := hD.perm ((pm_cK cy u w out tl tc ol ct tr fv a G (tryR a 2 (XI xs (i + 1)) 0) (GTry a G 2 (XI xs (i + 1)) 0) As Gs Ah Gh th ap asl (vp_updL of 0 (lI (rdg ((tryR a 2 (XI xs (i + 1)) 0) 0) (rq (tryR a 2 (XI xs (i + 1)) 0)) ((tryR a 2 (XI xs (i + 1)) 0) 25) (rbl (tryR a 2 (XI xs (i + 1)) 0)) (rbc (tryR a 2 (XI xs (i + 1)) 0)) (XI xs (i + 2))))) tl tc ct a fv).symm)
    refine lv_istore (lv' := [(5, vI 0), (4, vI i), (3, .ref out), (2, .ref (w 0 0)), (1, .ref (u 0 0)), (0, .ref b)]) F.1 F.2.1 dL_law_1543 hl (by decide) rfl (fun ls hl => ?_)
    refine lv_aload_n F.1 F.2.1 dL_law_1545 rfl (lv_at hl 3 rfl) ?_
    refine lv_aload_n F.1 F.2.1 dL_law_1546 rfl (lv_at hl 5 rfl) ?_
    refine lv_iload F.1 F.2.1 dL_law_1547 (lv_at hl 1 rfl) ?_
    refine rr_iconst F dL_law_1549 ?_
    refine rr_iadd F (z := i + 1) dL_law_1550 rfl ?_
    refine rr_sld F (A := fun q => s.heap.size ≤ q) hxs hb hbA hS (by omega) (by omega) hL dL_law_1551 ?_
    refine lv_aload_n F.1 F.2.1 dL_law_1552 rfl (lv_at hl 5 rfl) ?_
    refine lv_iload F.1 F.2.1 dL_law_1553 (lv_at hl 1 rfl) ?_
    refine rr_iconst F dL_law_1555 ?_
    refine rr_iadd F (z := i + 2) dL_law_1556 rfl ?_
    refine rr_sld F (A := fun q => s.heap.size ≤ q) hxs hb hbA hS (by omega) (by omega) hL dL_law_1557 ?_
    refine rr_wrVp (rest := []) F hK (c_X7_ifWorn l D cy (w 0 0) (w 0 1) (w 0 2) (w 0 3) (w 0 4) (w 0 5) (w 0 6) tr ct tl a th (XI xs (i + 1)) (XI xs (i + 2)) hM (XI_r _ _) (XI_r _ _) (by first | assumption | omega | exact ⟨by omega, by omega⟩) (by first | assumption | omega | exact ⟨by omega, by omega⟩)) hP hD hS hA sf_X7_ifWorn tw1188 7 rfl rfl ⟨Nat.le_of_ble_eq_true rfl, Nat.le_of_ble_eq_true rfl⟩ hl rfl (Nat.le_of_ble_eq_true rfl) dL_law_1558 ⟨by show cells + 1 ≤ 601024; omega, by show slots + 6 ≤ 7293033; omega⟩ (pm_mNT cy u w out tl tc ol ct tr fv a G (tryR a 2 (XI xs (i + 1)) 0) (GTry a G 2 (XI xs (i + 1)) 0) As Gs Ah Gh th ap asl (vp_updL of 0 (lI (rdg ((tryR a 2 (XI xs (i + 1)) 0) 0) (rq (tryR a 2 (XI xs (i + 1)) 0)) ((tryR a 2 (XI xs (i + 1)) 0) 25) (rbl (tryR a 2 (XI xs (i + 1)) 0)) (rbc (tryR a 2 (XI xs (i + 1)) 0)) (XI xs (i + 2))))) tl tc ct a fv) rfl (fun H locs hP hD hS _ => ?_)
    have hP : va_P D vwCl (LW cy u w out tl tc ol ct 0 fv a G (tryR a 2 (XI xs (i + 1)) 0) (GTry a G 2 (XI xs (i + 1)) 0) As Gs Ah Gh (updZ a (1 + (XI xs (i + 1))) (if a (1 + (XI xs (i + 1))) = 0 then 0 else 9)) ap asl (vp_updL of 0 (lI (rdg ((tryR a 2 (XI xs (i + 1)) 0) 0) (rq (tryR a 2 (XI xs (i + 1)) 0)) ((tryR a 2 (XI xs (i + 1)) 0) 25) (rbl (tryR a 2 (XI xs (i + 1)) 0)) (rbc (tryR a 2 (XI xs (i + 1)) 0)) (XI xs (i + 2))))) tl tc ct a fv) H := hP.perm ((pm_mNT cy u w out tl tc ol ct 0 fv a G (tryR a 2 (XI xs (i + 1)) 0) (GTry a G 2 (XI xs (i + 1)) 0) As Gs Ah Gh (updZ a (1 + (XI xs (i + 1))) (if a (1 + (XI xs (i + 1))) = 0 then 0 else 9)) ap asl (vp_updL of 0 (lI (rdg ((tryR a 2 (XI xs (i + 1)) 0) 0) (rq (tryR a 2 (XI xs (i + 1)) 0)) ((tryR a 2 (XI xs (i + 1)) 0) 25) (rbl (tryR a 2 (XI xs (i + 1)) 0)) (rbc (tryR a 2 (XI xs (i + 1)) 0)) (XI xs (i + 2))))) tl tc ct a fv).symm)
    have hD : va_D (fun q => s.heap.size ≤ q) (LW cy u w out tl tc ol ct 0 fv a G (tryR a 2 (XI xs (i + 1)) 0) (GTry a G 2 (XI xs (i + 1)) 0) As Gs Ah Gh (updZ a (1 + (XI xs (i + 1))) (if a (1 + (XI xs (i + 1))) = 0 then 0 else 9)) ap asl (vp_updL of 0 (lI (rdg ((tryR a 2 (XI xs (i + 1)) 0) 0) (rq (tryR a 2 (XI xs (i + 1)) 0)) ((tryR a 2 (XI xs (i + 1)) 0) 25) (rbl (tryR a 2 (XI xs (i + 1)) 0)) (rbc (tryR a 2 (XI xs (i + 1)) 0)) (XI xs (i + 2))))) tl tc ct a fv) := hD.perm ((pm_mNT cy u w out tl tc ol ct 0 fv a G (tryR a 2 (XI xs (i + 1)) 0) (GTry a G 2 (XI xs (i + 1)) 0) As Gs Ah Gh (updZ a (1 + (XI xs (i + 1))) (if a (1 + (XI xs (i + 1))) = 0 then 0 else 9)) ap asl (vp_updL of 0 (lI (rdg ((tryR a 2 (XI xs (i + 1)) 0) 0) (rq (tryR a 2 (XI xs (i + 1)) 0)) ((tryR a 2 (XI xs (i + 1)) 0) 25) (rbl (tryR a 2 (XI xs (i + 1)) 0)) (rbc (tryR a 2 (XI xs (i + 1)) 0)) (XI xs (i + 2))))) tl tc ct a fv).symm)
    have hP : va_P D vwCl (LW cy u w out tl tc ol ct 0 fv a G (tryR a 2 (XI xs (i + 1)) 0) (GTry a G 2 (XI xs (i + 1)) 0) As Gs Ah Gh (updZ a (1 + (XI xs (i + 1))) (if a (1 + (XI xs (i + 1))) = 0 then 0 else 9)) ap asl (vp_updL of 0 (lI (rdg ((tryR a 2 (XI xs (i + 1)) 0) 0) (rq (tryR a 2 (XI xs (i + 1)) 0)) ((tryR a 2 (XI xs (i + 1)) 0) 25) (rbl (tryR a 2 (XI xs (i + 1)) 0)) (rbc (tryR a 2 (XI xs (i + 1)) 0)) (XI xs (i + 2))))) tl tc ct a fv) H := hP
    have hD : va_D (fun q => s.heap.size ≤ q) (LW cy u w out tl tc ol ct 0 fv a G (tryR a 2 (XI xs (i + 1)) 0) (GTry a G 2 (XI xs (i + 1)) 0) As Gs Ah Gh (updZ a (1 + (XI xs (i + 1))) (if a (1 + (XI xs (i + 1))) = 0 then 0 else 9)) ap asl (vp_updL of 0 (lI (rdg ((tryR a 2 (XI xs (i + 1)) 0) 0) (rq (tryR a 2 (XI xs (i + 1)) 0)) ((tryR a 2 (XI xs (i + 1)) 0) 25) (rbl (tryR a 2 (XI xs (i + 1)) 0)) (rbc (tryR a 2 (XI xs (i + 1)) 0)) (XI xs (i + 2))))) tl tc ct a fv) := hD
    rw [show (rdg ((updZ a (1 + (XI xs (i + 1))) (if a (1 + (XI xs (i + 1))) = 0 then 0 else 9)) 0) (rq (updZ a (1 + (XI xs (i + 1))) (if a (1 + (XI xs (i + 1))) = 0 then 0 else 9))) ((updZ a (1 + (XI xs (i + 1))) (if a (1 + (XI xs (i + 1))) = 0 then 0 else 9)) 25) (rbl (updZ a (1 + (XI xs (i + 1))) (if a (1 + (XI xs (i + 1))) = 0 then 0 else 9))) (rbc (updZ a (1 + (XI xs (i + 1))) (if a (1 + (XI xs (i + 1))) = 0 then 0 else 9))) (XI xs (i + 2)) : Int) = (rdg ((tryR a 2 (XI xs (i + 1)) 0) 0) (rq (tryR a 2 (XI xs (i + 1)) 0)) ((tryR a 2 (XI xs (i + 1)) 0) 25) (rbl (tryR a 2 (XI xs (i + 1)) 0)) (rbc (tryR a 2 (XI xs (i + 1)) 0)) (XI xs (i + 2))) from lk_worn (by omega)]
    refine lv_istore (lv' := [(6, vI (rdg ((tryR a 2 (XI xs (i + 1)) 0) 0) (rq (tryR a 2 (XI xs (i + 1)) 0)) ((tryR a 2 (XI xs (i + 1)) 0) 25) (rbl (tryR a 2 (XI xs (i + 1)) 0)) (rbc (tryR a 2 (XI xs (i + 1)) 0)) (XI xs (i + 2)))), (5, vI 0), (4, vI i), (3, .ref out), (2, .ref (w 0 0)), (1, .ref (u 0 0)), (0, .ref b)]) F.1 F.2.1 dL_law_1561 hl (by decide) rfl (fun ls hl => ?_)
    refine lv_aload_n F.1 F.2.1 dL_law_1563 rfl (lv_at hl 4 rfl) ?_
    refine rr_rdVp (rest := []) F hK (c_X7_thrown l D cy (w 0 0) (w 0 1) (w 0 2) (w 0 3) (w 0 4) (w 0 5) (w 0 6) 0 ct tl) hP (pm_m0 cy u w out tl tc ol ct 0 fv a G (tryR a 2 (XI xs (i + 1)) 0) (GTry a G 2 (XI xs (i + 1)) 0) As Gs Ah Gh (updZ a (1 + (XI xs (i + 1))) (if a (1 + (XI xs (i + 1))) = 0 then 0 else 9)) ap asl (vp_updL of 0 (lI (rdg ((tryR a 2 (XI xs (i + 1)) 0) 0) (rq (tryR a 2 (XI xs (i + 1)) 0)) ((tryR a 2 (XI xs (i + 1)) 0) 25) (rbl (tryR a 2 (XI xs (i + 1)) 0)) (rbc (tryR a 2 (XI xs (i + 1)) 0)) (XI xs (i + 2))))) tl tc ct a fv) sf_X7_thrown tw902 7 rfl rfl ⟨Nat.le_of_ble_eq_true rfl, Nat.le_of_ble_eq_true rfl⟩ hl rfl (Nat.le_of_ble_eq_true rfl) dL_law_1564 ⟨by show cells + 1 ≤ 601024; omega, by show slots + 6 ≤ 7293033; omega⟩ ?_
    refine lv_iload F.1 F.2.1 dL_law_1567 (lv_at hl 1 rfl) ?_
    refine rr_icmp_eq F (tgt := 1574) dL_law_1569 (by decide) ⟨by omega, by omega⟩ ⟨by omega, by omega⟩ (fun _ => ?_) (fun z => absurd rfl z)
    refine lv_iload F.1 F.2.1 dL_law_1574 (lv_at hl 1 rfl) ?_
    refine rr_if_ne F (tgt := 1591) dL_law_1576 (by decide) ⟨by omega, by omega⟩ (fun z => absurd rfl z) (fun _ => ?_)
    refine lv_aload_n F.1 F.2.1 dL_law_1579 rfl (lv_at hl 3 rfl) ?_
    refine rr_iconst F dL_law_1580 ?_
    refine rr_lald0 F hK (hP.perm (pm_o cy u w out tl tc ol ct 0 fv a G (tryR a 2 (XI xs (i + 1)) 0) (GTry a G 2 (XI xs (i + 1)) 0) As Gs Ah Gh (updZ a (1 + (XI xs (i + 1))) (if a (1 + (XI xs (i + 1))) = 0 then 0 else 9)) ap asl (vp_updL of 0 (lI (rdg ((tryR a 2 (XI xs (i + 1)) 0) 0) (rq (tryR a 2 (XI xs (i + 1)) 0)) ((tryR a 2 (XI xs (i + 1)) 0) 25) (rbl (tryR a 2 (XI xs (i + 1)) 0)) (rbc (tryR a 2 (XI xs (i + 1)) 0)) (XI xs (i + 2))))) tl tc ct a fv)) 0 rfl dL_law_1581 ?_
    refine lv_iload F.1 F.2.1 dL_law_1582 (lv_at hl 0 rfl) ?_
    refine rr_i2l F dL_law_1584 hvr ?_
    refine rr_lcmp F (a := rdg ((tryR a 2 (XI xs (i + 1)) 0) 0) (rq (tryR a 2 (XI xs (i + 1)) 0)) ((tryR a 2 (XI xs (i + 1)) 0) 25) (rbl (tryR a 2 (XI xs (i + 1)) 0)) (rbc (tryR a 2 (XI xs (i + 1)) 0)) (XI xs (i + 2))) (b := rdg ((tryR a 2 (XI xs (i + 1)) 0) 0) (rq (tryR a 2 (XI xs (i + 1)) 0)) ((tryR a 2 (XI xs (i + 1)) 0) 25) (rbl (tryR a 2 (XI xs (i + 1)) 0)) (rbc (tryR a 2 (XI xs (i + 1)) 0)) (XI xs (i + 2))) dL_law_1585 (inL_r hvr) (inL_r hvr) ?_
    refine rr_if_eq F (tgt := 1591) dL_law_1586 (by decide) (lcm_r _ _) (fun _ => ?_) (fun z => absurd ((lcm_spec _ _).2.1.mpr rfl) z)
    refine lv_goto (tgt := 2055) F.1 F.2.1 dL_law_1591 (by decide) ?_
    exact kk _ _ _ _ _ _ _ _ _ _ _ _ _ _ _ _ _ _ H locs ls (hI.mono (by omega)) hP hD hS (lv_sub hl [2, 3, 4, 5, 6] rfl)
  · refine rr_twS (rest := []) F hK hX hZ1 (r_ifWorn_21 l hnt D cy sa (u 0 0) (u 1 0) (u 3 0) (u 4 0) (u 0 1) (u 0 2) (u 2 0) (u 2 6) (a 96) (a 117) (u 2 1) (u 2 2) (a 0) (G 0) (rq a) (u 2 3) (u 2 4) (u 2 5) (a 25) (G 6) (G 7) (rbl a) (rbc a) (XI xs (i + 1)) (XI xs (i + 2)) out (SB.rg hZ) (SB.bk hZ) (XI_r _ _) (XI_r _ _) (by first | assumption | omega | exact ⟨by omega, by omega⟩)) hP hS sfw_ifWorn tw786 ⟨Nat.le_of_ble_eq_true rfl, Nat.le_of_ble_eq_true rfl⟩ hl rfl (Nat.le_of_ble_eq_true rfl) dL_law_1540 ⟨by show cells + 1 ≤ 601024; omega, by show slots + 6 ≤ 7293033; omega⟩ (pm_cAB cy u w out tl tc ol ct tr fv a G ak Gk As Gs Ah Gh th ap asl of tl tc ct a fv) (fun H locs hP hS _ => ?_)
    refine lv_istore (lv' := [(5, vI 1), (4, vI i), (3, .ref out), (2, .ref (w 0 0)), (1, .ref (u 0 0)), (0, .ref b)]) F.1 F.2.1 dL_law_1543 hl (by decide) rfl (fun ls hl => ?_)
    refine lv_aload_n F.1 F.2.1 dL_law_1545 rfl (lv_at hl 3 rfl) ?_
    refine lv_aload_n F.1 F.2.1 dL_law_1546 rfl (lv_at hl 5 rfl) ?_
    refine lv_iload F.1 F.2.1 dL_law_1547 (lv_at hl 1 rfl) ?_
    refine rr_iconst F dL_law_1549 ?_
    refine rr_iadd F (z := i + 1) dL_law_1550 rfl ?_
    refine rr_sld F (A := fun q => s.heap.size ≤ q) hxs hb hbA hS (by omega) (by omega) hL dL_law_1551 ?_
    refine lv_aload_n F.1 F.2.1 dL_law_1552 rfl (lv_at hl 5 rfl) ?_
    refine lv_iload F.1 F.2.1 dL_law_1553 (lv_at hl 1 rfl) ?_
    refine rr_iconst F dL_law_1555 ?_
    refine rr_iadd F (z := i + 2) dL_law_1556 rfl ?_
    refine rr_sld F (A := fun q => s.heap.size ≤ q) hxs hb hbA hS (by omega) (by omega) hL dL_law_1557 ?_
    have hcode : (1 : Int) = 1 := by first | rfl | ((repeat' split) <;> first | rfl | omega)
    refine rr_wrVp (rest := []) F hK (n_X7_ifWorn l D cy (w 0 0) (w 0 1) (w 0 2) (w 0 3) (w 0 4) (w 0 5) (w 0 6) tr ct tl a th (XI xs (i + 1)) (XI xs (i + 2)) hM (XI_r _ _) (XI_r _ _) (by first | assumption | omega)) hP hD hS hA sf_X7_ifWorn tw1188 7 rfl rfl ⟨Nat.le_of_ble_eq_true rfl, Nat.le_of_ble_eq_true rfl⟩ hl rfl (Nat.le_of_ble_eq_true rfl) dL_law_1558 ⟨by show cells + 1 ≤ 601024; omega, by show slots + 6 ≤ 7293033; omega⟩ (pm_mNT cy u w out tl tc ol ct tr fv a G ak Gk As Gs Ah Gh th ap asl of tl tc ct a fv) rfl (fun H locs hP hD hS _ => ?_)
    have hP : va_P D vwCl (LW cy u w out tl tc ol ct 1 fv a G ak Gk As Gs Ah Gh th ap asl of tl tc ct a fv) H := hP.perm ((pm_mNT cy u w out tl tc ol ct 1 fv a G ak Gk As Gs Ah Gh th ap asl of tl tc ct a fv).symm)
    have hD : va_D (fun q => s.heap.size ≤ q) (LW cy u w out tl tc ol ct 1 fv a G ak Gk As Gs Ah Gh th ap asl of tl tc ct a fv) := hD.perm ((pm_mNT cy u w out tl tc ol ct 1 fv a G ak Gk As Gs Ah Gh th ap asl of tl tc ct a fv).symm)
    refine lv_istore (lv' := [(6, vI 0), (5, vI 1), (4, vI i), (3, .ref out), (2, .ref (w 0 0)), (1, .ref (u 0 0)), (0, .ref b)]) F.1 F.2.1 dL_law_1561 hl (by decide) rfl (fun ls hl => ?_)
    refine lv_aload_n F.1 F.2.1 dL_law_1563 rfl (lv_at hl 4 rfl) ?_
    refine rr_rdVp (rest := []) F hK (c_X7_thrown l D cy (w 0 0) (w 0 1) (w 0 2) (w 0 3) (w 0 4) (w 0 5) (w 0 6) 1 ct tl) hP (pm_m0 cy u w out tl tc ol ct 1 fv a G ak Gk As Gs Ah Gh th ap asl of tl tc ct a fv) sf_X7_thrown tw902 7 rfl rfl ⟨Nat.le_of_ble_eq_true rfl, Nat.le_of_ble_eq_true rfl⟩ hl rfl (Nat.le_of_ble_eq_true rfl) dL_law_1564 ⟨by show cells + 1 ≤ 601024; omega, by show slots + 6 ≤ 7293033; omega⟩ ?_
    refine lv_iload F.1 F.2.1 dL_law_1567 (lv_at hl 1 rfl) ?_
    refine rr_icmp_eq F (tgt := 1574) dL_law_1569 (by decide) ⟨by omega, by omega⟩ ⟨by omega, by omega⟩ (fun _ => ?_) (fun z => absurd rfl z)
    refine lv_iload F.1 F.2.1 dL_law_1574 (lv_at hl 1 rfl) ?_
    refine rr_if_ne F (tgt := 1591) dL_law_1576 (by decide) ⟨by omega, by omega⟩ (fun _ => ?_) (fun z => by omega)
    refine lv_goto (tgt := 2055) F.1 F.2.1 dL_law_1591 (by decide) ?_
    exact kk _ _ _ _ _ _ _ _ _ _ _ _ _ _ _ _ _ _ H locs ls (hI.mono (by omega)) hP hD hS (lv_sub hl [2, 3, 4, 5, 6] rfl)
set_option maxRecDepth 100000 in
set_option maxHeartbeats 8000000 in
theorem lc_bestDivider {p : Program} {l : Launch} {e : Env} {s : State} {m : MethodId} {args : Array Value} {below : List Frame} {meth : Method} {c : Code} {Q : State → Prop} {b L : Nat} {xs : Nat → Int32} {D : va_G} {cy : Nat → ClassId} {sa : Nat → Nat} {u w : NU} {out : Nat} (hnt : l.stackTraces = false) (F : FX p m c cL_law 7 s args RL) (hK : KK D cy s) (hX : XK sa s) (hZ0 : ZK (fun q => s.heap.size ≤ q) s s.heap) (hxs : va_X b L xs s s.heap) (hb : b < s.heap.size) (hL : L ≤ 2560) {N : Int} {tl : Int} {tc : Int → Int} {ol : Int} {ct : Int} {tr : Int} {fv : Int → Int} {a : Int → Int} {G : Int → Int → Int} {ak : Int → Int} {Gk : Int → Int → Int} {As : Nat → Int → Int} {Gs : Nat → Int → Int → Int} {Ah : Nat → Int → Int} {Gh : Nat → Int → Int → Int} {th : Int → Int} {ap : Int → Int} {asl : Int → Int} {of : Nat → Int64} (hI : INV N tl tc ol ct fv a G As Gs Ah Gh ap asl) (hN : 0 ≤ N ∧ N ≤ 80000000) {i : Int} (hi : 0 ≤ i ∧ i + 5 ≤ L) {H : Heap} {locs : List Loc} {cells slots : Nat} {ls : Array Slot} (hP : va_P D vwCl (LW cy u w out tl tc ol ct tr fv a G ak Gk As Gs Ah Gh th ap asl of tl tc ct a fv) H) (hD : va_D (fun q => s.heap.size ≤ q) (LW cy u w out tl tc ol ct tr fv a G ak Gk As Gs Ah Gh th ap asl of tl tc ct a fv)) (hS : va_S (fun q => s.heap.size ≤ q) s.heap H locs) (hl : lv_has ls 7 [(4, vI i), (3, .ref out), (2, .ref (w 0 0)), (1, .ref (u 0 0)), (0, .ref b)]) (hc : cells + 1 ≤ 601024 ∧ slots + 6 ≤ 7293033) (kk : LK p l e s m args below meth c D cy u w out b (N + 50) i (cells + 1) (slots + 6) Q) : W p l e room_1 s m args below meth c H locs cells slots Q (F0 m 1594 ls []) := by
  have hT := hI.1
  obtain ⟨hZ, hSV, hsp0, hsp1⟩ := hI.2.1
  have hM := SB.mr hZ
  have hn0 := hM.n
  have hw0 := hM.nw
  have hc0 := hM.wc
  have hol := hI.2.2.1
  have hct := hI.2.2.2.1
  have hbA : ¬ (fun q => s.heap.size ≤ q) b := Nat.not_le.mpr hb
  have hA : ∀ q, s.heap.size ≤ q → (fun q => s.heap.size ≤ q) q := fun q h => h
  have hZ1 : ZK nA s H := (hZ0.kept (fun a h1 h2 => hS.2.1 a h1 h2)).narrow (fun _ h => h.elim)
  refine lv_aload_n F.1 F.2.1 dL_law_1594 rfl (lv_at hl 3 rfl) ?_
  refine lv_aload_n F.1 F.2.1 dL_law_1595 rfl (lv_at hl 4 rfl) ?_
  refine lv_iload F.1 F.2.1 dL_law_1596 (lv_at hl 0 rfl) ?_
  refine rr_iconst F dL_law_1598 ?_
  refine rr_iadd F (z := i + 1) dL_law_1599 rfl ?_
  refine rr_sld F (A := fun q => s.heap.size ≤ q) hxs hb hbA hS (by omega) (by omega) hL dL_law_1600 ?_
  refine lv_aload_n F.1 F.2.1 dL_law_1601 rfl (lv_at hl 4 rfl) ?_
  refine lv_iload F.1 F.2.1 dL_law_1602 (lv_at hl 0 rfl) ?_
  refine rr_iconst F dL_law_1604 ?_
  refine rr_iadd F (z := i + 2) dL_law_1605 rfl ?_
  refine rr_sld F (A := fun q => s.heap.size ≤ q) hxs hb hbA hS (by omega) (by omega) hL dL_law_1606 ?_
  refine lv_aload_n F.1 F.2.1 dL_law_1607 rfl (lv_at hl 1 rfl) ?_
  have hb_1 := XI_b xs (i + 1)
  have hb_2 := XI_b xs (i + 2)
  by_cases hx0 : 0 ≤ (XI xs (i + 1)) ∧ (XI xs (i + 1)) ≤ 1
  · by_cases hx1 : 0 ≤ (XI xs (i + 2)) ∧ (XI xs (i + 2)) ≤ 1
    · refine W.widen (k := cells + 1) (n := slots + 6) (by omega) (by omega) ?_
      have hvr : inR (if (XI xs (i + 2)) = 0 then (bd (fun u_p => rq a u_p = 0) (fun u_p => sns (a 0) (updZ (rq a) u_p 0) (a 25) (rbl a) (rbc a) (XI xs (i + 1))) (a 0)).1 else (bd (fun u_p => rq a u_p = 0) (fun u_p => sns (a 0) (updZ (rq a) u_p 0) (a 25) (rbl a) (rbc a) (XI xs (i + 1))) (a 0)).2) := bdv_r hM _ _
      refine rr_wwS (rest := []) F hK (w_bestDivider l D cy (u 0 0) (u 1 0) (u 4 0) (u 0 1) (u 0 2) (u 2 0) (u 2 1) (u 2 2) (u 2 3) (u 2 4) (u 2 5) (u 2 6) (fun i => u 2 (7 + Int.toNat i)) (u 3 0) (u 3 1) (u 3 2) (u 3 3) (u 3 4) (u 3 5) (u 3 6) (fun i => u 3 (7 + Int.toNat i)) a ak G Gk (XI xs (i + 1)) (XI xs (i + 2)) out of hZ (by first | assumption | omega | exact ⟨by omega, by omega⟩) (by first | assumption | omega | exact ⟨by omega, by omega⟩) hvr) hP hD hS hA sfw_bestDivider tw794 ⟨Nat.le_of_ble_eq_true rfl, Nat.le_of_ble_eq_true rfl⟩ hl rfl (Nat.le_of_ble_eq_true rfl) dL_law_1608 ⟨by show cells + 1 ≤ 601024; omega, by show slots + 6 ≤ 7293033; omega⟩ (pm_cK cy u w out tl tc ol ct tr fv a G ak Gk As Gs Ah Gh th ap asl of tl tc ct a fv) rfl (fun H locs hP hD hS _ => ?_)
      have hP : va_P D vwCl (LW cy u w out tl tc ol ct tr fv a G a G As Gs Ah Gh th ap asl (vp_updL of 0 (lI (if (XI xs (i + 2)) = 0 then (bd (fun u_p => rq a u_p = 0) (fun u_p => sns (a 0) (updZ (rq a) u_p 0) (a 25) (rbl a) (rbc a) (XI xs (i + 1))) (a 0)).1 else (bd (fun u_p => rq a u_p = 0) (fun u_p => sns (a 0) (updZ (rq a) u_p 0) (a 25) (rbl a) (rbc a) (XI xs (i + 1))) (a 0)).2))) tl tc ct a fv) H := hP.perm ((pm_cK cy u w out tl tc ol ct tr fv a G a G As Gs Ah Gh th ap asl (vp_updL of 0 (lI (if (XI xs (i + 2)) = 0 then (bd (fun u_p => rq a u_p = 0) (fun u_p => sns (a 0) (updZ (rq a) u_p 0) (a 25) (rbl a) (rbc a) (XI xs (i + 1))) (a 0)).1 else (bd (fun u_p => rq a u_p = 0) (fun u_p => sns (a 0) (updZ (rq a) u_p 0) (a 25) (rbl a) (rbc a) (XI xs (i + 1))) (a 0)).2))) tl tc ct a fv).symm)
      have hD : va_D (fun q => s.heap.size ≤ q) (LW cy u w out tl tc ol ct tr fv a G a G As Gs Ah Gh th ap asl (vp_updL of 0 (lI (if (XI xs (i + 2)) = 0 then (bd (fun u_p => rq a u_p = 0) (fun u_p => sns (a 0) (updZ (rq a) u_p 0) (a 25) (rbl a) (rbc a) (XI xs (i + 1))) (a 0)).1 else (bd (fun u_p => rq a u_p = 0) (fun u_p => sns (a 0) (updZ (rq a) u_p 0) (a 25) (rbl a) (rbc a) (XI xs (i + 1))) (a 0)).2))) tl tc ct a fv) := hD.perm ((pm_cK cy u w out tl tc ol ct tr fv a G a G As Gs Ah Gh th ap asl (vp_updL of 0 (lI (if (XI xs (i + 2)) = 0 then (bd (fun u_p => rq a u_p = 0) (fun u_p => sns (a 0) (updZ (rq a) u_p 0) (a 25) (rbl a) (rbc a) (XI xs (i + 1))) (a 0)).1 else (bd (fun u_p => rq a u_p = 0) (fun u_p => sns (a 0) (updZ (rq a) u_p 0) (a 25) (rbl a) (rbc a) (XI xs (i + 1))) (a 0)).2))) tl tc ct a fv).symm)
      refine lv_istore (lv' := [(5, vI 0), (4, vI i), (3, .ref out), (2, .ref (w 0 0)), (1, .ref (u 0 0)), (0, .ref b)]) F.1 F.2.1 dL_law_1611 hl (by decide) rfl (fun ls hl => ?_)
      refine lv_aload_n F.1 F.2.1 dL_law_1613 rfl (lv_at hl 3 rfl) ?_
      refine lv_aload_n F.1 F.2.1 dL_law_1614 rfl (lv_at hl 5 rfl) ?_
      refine lv_iload F.1 F.2.1 dL_law_1615 (lv_at hl 1 rfl) ?_
      refine rr_iconst F dL_law_1617 ?_
      refine rr_iadd F (z := i + 1) dL_law_1618 rfl ?_
      refine rr_sld F (A := fun q => s.heap.size ≤ q) hxs hb hbA hS (by omega) (by omega) hL dL_law_1619 ?_
      refine lv_aload_n F.1 F.2.1 dL_law_1620 rfl (lv_at hl 5 rfl) ?_
      refine lv_iload F.1 F.2.1 dL_law_1621 (lv_at hl 1 rfl) ?_
      refine rr_iconst F dL_law_1623 ?_
      refine rr_iadd F (z := i + 2) dL_law_1624 rfl ?_
      refine rr_sld F (A := fun q => s.heap.size ≤ q) hxs hb hbA hS (by omega) (by omega) hL dL_law_1625 ?_
      refine rr_wrVp (rest := []) F hK (c_X7_bestDivider l D cy (w 0 0) (w 0 1) (w 0 2) (w 0 3) (w 0 4) (w 0 5) (w 0 6) tr ct tl a th (XI xs (i + 1)) (XI xs (i + 2)) hM (XI_r _ _) (XI_r _ _) (by first | assumption | omega | exact ⟨by omega, by omega⟩) (by first | assumption | omega | exact ⟨by omega, by omega⟩)) hP hD hS hA sf_X7_bestDivider tw1196 7 rfl rfl ⟨Nat.le_of_ble_eq_true rfl, Nat.le_of_ble_eq_true rfl⟩ hl rfl (Nat.le_of_ble_eq_true rfl) dL_law_1626 ⟨by show cells + 1 ≤ 601024; omega, by show slots + 6 ≤ 7293033; omega⟩ (pm_mNT cy u w out tl tc ol ct tr fv a G a G As Gs Ah Gh th ap asl (vp_updL of 0 (lI (if (XI xs (i + 2)) = 0 then (bd (fun u_p => rq a u_p = 0) (fun u_p => sns (a 0) (updZ (rq a) u_p 0) (a 25) (rbl a) (rbc a) (XI xs (i + 1))) (a 0)).1 else (bd (fun u_p => rq a u_p = 0) (fun u_p => sns (a 0) (updZ (rq a) u_p 0) (a 25) (rbl a) (rbc a) (XI xs (i + 1))) (a 0)).2))) tl tc ct a fv) rfl (fun H locs hP hD hS _ => ?_)
      have hP : va_P D vwCl (LW cy u w out tl tc ol ct 0 fv a G a G As Gs Ah Gh a ap asl (vp_updL of 0 (lI (if (XI xs (i + 2)) = 0 then (bd (fun u_p => rq a u_p = 0) (fun u_p => sns (a 0) (updZ (rq a) u_p 0) (a 25) (rbl a) (rbc a) (XI xs (i + 1))) (a 0)).1 else (bd (fun u_p => rq a u_p = 0) (fun u_p => sns (a 0) (updZ (rq a) u_p 0) (a 25) (rbl a) (rbc a) (XI xs (i + 1))) (a 0)).2))) tl tc ct a fv) H := hP.perm ((pm_mNT cy u w out tl tc ol ct 0 fv a G a G As Gs Ah Gh a ap asl (vp_updL of 0 (lI (if (XI xs (i + 2)) = 0 then (bd (fun u_p => rq a u_p = 0) (fun u_p => sns (a 0) (updZ (rq a) u_p 0) (a 25) (rbl a) (rbc a) (XI xs (i + 1))) (a 0)).1 else (bd (fun u_p => rq a u_p = 0) (fun u_p => sns (a 0) (updZ (rq a) u_p 0) (a 25) (rbl a) (rbc a) (XI xs (i + 1))) (a 0)).2))) tl tc ct a fv).symm)
      have hD : va_D (fun q => s.heap.size ≤ q) (LW cy u w out tl tc ol ct 0 fv a G a G As Gs Ah Gh a ap asl (vp_updL of 0 (lI (if (XI xs (i + 2)) = 0 then (bd (fun u_p => rq a u_p = 0) (fun u_p => sns (a 0) (updZ (rq a) u_p 0) (a 25) (rbl a) (rbc a) (XI xs (i + 1))) (a 0)).1 else (bd (fun u_p => rq a u_p = 0) (fun u_p => sns (a 0) (updZ (rq a) u_p 0) (a 25) (rbl a) (rbc a) (XI xs (i + 1))) (a 0)).2))) tl tc ct a fv) := hD.perm ((pm_mNT cy u w out tl tc ol ct 0 fv a G a G As Gs Ah Gh a ap asl (vp_updL of 0 (lI (if (XI xs (i + 2)) = 0 then (bd (fun u_p => rq a u_p = 0) (fun u_p => sns (a 0) (updZ (rq a) u_p 0) (a 25) (rbl a) (rbc a) (XI xs (i + 1))) (a 0)).1 else (bd (fun u_p => rq a u_p = 0) (fun u_p => sns (a 0) (updZ (rq a) u_p 0) (a 25) (rbl a) (rbc a) (XI xs (i + 1))) (a 0)).2))) tl tc ct a fv).symm)
      have hP : va_P D vwCl (LW cy u w out tl tc ol ct 0 fv a G a G As Gs Ah Gh a ap asl (vp_updL of 0 (lI (if (XI xs (i + 2)) = 0 then (bd (fun u_p => rq a u_p = 0) (fun u_p => sns (a 0) (updZ (rq a) u_p 0) (a 25) (rbl a) (rbc a) (XI xs (i + 1))) (a 0)).1 else (bd (fun u_p => rq a u_p = 0) (fun u_p => sns (a 0) (updZ (rq a) u_p 0) (a 25) (rbl a) (rbc a) (XI xs (i + 1))) (a 0)).2))) tl tc ct a fv) H := hP
      have hD : va_D (fun q => s.heap.size ≤ q) (LW cy u w out tl tc ol ct 0 fv a G a G As Gs Ah Gh a ap asl (vp_updL of 0 (lI (if (XI xs (i + 2)) = 0 then (bd (fun u_p => rq a u_p = 0) (fun u_p => sns (a 0) (updZ (rq a) u_p 0) (a 25) (rbl a) (rbc a) (XI xs (i + 1))) (a 0)).1 else (bd (fun u_p => rq a u_p = 0) (fun u_p => sns (a 0) (updZ (rq a) u_p 0) (a 25) (rbl a) (rbc a) (XI xs (i + 1))) (a 0)).2))) tl tc ct a fv) := hD
      refine lv_istore (lv' := [(6, vI (if (XI xs (i + 2)) = 0 then (bd (fun u_p => rq a u_p = 0) (fun u_p => sns (a 0) (updZ (rq a) u_p 0) (a 25) (rbl a) (rbc a) (XI xs (i + 1))) (a 0)).1 else (bd (fun u_p => rq a u_p = 0) (fun u_p => sns (a 0) (updZ (rq a) u_p 0) (a 25) (rbl a) (rbc a) (XI xs (i + 1))) (a 0)).2)), (5, vI 0), (4, vI i), (3, .ref out), (2, .ref (w 0 0)), (1, .ref (u 0 0)), (0, .ref b)]) F.1 F.2.1 dL_law_1629 hl (by decide) rfl (fun ls hl => ?_)
      refine lv_aload_n F.1 F.2.1 dL_law_1631 rfl (lv_at hl 4 rfl) ?_
      refine rr_rdVp (rest := []) F hK (c_X7_thrown l D cy (w 0 0) (w 0 1) (w 0 2) (w 0 3) (w 0 4) (w 0 5) (w 0 6) 0 ct tl) hP (pm_m0 cy u w out tl tc ol ct 0 fv a G a G As Gs Ah Gh a ap asl (vp_updL of 0 (lI (if (XI xs (i + 2)) = 0 then (bd (fun u_p => rq a u_p = 0) (fun u_p => sns (a 0) (updZ (rq a) u_p 0) (a 25) (rbl a) (rbc a) (XI xs (i + 1))) (a 0)).1 else (bd (fun u_p => rq a u_p = 0) (fun u_p => sns (a 0) (updZ (rq a) u_p 0) (a 25) (rbl a) (rbc a) (XI xs (i + 1))) (a 0)).2))) tl tc ct a fv) sf_X7_thrown tw902 7 rfl rfl ⟨Nat.le_of_ble_eq_true rfl, Nat.le_of_ble_eq_true rfl⟩ hl rfl (Nat.le_of_ble_eq_true rfl) dL_law_1632 ⟨by show cells + 1 ≤ 601024; omega, by show slots + 6 ≤ 7293033; omega⟩ ?_
      refine lv_iload F.1 F.2.1 dL_law_1635 (lv_at hl 1 rfl) ?_
      refine rr_icmp_eq F (tgt := 1642) dL_law_1637 (by decide) ⟨by omega, by omega⟩ ⟨by omega, by omega⟩ (fun _ => ?_) (fun z => absurd rfl z)
      refine lv_iload F.1 F.2.1 dL_law_1642 (lv_at hl 1 rfl) ?_
      refine rr_if_ne F (tgt := 1659) dL_law_1644 (by decide) ⟨by omega, by omega⟩ (fun z => absurd rfl z) (fun _ => ?_)
      refine lv_aload_n F.1 F.2.1 dL_law_1647 rfl (lv_at hl 3 rfl) ?_
      refine rr_iconst F dL_law_1648 ?_
      refine rr_lald0 F hK (hP.perm (pm_o cy u w out tl tc ol ct 0 fv a G a G As Gs Ah Gh a ap asl (vp_updL of 0 (lI (if (XI xs (i + 2)) = 0 then (bd (fun u_p => rq a u_p = 0) (fun u_p => sns (a 0) (updZ (rq a) u_p 0) (a 25) (rbl a) (rbc a) (XI xs (i + 1))) (a 0)).1 else (bd (fun u_p => rq a u_p = 0) (fun u_p => sns (a 0) (updZ (rq a) u_p 0) (a 25) (rbl a) (rbc a) (XI xs (i + 1))) (a 0)).2))) tl tc ct a fv)) 0 rfl dL_law_1649 ?_
      refine lv_iload F.1 F.2.1 dL_law_1650 (lv_at hl 0 rfl) ?_
      refine rr_i2l F dL_law_1652 hvr ?_
      refine rr_lcmp F (a := if (XI xs (i + 2)) = 0 then (bd (fun u_p => rq a u_p = 0) (fun u_p => sns (a 0) (updZ (rq a) u_p 0) (a 25) (rbl a) (rbc a) (XI xs (i + 1))) (a 0)).1 else (bd (fun u_p => rq a u_p = 0) (fun u_p => sns (a 0) (updZ (rq a) u_p 0) (a 25) (rbl a) (rbc a) (XI xs (i + 1))) (a 0)).2) (b := if (XI xs (i + 2)) = 0 then (bd (fun u_p => rq a u_p = 0) (fun u_p => sns (a 0) (updZ (rq a) u_p 0) (a 25) (rbl a) (rbc a) (XI xs (i + 1))) (a 0)).1 else (bd (fun u_p => rq a u_p = 0) (fun u_p => sns (a 0) (updZ (rq a) u_p 0) (a 25) (rbl a) (rbc a) (XI xs (i + 1))) (a 0)).2) dL_law_1653 (inL_r hvr) (inL_r hvr) ?_
      refine rr_if_eq F (tgt := 1659) dL_law_1654 (by decide) (lcm_r _ _) (fun _ => ?_) (fun z => absurd ((lcm_spec _ _).2.1.mpr rfl) z)
      refine lv_goto (tgt := 2055) F.1 F.2.1 dL_law_1659 (by decide) ?_
      exact kk _ _ _ _ _ _ _ _ _ _ _ _ _ _ _ _ _ _ H locs ls (hI.mono (by omega)) hP hD hS (lv_sub hl [2, 3, 4, 5, 6] rfl)
    · refine rr_twS (rest := []) F hK hX hZ1 (r_bestDivider_26 l hnt D cy sa (u 0 0) (u 1 0) (u 2 0) (u 3 0) (u 4 0) (u 0 1) (u 0 2) (XI xs (i + 1)) (XI xs (i + 2)) out (XI_r _ _) (XI_r _ _) (by first | assumption | omega | exact ⟨by omega, by omega⟩) (by first | assumption | omega | exact ⟨by omega, by omega⟩)) hP hS sfw_bestDivider tw794 ⟨Nat.le_of_ble_eq_true rfl, Nat.le_of_ble_eq_true rfl⟩ hl rfl (Nat.le_of_ble_eq_true rfl) dL_law_1608 ⟨by show cells + 1 ≤ 601024; omega, by show slots + 6 ≤ 7293033; omega⟩ (pm_c0 cy u w out tl tc ol ct tr fv a G ak Gk As Gs Ah Gh th ap asl of tl tc ct a fv) (fun H locs hP hS _ => ?_)
      refine lv_istore (lv' := [(5, vI 2), (4, vI i), (3, .ref out), (2, .ref (w 0 0)), (1, .ref (u 0 0)), (0, .ref b)]) F.1 F.2.1 dL_law_1611 hl (by decide) rfl (fun ls hl => ?_)
      refine lv_aload_n F.1 F.2.1 dL_law_1613 rfl (lv_at hl 3 rfl) ?_
      refine lv_aload_n F.1 F.2.1 dL_law_1614 rfl (lv_at hl 5 rfl) ?_
      refine lv_iload F.1 F.2.1 dL_law_1615 (lv_at hl 1 rfl) ?_
      refine rr_iconst F dL_law_1617 ?_
      refine rr_iadd F (z := i + 1) dL_law_1618 rfl ?_
      refine rr_sld F (A := fun q => s.heap.size ≤ q) hxs hb hbA hS (by omega) (by omega) hL dL_law_1619 ?_
      refine lv_aload_n F.1 F.2.1 dL_law_1620 rfl (lv_at hl 5 rfl) ?_
      refine lv_iload F.1 F.2.1 dL_law_1621 (lv_at hl 1 rfl) ?_
      refine rr_iconst F dL_law_1623 ?_
      refine rr_iadd F (z := i + 2) dL_law_1624 rfl ?_
      refine rr_sld F (A := fun q => s.heap.size ≤ q) hxs hb hbA hS (by omega) (by omega) hL dL_law_1625 ?_
      have hcode : (if 0 ≤ (XI xs (i + 1)) ∧ (XI xs (i + 1)) ≤ 1 then 2 else 1 : Int) = 2 := by first | rfl | ((repeat' split) <;> first | rfl | omega)
      refine rr_wrVp (rest := []) F hK (n_X7_bestDivider l D cy (w 0 0) (w 0 1) (w 0 2) (w 0 3) (w 0 4) (w 0 5) (w 0 6) tr ct tl a th (XI xs (i + 1)) (XI xs (i + 2)) hM (XI_r _ _) (XI_r _ _) (by first | assumption | omega)) hP hD hS hA sf_X7_bestDivider tw1196 7 rfl rfl ⟨Nat.le_of_ble_eq_true rfl, Nat.le_of_ble_eq_true rfl⟩ hl rfl (Nat.le_of_ble_eq_true rfl) dL_law_1626 ⟨by show cells + 1 ≤ 601024; omega, by show slots + 6 ≤ 7293033; omega⟩ (pm_mNT cy u w out tl tc ol ct tr fv a G ak Gk As Gs Ah Gh th ap asl of tl tc ct a fv) rfl (fun H locs hP hD hS _ => ?_)
      have hP : va_P D vwCl (LW cy u w out tl tc ol ct (if 0 ≤ (XI xs (i + 1)) ∧ (XI xs (i + 1)) ≤ 1 then 2 else 1) fv a G ak Gk As Gs Ah Gh th ap asl of tl tc ct a fv) H := hP.perm ((pm_mNT cy u w out tl tc ol ct (if 0 ≤ (XI xs (i + 1)) ∧ (XI xs (i + 1)) ≤ 1 then 2 else 1) fv a G ak Gk As Gs Ah Gh th ap asl of tl tc ct a fv).symm)
      have hD : va_D (fun q => s.heap.size ≤ q) (LW cy u w out tl tc ol ct (if 0 ≤ (XI xs (i + 1)) ∧ (XI xs (i + 1)) ≤ 1 then 2 else 1) fv a G ak Gk As Gs Ah Gh th ap asl of tl tc ct a fv) := hD.perm ((pm_mNT cy u w out tl tc ol ct (if 0 ≤ (XI xs (i + 1)) ∧ (XI xs (i + 1)) ≤ 1 then 2 else 1) fv a G ak Gk As Gs Ah Gh th ap asl of tl tc ct a fv).symm)
      rw [hcode] at hP hD
      refine lv_istore (lv' := [(6, vI 0), (5, vI 2), (4, vI i), (3, .ref out), (2, .ref (w 0 0)), (1, .ref (u 0 0)), (0, .ref b)]) F.1 F.2.1 dL_law_1629 hl (by decide) rfl (fun ls hl => ?_)
      refine lv_aload_n F.1 F.2.1 dL_law_1631 rfl (lv_at hl 4 rfl) ?_
      refine rr_rdVp (rest := []) F hK (c_X7_thrown l D cy (w 0 0) (w 0 1) (w 0 2) (w 0 3) (w 0 4) (w 0 5) (w 0 6) 2 ct tl) hP (pm_m0 cy u w out tl tc ol ct 2 fv a G ak Gk As Gs Ah Gh th ap asl of tl tc ct a fv) sf_X7_thrown tw902 7 rfl rfl ⟨Nat.le_of_ble_eq_true rfl, Nat.le_of_ble_eq_true rfl⟩ hl rfl (Nat.le_of_ble_eq_true rfl) dL_law_1632 ⟨by show cells + 1 ≤ 601024; omega, by show slots + 6 ≤ 7293033; omega⟩ ?_
      refine lv_iload F.1 F.2.1 dL_law_1635 (lv_at hl 1 rfl) ?_
      refine rr_icmp_eq F (tgt := 1642) dL_law_1637 (by decide) ⟨by omega, by omega⟩ ⟨by omega, by omega⟩ (fun _ => ?_) (fun z => absurd rfl z)
      refine lv_iload F.1 F.2.1 dL_law_1642 (lv_at hl 1 rfl) ?_
      refine rr_if_ne F (tgt := 1659) dL_law_1644 (by decide) ⟨by omega, by omega⟩ (fun _ => ?_) (fun z => by omega)
      refine lv_goto (tgt := 2055) F.1 F.2.1 dL_law_1659 (by decide) ?_
      exact kk _ _ _ _ _ _ _ _ _ _ _ _ _ _ _ _ _ _ H locs ls (hI.mono (by omega)) hP hD hS (lv_sub hl [2, 3, 4, 5, 6] rfl)
  · refine rr_twS (rest := []) F hK hX hZ1 (r_bestDivider_7 l hnt D cy sa (u 0 0) (u 1 0) (u 2 0) (u 3 0) (u 4 0) (u 0 1) (u 0 2) (XI xs (i + 1)) (XI xs (i + 2)) out (XI_r _ _) (XI_r _ _) (by first | assumption | omega | exact ⟨by omega, by omega⟩)) hP hS sfw_bestDivider tw794 ⟨Nat.le_of_ble_eq_true rfl, Nat.le_of_ble_eq_true rfl⟩ hl rfl (Nat.le_of_ble_eq_true rfl) dL_law_1608 ⟨by show cells + 1 ≤ 601024; omega, by show slots + 6 ≤ 7293033; omega⟩ (pm_c0 cy u w out tl tc ol ct tr fv a G ak Gk As Gs Ah Gh th ap asl of tl tc ct a fv) (fun H locs hP hS _ => ?_)
    refine lv_istore (lv' := [(5, vI 1), (4, vI i), (3, .ref out), (2, .ref (w 0 0)), (1, .ref (u 0 0)), (0, .ref b)]) F.1 F.2.1 dL_law_1611 hl (by decide) rfl (fun ls hl => ?_)
    refine lv_aload_n F.1 F.2.1 dL_law_1613 rfl (lv_at hl 3 rfl) ?_
    refine lv_aload_n F.1 F.2.1 dL_law_1614 rfl (lv_at hl 5 rfl) ?_
    refine lv_iload F.1 F.2.1 dL_law_1615 (lv_at hl 1 rfl) ?_
    refine rr_iconst F dL_law_1617 ?_
    refine rr_iadd F (z := i + 1) dL_law_1618 rfl ?_
    refine rr_sld F (A := fun q => s.heap.size ≤ q) hxs hb hbA hS (by omega) (by omega) hL dL_law_1619 ?_
    refine lv_aload_n F.1 F.2.1 dL_law_1620 rfl (lv_at hl 5 rfl) ?_
    refine lv_iload F.1 F.2.1 dL_law_1621 (lv_at hl 1 rfl) ?_
    refine rr_iconst F dL_law_1623 ?_
    refine rr_iadd F (z := i + 2) dL_law_1624 rfl ?_
    refine rr_sld F (A := fun q => s.heap.size ≤ q) hxs hb hbA hS (by omega) (by omega) hL dL_law_1625 ?_
    have hcode : (if 0 ≤ (XI xs (i + 1)) ∧ (XI xs (i + 1)) ≤ 1 then 2 else 1 : Int) = 1 := by first | rfl | ((repeat' split) <;> first | rfl | omega)
    refine rr_wrVp (rest := []) F hK (n_X7_bestDivider l D cy (w 0 0) (w 0 1) (w 0 2) (w 0 3) (w 0 4) (w 0 5) (w 0 6) tr ct tl a th (XI xs (i + 1)) (XI xs (i + 2)) hM (XI_r _ _) (XI_r _ _) (by first | assumption | omega)) hP hD hS hA sf_X7_bestDivider tw1196 7 rfl rfl ⟨Nat.le_of_ble_eq_true rfl, Nat.le_of_ble_eq_true rfl⟩ hl rfl (Nat.le_of_ble_eq_true rfl) dL_law_1626 ⟨by show cells + 1 ≤ 601024; omega, by show slots + 6 ≤ 7293033; omega⟩ (pm_mNT cy u w out tl tc ol ct tr fv a G ak Gk As Gs Ah Gh th ap asl of tl tc ct a fv) rfl (fun H locs hP hD hS _ => ?_)
    have hP : va_P D vwCl (LW cy u w out tl tc ol ct (if 0 ≤ (XI xs (i + 1)) ∧ (XI xs (i + 1)) ≤ 1 then 2 else 1) fv a G ak Gk As Gs Ah Gh th ap asl of tl tc ct a fv) H := hP.perm ((pm_mNT cy u w out tl tc ol ct (if 0 ≤ (XI xs (i + 1)) ∧ (XI xs (i + 1)) ≤ 1 then 2 else 1) fv a G ak Gk As Gs Ah Gh th ap asl of tl tc ct a fv).symm)
    have hD : va_D (fun q => s.heap.size ≤ q) (LW cy u w out tl tc ol ct (if 0 ≤ (XI xs (i + 1)) ∧ (XI xs (i + 1)) ≤ 1 then 2 else 1) fv a G ak Gk As Gs Ah Gh th ap asl of tl tc ct a fv) := hD.perm ((pm_mNT cy u w out tl tc ol ct (if 0 ≤ (XI xs (i + 1)) ∧ (XI xs (i + 1)) ≤ 1 then 2 else 1) fv a G ak Gk As Gs Ah Gh th ap asl of tl tc ct a fv).symm)
    rw [hcode] at hP hD
    refine lv_istore (lv' := [(6, vI 0), (5, vI 1), (4, vI i), (3, .ref out), (2, .ref (w 0 0)), (1, .ref (u 0 0)), (0, .ref b)]) F.1 F.2.1 dL_law_1629 hl (by decide) rfl (fun ls hl => ?_)
    refine lv_aload_n F.1 F.2.1 dL_law_1631 rfl (lv_at hl 4 rfl) ?_
    refine rr_rdVp (rest := []) F hK (c_X7_thrown l D cy (w 0 0) (w 0 1) (w 0 2) (w 0 3) (w 0 4) (w 0 5) (w 0 6) 1 ct tl) hP (pm_m0 cy u w out tl tc ol ct 1 fv a G ak Gk As Gs Ah Gh th ap asl of tl tc ct a fv) sf_X7_thrown tw902 7 rfl rfl ⟨Nat.le_of_ble_eq_true rfl, Nat.le_of_ble_eq_true rfl⟩ hl rfl (Nat.le_of_ble_eq_true rfl) dL_law_1632 ⟨by show cells + 1 ≤ 601024; omega, by show slots + 6 ≤ 7293033; omega⟩ ?_
    refine lv_iload F.1 F.2.1 dL_law_1635 (lv_at hl 1 rfl) ?_
    refine rr_icmp_eq F (tgt := 1642) dL_law_1637 (by decide) ⟨by omega, by omega⟩ ⟨by omega, by omega⟩ (fun _ => ?_) (fun z => absurd rfl z)
    refine lv_iload F.1 F.2.1 dL_law_1642 (lv_at hl 1 rfl) ?_
    refine rr_if_ne F (tgt := 1659) dL_law_1644 (by decide) ⟨by omega, by omega⟩ (fun _ => ?_) (fun z => by omega)
    refine lv_goto (tgt := 2055) F.1 F.2.1 dL_law_1659 (by decide) ?_
    exact kk _ _ _ _ _ _ _ _ _ _ _ _ _ _ _ _ _ _ H locs ls (hI.mono (by omega)) hP hD hS (lv_sub hl [2, 3, 4, 5, 6] rfl)
set_option maxRecDepth 100000 in
set_option maxHeartbeats 8000000 in
theorem lc_runScript {p : Program} {l : Launch} {e : Env} {s : State} {m : MethodId} {args : Array Value} {below : List Frame} {meth : Method} {c : Code} {Q : State → Prop} {b L : Nat} {xs : Nat → Int32} {D : va_G} {cy : Nat → ClassId} {sa : Nat → Nat} {u w : NU} {out : Nat} (hnt : l.stackTraces = false) (F : FX p m c cL_law 7 s args RL) (hK : KK D cy s) (hX : XK sa s) (hZ0 : ZK (fun q => s.heap.size ≤ q) s s.heap) (hxs : va_X b L xs s s.heap) (hb : b < s.heap.size) (hL : L ≤ 2560) {N : Int} {tl : Int} {tc : Int → Int} {ol : Int} {ct : Int} {tr : Int} {fv : Int → Int} {a : Int → Int} {G : Int → Int → Int} {ak : Int → Int} {Gk : Int → Int → Int} {As : Nat → Int → Int} {Gs : Nat → Int → Int → Int} {Ah : Nat → Int → Int} {Gh : Nat → Int → Int → Int} {th : Int → Int} {ap : Int → Int} {asl : Int → Int} {of : Nat → Int64} (hI : INV N tl tc ol ct fv a G As Gs Ah Gh ap asl) (hN : 0 ≤ N ∧ N ≤ 80000000) {i : Int} (hi : 0 ≤ i ∧ i + 5 ≤ L) {H : Heap} {locs : List Loc} {cells slots : Nat} {ls : Array Slot} (hP : va_P D vwCl (LW cy u w out tl tc ol ct tr fv a G ak Gk As Gs Ah Gh th ap asl of tl tc ct a fv) H) (hD : va_D (fun q => s.heap.size ≤ q) (LW cy u w out tl tc ol ct tr fv a G ak Gk As Gs Ah Gh th ap asl of tl tc ct a fv)) (hS : va_S (fun q => s.heap.size ≤ q) s.heap H locs) (hl : lv_has ls 7 [(4, vI i), (3, .ref out), (2, .ref (w 0 0)), (1, .ref (u 0 0)), (0, .ref b)]) (hc : cells + 1 ≤ 601024 ∧ slots + 6 ≤ 7293033) (kk : LK p l e s m args below meth c D cy u w out b (N + 50) i (cells + 1) (slots + 6) Q) : W p l e room_1 s m args below meth c H locs cells slots Q (F0 m 1743 ls []) := by
  have hT := hI.1
  obtain ⟨hZ, hSV, hsp0, hsp1⟩ := hI.2.1
  have hM := SB.mr hZ
  have hn0 := hM.n
  have hw0 := hM.nw
  have hc0 := hM.wc
  have hol := hI.2.2.1
  have hct := hI.2.2.2.1
  have hbA : ¬ (fun q => s.heap.size ≤ q) b := Nat.not_le.mpr hb
  have hA : ∀ q, s.heap.size ≤ q → (fun q => s.heap.size ≤ q) q := fun q h => h
  have hZ1 : ZK nA s H := (hZ0.kept (fun a h1 h2 => hS.2.1 a h1 h2)).narrow (fun _ h => h.elim)
  refine lv_aload_n F.1 F.2.1 dL_law_1743 rfl (lv_at hl 3 rfl) ?_
  refine lv_aload_n F.1 F.2.1 dL_law_1744 rfl (lv_at hl 4 rfl) ?_
  refine lv_iload F.1 F.2.1 dL_law_1745 (lv_at hl 0 rfl) ?_
  refine rr_iconst F dL_law_1747 ?_
  refine rr_iadd F (z := i + 1) dL_law_1748 rfl ?_
  refine rr_sld F (A := fun q => s.heap.size ≤ q) hxs hb hbA hS (by omega) (by omega) hL dL_law_1749 ?_
  refine lv_aload_n F.1 F.2.1 dL_law_1750 rfl (lv_at hl 4 rfl) ?_
  refine lv_iload F.1 F.2.1 dL_law_1751 (lv_at hl 0 rfl) ?_
  refine rr_iconst F dL_law_1753 ?_
  refine rr_iadd F (z := i + 2) dL_law_1754 rfl ?_
  refine rr_sld F (A := fun q => s.heap.size ≤ q) hxs hb hbA hS (by omega) (by omega) hL dL_law_1755 ?_
  refine rr_i2l F dL_law_1756 (XI_r _ _) ?_
  refine rr_bipush F dL_law_1757 (by decide) ?_
  refine rr_lshl32 F dL_law_1759 ?_
  refine lv_aload_n F.1 F.2.1 dL_law_1760 rfl (lv_at hl 4 rfl) ?_
  refine lv_iload F.1 F.2.1 dL_law_1761 (lv_at hl 0 rfl) ?_
  refine rr_iconst F dL_law_1763 ?_
  refine rr_iadd F (z := i + 3) dL_law_1764 rfl ?_
  refine rr_sld F (A := fun q => s.heap.size ≤ q) hxs hb hbA hS (by omega) (by omega) hL dL_law_1765 ?_
  refine rr_i2l F dL_law_1766 (XI_r _ _) ?_
  refine rr_ldc2 F 4294967295 rfl tw1252 dL_law_1767 ?_
  refine rr_landL F dL_law_1770 ?_
  refine rr_lorL F dL_law_1771 ?_
  refine lv_aload_n F.1 F.2.1 dL_law_1772 rfl (lv_at hl 1 rfl) ?_
  have hb_1 := XI_b xs (i + 1)
  by_cases hx0 : 1 ≤ (XI xs (i + 1)) ∧ (XI xs (i + 1)) ≤ 3
  · by_cases hx1 : 0 ≤ (lOr (shv (XI xs (i + 2))) (lAn (XI xs (i + 3)) 4294967295)) ∧ (lOr (shv (XI xs (i + 2))) (lAn (XI xs (i + 3)) 4294967295)) < pw (XI xs (i + 1))
    · refine W.widen (k := cells + 1) (n := slots + 6) (by omega) (by omega) ?_
      have hvr : inR (low (fun u_t => ¬ okT (scR a (lOr (shv (XI xs (i + 2))) (lAn (XI xs (i + 3)) 4294967295)) (XI xs (i + 1)) u_t) (dg (lOr (shv (XI xs (i + 2))) (lAn (XI xs (i + 3)) 4294967295)) (XI xs (i + 1)) u_t)) (XI xs (i + 1))) := low_r _ (by omega)
      refine rr_wwS (rest := []) F hK (w_runScript l D cy (u 0 0) (u 1 0) (u 4 0) (u 0 1) (u 0 2) (u 2 0) (u 2 1) (u 2 2) (u 2 3) (u 2 4) (u 2 5) (u 2 6) (fun i => u 2 (7 + Int.toNat i)) (u 3 0) (u 3 1) (u 3 2) (u 3 3) (u 3 4) (u 3 5) (u 3 6) (fun i => u 3 (7 + Int.toNat i)) a ak G Gk (XI xs (i + 1)) (lOr (shv (XI xs (i + 2))) (lAn (XI xs (i + 3)) 4294967295)) out of hZ ⟨by omega, by omega⟩ (by first | assumption | omega | exact ⟨by omega, by omega⟩) (by first | assumption | omega | exact ⟨by omega, by omega⟩) hvr) hP hD hS hA sfw_runScript tw819 ⟨Nat.le_of_ble_eq_true rfl, Nat.le_of_ble_eq_true rfl⟩ hl rfl (Nat.le_of_ble_eq_true rfl) dL_law_1773 ⟨by show cells + 1 ≤ 601024; omega, by show slots + 6 ≤ 7293033; omega⟩ (pm_cK cy u w out tl tc ol ct tr fv a G ak Gk As Gs Ah Gh th ap asl of tl tc ct a fv) rfl (fun H locs hP hD hS _ => ?_)
      have hP : va_P D vwCl (LW cy u w out tl tc ol ct tr fv a G (scE a (lOr (shv (XI xs (i + 2))) (lAn (XI xs (i + 3)) 4294967295)) (XI xs (i + 1)) (low (fun u_t => ¬ okT (scR a (lOr (shv (XI xs (i + 2))) (lAn (XI xs (i + 3)) 4294967295)) (XI xs (i + 1)) u_t) (dg (lOr (shv (XI xs (i + 2))) (lAn (XI xs (i + 3)) 4294967295)) (XI xs (i + 1)) u_t)) (XI xs (i + 1)))) (GScE a G (lOr (shv (XI xs (i + 2))) (lAn (XI xs (i + 3)) 4294967295)) (XI xs (i + 1)) (low (fun u_t => ¬ okT (scR a (lOr (shv (XI xs (i + 2))) (lAn (XI xs (i + 3)) 4294967295)) (XI xs (i + 1)) u_t) (dg (lOr (shv (XI xs (i + 2))) (lAn (XI xs (i + 3)) 4294967295)) (XI xs (i + 1)) u_t)) (XI xs (i + 1)))) As Gs Ah Gh th ap asl (vp_updL of 0 (lI (low (fun u_t => ¬ okT (scR a (lOr (shv (XI xs (i + 2))) (lAn (XI xs (i + 3)) 4294967295)) (XI xs (i + 1)) u_t) (dg (lOr (shv (XI xs (i + 2))) (lAn (XI xs (i + 3)) 4294967295)) (XI xs (i + 1)) u_t)) (XI xs (i + 1))))) tl tc ct a fv) H := hP.perm ((pm_cK cy u w out tl tc ol ct tr fv a G (scE a (lOr (shv (XI xs (i + 2))) (lAn (XI xs (i + 3)) 4294967295)) (XI xs (i + 1)) (low (fun u_t => ¬ okT (scR a (lOr (shv (XI xs (i + 2))) (lAn (XI xs (i + 3)) 4294967295)) (XI xs (i + 1)) u_t) (dg (lOr (shv (XI xs (i + 2))) (lAn (XI xs (i + 3)) 4294967295)) (XI xs (i + 1)) u_t)) (XI xs (i + 1)))) (GScE a G (lOr (shv (XI xs (i + 2))) (lAn (XI xs (i + 3)) 4294967295)) (XI xs (i + 1)) (low (fun u_t => ¬ okT (scR a (lOr (shv (XI xs (i + 2))) (lAn (XI xs (i + 3)) 4294967295)) (XI xs (i + 1)) u_t) (dg (lOr (shv (XI xs (i + 2))) (lAn (XI xs (i + 3)) 4294967295)) (XI xs (i + 1)) u_t)) (XI xs (i + 1)))) As Gs Ah Gh th ap asl (vp_updL of 0 (lI (low (fun u_t => ¬ okT (scR a (lOr (shv (XI xs (i + 2))) (lAn (XI xs (i + 3)) 4294967295)) (XI xs (i + 1)) u_t) (dg (lOr (shv (XI xs (i + 2))) (lAn (XI xs (i + 3)) 4294967295)) (XI xs (i + 1)) u_t)) (XI xs (i + 1))))) tl tc ct a fv).symm)
      have hD : va_D (fun q => s.heap.size ≤ q) (LW cy u w out tl tc ol ct tr fv a G (scE a (lOr (shv (XI xs (i + 2))) (lAn (XI xs (i + 3)) 4294967295)) (XI xs (i + 1)) (low (fun u_t => ¬ okT (scR a (lOr (shv (XI xs (i + 2))) (lAn (XI xs (i + 3)) 4294967295)) (XI xs (i + 1)) u_t) (dg (lOr (shv (XI xs (i + 2))) (lAn (XI xs (i + 3)) 4294967295)) (XI xs (i + 1)) u_t)) (XI xs (i + 1)))) (GScE a G (lOr (shv (XI xs (i + 2))) (lAn (XI xs (i + 3)) 4294967295)) (XI xs (i + 1)) (low (fun u_t => ¬ okT (scR a (lOr (shv (XI xs (i + 2))) (lAn (XI xs (i + 3)) 4294967295)) (XI xs (i + 1)) u_t) (dg (lOr (shv (XI xs (i + 2))) (lAn (XI xs (i + 3)) 4294967295)) (XI xs (i + 1)) u_t)) (XI xs (i + 1)))) As Gs Ah Gh th ap asl (vp_updL of 0 (lI (low (fun u_t => ¬ okT (scR a (lOr (shv (XI xs (i + 2))) (lAn (XI xs (i + 3)) 4294967295)) (XI xs (i + 1)) u_t) (dg (lOr (shv (XI xs (i + 2))) (lAn (XI xs (i + 3)) 4294967295)) (XI xs (i + 1)) u_t)) (XI xs (i + 1))))) tl tc ct a fv) := hD.perm ((pm_cK cy u w out tl tc ol ct tr fv a G (scE a (lOr (shv (XI xs (i + 2))) (lAn (XI xs (i + 3)) 4294967295)) (XI xs (i + 1)) (low (fun u_t => ¬ okT (scR a (lOr (shv (XI xs (i + 2))) (lAn (XI xs (i + 3)) 4294967295)) (XI xs (i + 1)) u_t) (dg (lOr (shv (XI xs (i + 2))) (lAn (XI xs (i + 3)) 4294967295)) (XI xs (i + 1)) u_t)) (XI xs (i + 1)))) (GScE a G (lOr (shv (XI xs (i + 2))) (lAn (XI xs (i + 3)) 4294967295)) (XI xs (i + 1)) (low (fun u_t => ¬ okT (scR a (lOr (shv (XI xs (i + 2))) (lAn (XI xs (i + 3)) 4294967295)) (XI xs (i + 1)) u_t) (dg (lOr (shv (XI xs (i + 2))) (lAn (XI xs (i + 3)) 4294967295)) (XI xs (i + 1)) u_t)) (XI xs (i + 1)))) As Gs Ah Gh th ap asl (vp_updL of 0 (lI (low (fun u_t => ¬ okT (scR a (lOr (shv (XI xs (i + 2))) (lAn (XI xs (i + 3)) 4294967295)) (XI xs (i + 1)) u_t) (dg (lOr (shv (XI xs (i + 2))) (lAn (XI xs (i + 3)) 4294967295)) (XI xs (i + 1)) u_t)) (XI xs (i + 1))))) tl tc ct a fv).symm)
      refine lv_istore (lv' := [(5, vI 0), (4, vI i), (3, .ref out), (2, .ref (w 0 0)), (1, .ref (u 0 0)), (0, .ref b)]) F.1 F.2.1 dL_law_1776 hl (by decide) rfl (fun ls hl => ?_)
      refine lv_aload_n F.1 F.2.1 dL_law_1778 rfl (lv_at hl 3 rfl) ?_
      refine lv_aload_n F.1 F.2.1 dL_law_1779 rfl (lv_at hl 5 rfl) ?_
      refine lv_iload F.1 F.2.1 dL_law_1780 (lv_at hl 1 rfl) ?_
      refine rr_iconst F dL_law_1782 ?_
      refine rr_iadd F (z := i + 1) dL_law_1783 rfl ?_
      refine rr_sld F (A := fun q => s.heap.size ≤ q) hxs hb hbA hS (by omega) (by omega) hL dL_law_1784 ?_
      refine lv_aload_n F.1 F.2.1 dL_law_1785 rfl (lv_at hl 5 rfl) ?_
      refine lv_iload F.1 F.2.1 dL_law_1786 (lv_at hl 1 rfl) ?_
      refine rr_iconst F dL_law_1788 ?_
      refine rr_iadd F (z := i + 2) dL_law_1789 rfl ?_
      refine rr_sld F (A := fun q => s.heap.size ≤ q) hxs hb hbA hS (by omega) (by omega) hL dL_law_1790 ?_
      refine rr_i2l F dL_law_1791 (XI_r _ _) ?_
      refine rr_bipush F dL_law_1792 (by decide) ?_
      refine rr_lshl32 F dL_law_1794 ?_
      refine lv_aload_n F.1 F.2.1 dL_law_1795 rfl (lv_at hl 5 rfl) ?_
      refine lv_iload F.1 F.2.1 dL_law_1796 (lv_at hl 1 rfl) ?_
      refine rr_iconst F dL_law_1798 ?_
      refine rr_iadd F (z := i + 3) dL_law_1799 rfl ?_
      refine rr_sld F (A := fun q => s.heap.size ≤ q) hxs hb hbA hS (by omega) (by omega) hL dL_law_1800 ?_
      refine rr_i2l F dL_law_1801 (XI_r _ _) ?_
      refine rr_ldc2 F 4294967295 rfl tw1252 dL_law_1802 ?_
      refine rr_landL F dL_law_1805 ?_
      refine rr_lorL F dL_law_1806 ?_
      refine rr_wrVp (rest := []) F hK (c_X7_runScript l D cy (w 0 0) (w 0 1) (w 0 2) (w 0 3) (w 0 4) (w 0 5) (w 0 6) tr ct tl a th (XI xs (i + 1)) (lOr (shv (XI xs (i + 2))) (lAn (XI xs (i + 3)) 4294967295)) hM ⟨by omega, by omega⟩ (XI_r _ _) (inL_of _) (by first | assumption | omega | exact ⟨by omega, by omega⟩) (by first | assumption | omega | exact ⟨by omega, by omega⟩)) hP hD hS hA sf_X7_runScript tw1216 7 rfl rfl ⟨Nat.le_of_ble_eq_true rfl, Nat.le_of_ble_eq_true rfl⟩ hl rfl (Nat.le_of_ble_eq_true rfl) dL_law_1807 ⟨by show cells + 1 ≤ 601024; omega, by show slots + 6 ≤ 7293033; omega⟩ (pm_mNT cy u w out tl tc ol ct tr fv a G (scE a (lOr (shv (XI xs (i + 2))) (lAn (XI xs (i + 3)) 4294967295)) (XI xs (i + 1)) (low (fun u_t => ¬ okT (scR a (lOr (shv (XI xs (i + 2))) (lAn (XI xs (i + 3)) 4294967295)) (XI xs (i + 1)) u_t) (dg (lOr (shv (XI xs (i + 2))) (lAn (XI xs (i + 3)) 4294967295)) (XI xs (i + 1)) u_t)) (XI xs (i + 1)))) (GScE a G (lOr (shv (XI xs (i + 2))) (lAn (XI xs (i + 3)) 4294967295)) (XI xs (i + 1)) (low (fun u_t => ¬ okT (scR a (lOr (shv (XI xs (i + 2))) (lAn (XI xs (i + 3)) 4294967295)) (XI xs (i + 1)) u_t) (dg (lOr (shv (XI xs (i + 2))) (lAn (XI xs (i + 3)) 4294967295)) (XI xs (i + 1)) u_t)) (XI xs (i + 1)))) As Gs Ah Gh th ap asl (vp_updL of 0 (lI (low (fun u_t => ¬ okT (scR a (lOr (shv (XI xs (i + 2))) (lAn (XI xs (i + 3)) 4294967295)) (XI xs (i + 1)) u_t) (dg (lOr (shv (XI xs (i + 2))) (lAn (XI xs (i + 3)) 4294967295)) (XI xs (i + 1)) u_t)) (XI xs (i + 1))))) tl tc ct a fv) rfl (fun H locs hP hD hS _ => ?_)
      have hP : va_P D vwCl (LW cy u w out tl tc ol ct 0 fv a G (scE a (lOr (shv (XI xs (i + 2))) (lAn (XI xs (i + 3)) 4294967295)) (XI xs (i + 1)) (low (fun u_t => ¬ okT (scR a (lOr (shv (XI xs (i + 2))) (lAn (XI xs (i + 3)) 4294967295)) (XI xs (i + 1)) u_t) (dg (lOr (shv (XI xs (i + 2))) (lAn (XI xs (i + 3)) 4294967295)) (XI xs (i + 1)) u_t)) (XI xs (i + 1)))) (GScE a G (lOr (shv (XI xs (i + 2))) (lAn (XI xs (i + 3)) 4294967295)) (XI xs (i + 1)) (low (fun u_t => ¬ okT (scR a (lOr (shv (XI xs (i + 2))) (lAn (XI xs (i + 3)) 4294967295)) (XI xs (i + 1)) u_t) (dg (lOr (shv (XI xs (i + 2))) (lAn (XI xs (i + 3)) 4294967295)) (XI xs (i + 1)) u_t)) (XI xs (i + 1)))) As Gs Ah Gh (scE a (lOr (shv (XI xs (i + 2))) (lAn (XI xs (i + 3)) 4294967295)) (XI xs (i + 1)) (low (fun u_t => ¬ okT (scR a (lOr (shv (XI xs (i + 2))) (lAn (XI xs (i + 3)) 4294967295)) (XI xs (i + 1)) u_t) (dg (lOr (shv (XI xs (i + 2))) (lAn (XI xs (i + 3)) 4294967295)) (XI xs (i + 1)) u_t)) (XI xs (i + 1)))) ap asl (vp_updL of 0 (lI (low (fun u_t => ¬ okT (scR a (lOr (shv (XI xs (i + 2))) (lAn (XI xs (i + 3)) 4294967295)) (XI xs (i + 1)) u_t) (dg (lOr (shv (XI xs (i + 2))) (lAn (XI xs (i + 3)) 4294967295)) (XI xs (i + 1)) u_t)) (XI xs (i + 1))))) tl tc ct a fv) H := hP.perm ((pm_mNT cy u w out tl tc ol ct 0 fv a G (scE a (lOr (shv (XI xs (i + 2))) (lAn (XI xs (i + 3)) 4294967295)) (XI xs (i + 1)) (low (fun u_t => ¬ okT (scR a (lOr (shv (XI xs (i + 2))) (lAn (XI xs (i + 3)) 4294967295)) (XI xs (i + 1)) u_t) (dg (lOr (shv (XI xs (i + 2))) (lAn (XI xs (i + 3)) 4294967295)) (XI xs (i + 1)) u_t)) (XI xs (i + 1)))) (GScE a G (lOr (shv (XI xs (i + 2))) (lAn (XI xs (i + 3)) 4294967295)) (XI xs (i + 1)) (low (fun u_t => ¬ okT (scR a (lOr (shv (XI xs (i + 2))) (lAn (XI xs (i + 3)) 4294967295)) (XI xs (i + 1)) u_t) (dg (lOr (shv (XI xs (i + 2))) (lAn (XI xs (i + 3)) 4294967295)) (XI xs (i + 1)) u_t)) (XI xs (i + 1)))) As Gs Ah Gh (scE a (lOr (shv (XI xs (i + 2))) (lAn (XI xs (i + 3)) 4294967295)) (XI xs (i + 1)) (low (fun u_t => ¬ okT (scR a (lOr (shv (XI xs (i + 2))) (lAn (XI xs (i + 3)) 4294967295)) (XI xs (i + 1)) u_t) (dg (lOr (shv (XI xs (i + 2))) (lAn (XI xs (i + 3)) 4294967295)) (XI xs (i + 1)) u_t)) (XI xs (i + 1)))) ap asl (vp_updL of 0 (lI (low (fun u_t => ¬ okT (scR a (lOr (shv (XI xs (i + 2))) (lAn (XI xs (i + 3)) 4294967295)) (XI xs (i + 1)) u_t) (dg (lOr (shv (XI xs (i + 2))) (lAn (XI xs (i + 3)) 4294967295)) (XI xs (i + 1)) u_t)) (XI xs (i + 1))))) tl tc ct a fv).symm)
      have hD : va_D (fun q => s.heap.size ≤ q) (LW cy u w out tl tc ol ct 0 fv a G (scE a (lOr (shv (XI xs (i + 2))) (lAn (XI xs (i + 3)) 4294967295)) (XI xs (i + 1)) (low (fun u_t => ¬ okT (scR a (lOr (shv (XI xs (i + 2))) (lAn (XI xs (i + 3)) 4294967295)) (XI xs (i + 1)) u_t) (dg (lOr (shv (XI xs (i + 2))) (lAn (XI xs (i + 3)) 4294967295)) (XI xs (i + 1)) u_t)) (XI xs (i + 1)))) (GScE a G (lOr (shv (XI xs (i + 2))) (lAn (XI xs (i + 3)) 4294967295)) (XI xs (i + 1)) (low (fun u_t => ¬ okT (scR a (lOr (shv (XI xs (i + 2))) (lAn (XI xs (i + 3)) 4294967295)) (XI xs (i + 1)) u_t) (dg (lOr (shv (XI xs (i + 2))) (lAn (XI xs (i + 3)) 4294967295)) (XI xs (i + 1)) u_t)) (XI xs (i + 1)))) As Gs Ah Gh (scE a (lOr (shv (XI xs (i + 2))) (lAn (XI xs (i + 3)) 4294967295)) (XI xs (i + 1)) (low (fun u_t => ¬ okT (scR a (lOr (shv (XI xs (i + 2))) (lAn (XI xs (i + 3)) 4294967295)) (XI xs (i + 1)) u_t) (dg (lOr (shv (XI xs (i + 2))) (lAn (XI xs (i + 3)) 4294967295)) (XI xs (i + 1)) u_t)) (XI xs (i + 1)))) ap asl (vp_updL of 0 (lI (low (fun u_t => ¬ okT (scR a (lOr (shv (XI xs (i + 2))) (lAn (XI xs (i + 3)) 4294967295)) (XI xs (i + 1)) u_t) (dg (lOr (shv (XI xs (i + 2))) (lAn (XI xs (i + 3)) 4294967295)) (XI xs (i + 1)) u_t)) (XI xs (i + 1))))) tl tc ct a fv) := hD.perm ((pm_mNT cy u w out tl tc ol ct 0 fv a G (scE a (lOr (shv (XI xs (i + 2))) (lAn (XI xs (i + 3)) 4294967295)) (XI xs (i + 1)) (low (fun u_t => ¬ okT (scR a (lOr (shv (XI xs (i + 2))) (lAn (XI xs (i + 3)) 4294967295)) (XI xs (i + 1)) u_t) (dg (lOr (shv (XI xs (i + 2))) (lAn (XI xs (i + 3)) 4294967295)) (XI xs (i + 1)) u_t)) (XI xs (i + 1)))) (GScE a G (lOr (shv (XI xs (i + 2))) (lAn (XI xs (i + 3)) 4294967295)) (XI xs (i + 1)) (low (fun u_t => ¬ okT (scR a (lOr (shv (XI xs (i + 2))) (lAn (XI xs (i + 3)) 4294967295)) (XI xs (i + 1)) u_t) (dg (lOr (shv (XI xs (i + 2))) (lAn (XI xs (i + 3)) 4294967295)) (XI xs (i + 1)) u_t)) (XI xs (i + 1)))) As Gs Ah Gh (scE a (lOr (shv (XI xs (i + 2))) (lAn (XI xs (i + 3)) 4294967295)) (XI xs (i + 1)) (low (fun u_t => ¬ okT (scR a (lOr (shv (XI xs (i + 2))) (lAn (XI xs (i + 3)) 4294967295)) (XI xs (i + 1)) u_t) (dg (lOr (shv (XI xs (i + 2))) (lAn (XI xs (i + 3)) 4294967295)) (XI xs (i + 1)) u_t)) (XI xs (i + 1)))) ap asl (vp_updL of 0 (lI (low (fun u_t => ¬ okT (scR a (lOr (shv (XI xs (i + 2))) (lAn (XI xs (i + 3)) 4294967295)) (XI xs (i + 1)) u_t) (dg (lOr (shv (XI xs (i + 2))) (lAn (XI xs (i + 3)) 4294967295)) (XI xs (i + 1)) u_t)) (XI xs (i + 1))))) tl tc ct a fv).symm)
      have hP : va_P D vwCl (LW cy u w out tl tc ol ct 0 fv a G (scE a (lOr (shv (XI xs (i + 2))) (lAn (XI xs (i + 3)) 4294967295)) (XI xs (i + 1)) (low (fun u_t => ¬ okT (scR a (lOr (shv (XI xs (i + 2))) (lAn (XI xs (i + 3)) 4294967295)) (XI xs (i + 1)) u_t) (dg (lOr (shv (XI xs (i + 2))) (lAn (XI xs (i + 3)) 4294967295)) (XI xs (i + 1)) u_t)) (XI xs (i + 1)))) (GScE a G (lOr (shv (XI xs (i + 2))) (lAn (XI xs (i + 3)) 4294967295)) (XI xs (i + 1)) (low (fun u_t => ¬ okT (scR a (lOr (shv (XI xs (i + 2))) (lAn (XI xs (i + 3)) 4294967295)) (XI xs (i + 1)) u_t) (dg (lOr (shv (XI xs (i + 2))) (lAn (XI xs (i + 3)) 4294967295)) (XI xs (i + 1)) u_t)) (XI xs (i + 1)))) As Gs Ah Gh (scE a (lOr (shv (XI xs (i + 2))) (lAn (XI xs (i + 3)) 4294967295)) (XI xs (i + 1)) (low (fun u_t => ¬ okT (scR a (lOr (shv (XI xs (i + 2))) (lAn (XI xs (i + 3)) 4294967295)) (XI xs (i + 1)) u_t) (dg (lOr (shv (XI xs (i + 2))) (lAn (XI xs (i + 3)) 4294967295)) (XI xs (i + 1)) u_t)) (XI xs (i + 1)))) ap asl (vp_updL of 0 (lI (low (fun u_t => ¬ okT (scR a (lOr (shv (XI xs (i + 2))) (lAn (XI xs (i + 3)) 4294967295)) (XI xs (i + 1)) u_t) (dg (lOr (shv (XI xs (i + 2))) (lAn (XI xs (i + 3)) 4294967295)) (XI xs (i + 1)) u_t)) (XI xs (i + 1))))) tl tc ct a fv) H := hP
      have hD : va_D (fun q => s.heap.size ≤ q) (LW cy u w out tl tc ol ct 0 fv a G (scE a (lOr (shv (XI xs (i + 2))) (lAn (XI xs (i + 3)) 4294967295)) (XI xs (i + 1)) (low (fun u_t => ¬ okT (scR a (lOr (shv (XI xs (i + 2))) (lAn (XI xs (i + 3)) 4294967295)) (XI xs (i + 1)) u_t) (dg (lOr (shv (XI xs (i + 2))) (lAn (XI xs (i + 3)) 4294967295)) (XI xs (i + 1)) u_t)) (XI xs (i + 1)))) (GScE a G (lOr (shv (XI xs (i + 2))) (lAn (XI xs (i + 3)) 4294967295)) (XI xs (i + 1)) (low (fun u_t => ¬ okT (scR a (lOr (shv (XI xs (i + 2))) (lAn (XI xs (i + 3)) 4294967295)) (XI xs (i + 1)) u_t) (dg (lOr (shv (XI xs (i + 2))) (lAn (XI xs (i + 3)) 4294967295)) (XI xs (i + 1)) u_t)) (XI xs (i + 1)))) As Gs Ah Gh (scE a (lOr (shv (XI xs (i + 2))) (lAn (XI xs (i + 3)) 4294967295)) (XI xs (i + 1)) (low (fun u_t => ¬ okT (scR a (lOr (shv (XI xs (i + 2))) (lAn (XI xs (i + 3)) 4294967295)) (XI xs (i + 1)) u_t) (dg (lOr (shv (XI xs (i + 2))) (lAn (XI xs (i + 3)) 4294967295)) (XI xs (i + 1)) u_t)) (XI xs (i + 1)))) ap asl (vp_updL of 0 (lI (low (fun u_t => ¬ okT (scR a (lOr (shv (XI xs (i + 2))) (lAn (XI xs (i + 3)) 4294967295)) (XI xs (i + 1)) u_t) (dg (lOr (shv (XI xs (i + 2))) (lAn (XI xs (i + 3)) 4294967295)) (XI xs (i + 1)) u_t)) (XI xs (i + 1))))) tl tc ct a fv) := hD
      refine lv_istore (lv' := [(6, vI (low (fun u_t => ¬ okT (scR a (lOr (shv (XI xs (i + 2))) (lAn (XI xs (i + 3)) 4294967295)) (XI xs (i + 1)) u_t) (dg (lOr (shv (XI xs (i + 2))) (lAn (XI xs (i + 3)) 4294967295)) (XI xs (i + 1)) u_t)) (XI xs (i + 1)))), (5, vI 0), (4, vI i), (3, .ref out), (2, .ref (w 0 0)), (1, .ref (u 0 0)), (0, .ref b)]) F.1 F.2.1 dL_law_1810 hl (by decide) rfl (fun ls hl => ?_)
      refine lv_aload_n F.1 F.2.1 dL_law_1812 rfl (lv_at hl 4 rfl) ?_
      refine rr_rdVp (rest := []) F hK (c_X7_thrown l D cy (w 0 0) (w 0 1) (w 0 2) (w 0 3) (w 0 4) (w 0 5) (w 0 6) 0 ct tl) hP (pm_m0 cy u w out tl tc ol ct 0 fv a G (scE a (lOr (shv (XI xs (i + 2))) (lAn (XI xs (i + 3)) 4294967295)) (XI xs (i + 1)) (low (fun u_t => ¬ okT (scR a (lOr (shv (XI xs (i + 2))) (lAn (XI xs (i + 3)) 4294967295)) (XI xs (i + 1)) u_t) (dg (lOr (shv (XI xs (i + 2))) (lAn (XI xs (i + 3)) 4294967295)) (XI xs (i + 1)) u_t)) (XI xs (i + 1)))) (GScE a G (lOr (shv (XI xs (i + 2))) (lAn (XI xs (i + 3)) 4294967295)) (XI xs (i + 1)) (low (fun u_t => ¬ okT (scR a (lOr (shv (XI xs (i + 2))) (lAn (XI xs (i + 3)) 4294967295)) (XI xs (i + 1)) u_t) (dg (lOr (shv (XI xs (i + 2))) (lAn (XI xs (i + 3)) 4294967295)) (XI xs (i + 1)) u_t)) (XI xs (i + 1)))) As Gs Ah Gh (scE a (lOr (shv (XI xs (i + 2))) (lAn (XI xs (i + 3)) 4294967295)) (XI xs (i + 1)) (low (fun u_t => ¬ okT (scR a (lOr (shv (XI xs (i + 2))) (lAn (XI xs (i + 3)) 4294967295)) (XI xs (i + 1)) u_t) (dg (lOr (shv (XI xs (i + 2))) (lAn (XI xs (i + 3)) 4294967295)) (XI xs (i + 1)) u_t)) (XI xs (i + 1)))) ap asl (vp_updL of 0 (lI (low (fun u_t => ¬ okT (scR a (lOr (shv (XI xs (i + 2))) (lAn (XI xs (i + 3)) 4294967295)) (XI xs (i + 1)) u_t) (dg (lOr (shv (XI xs (i + 2))) (lAn (XI xs (i + 3)) 4294967295)) (XI xs (i + 1)) u_t)) (XI xs (i + 1))))) tl tc ct a fv) sf_X7_thrown tw902 7 rfl rfl ⟨Nat.le_of_ble_eq_true rfl, Nat.le_of_ble_eq_true rfl⟩ hl rfl (Nat.le_of_ble_eq_true rfl) dL_law_1813 ⟨by show cells + 1 ≤ 601024; omega, by show slots + 6 ≤ 7293033; omega⟩ ?_
      refine lv_iload F.1 F.2.1 dL_law_1816 (lv_at hl 1 rfl) ?_
      refine rr_icmp_eq F (tgt := 1823) dL_law_1818 (by decide) ⟨by omega, by omega⟩ ⟨by omega, by omega⟩ (fun _ => ?_) (fun z => absurd rfl z)
      refine lv_iload F.1 F.2.1 dL_law_1823 (lv_at hl 1 rfl) ?_
      refine rr_if_ne F (tgt := 1840) dL_law_1825 (by decide) ⟨by omega, by omega⟩ (fun z => absurd rfl z) (fun _ => ?_)
      refine lv_aload_n F.1 F.2.1 dL_law_1828 rfl (lv_at hl 3 rfl) ?_
      refine rr_iconst F dL_law_1829 ?_
      refine rr_lald0 F hK (hP.perm (pm_o cy u w out tl tc ol ct 0 fv a G (scE a (lOr (shv (XI xs (i + 2))) (lAn (XI xs (i + 3)) 4294967295)) (XI xs (i + 1)) (low (fun u_t => ¬ okT (scR a (lOr (shv (XI xs (i + 2))) (lAn (XI xs (i + 3)) 4294967295)) (XI xs (i + 1)) u_t) (dg (lOr (shv (XI xs (i + 2))) (lAn (XI xs (i + 3)) 4294967295)) (XI xs (i + 1)) u_t)) (XI xs (i + 1)))) (GScE a G (lOr (shv (XI xs (i + 2))) (lAn (XI xs (i + 3)) 4294967295)) (XI xs (i + 1)) (low (fun u_t => ¬ okT (scR a (lOr (shv (XI xs (i + 2))) (lAn (XI xs (i + 3)) 4294967295)) (XI xs (i + 1)) u_t) (dg (lOr (shv (XI xs (i + 2))) (lAn (XI xs (i + 3)) 4294967295)) (XI xs (i + 1)) u_t)) (XI xs (i + 1)))) As Gs Ah Gh (scE a (lOr (shv (XI xs (i + 2))) (lAn (XI xs (i + 3)) 4294967295)) (XI xs (i + 1)) (low (fun u_t => ¬ okT (scR a (lOr (shv (XI xs (i + 2))) (lAn (XI xs (i + 3)) 4294967295)) (XI xs (i + 1)) u_t) (dg (lOr (shv (XI xs (i + 2))) (lAn (XI xs (i + 3)) 4294967295)) (XI xs (i + 1)) u_t)) (XI xs (i + 1)))) ap asl (vp_updL of 0 (lI (low (fun u_t => ¬ okT (scR a (lOr (shv (XI xs (i + 2))) (lAn (XI xs (i + 3)) 4294967295)) (XI xs (i + 1)) u_t) (dg (lOr (shv (XI xs (i + 2))) (lAn (XI xs (i + 3)) 4294967295)) (XI xs (i + 1)) u_t)) (XI xs (i + 1))))) tl tc ct a fv)) 0 rfl dL_law_1830 ?_
      refine lv_iload F.1 F.2.1 dL_law_1831 (lv_at hl 0 rfl) ?_
      refine rr_i2l F dL_law_1833 hvr ?_
      refine rr_lcmp F (a := low (fun u_t => ¬ okT (scR a (lOr (shv (XI xs (i + 2))) (lAn (XI xs (i + 3)) 4294967295)) (XI xs (i + 1)) u_t) (dg (lOr (shv (XI xs (i + 2))) (lAn (XI xs (i + 3)) 4294967295)) (XI xs (i + 1)) u_t)) (XI xs (i + 1))) (b := low (fun u_t => ¬ okT (scR a (lOr (shv (XI xs (i + 2))) (lAn (XI xs (i + 3)) 4294967295)) (XI xs (i + 1)) u_t) (dg (lOr (shv (XI xs (i + 2))) (lAn (XI xs (i + 3)) 4294967295)) (XI xs (i + 1)) u_t)) (XI xs (i + 1))) dL_law_1834 (inL_r hvr) (inL_r hvr) ?_
      refine rr_if_eq F (tgt := 1840) dL_law_1835 (by decide) (lcm_r _ _) (fun _ => ?_) (fun z => absurd ((lcm_spec _ _).2.1.mpr rfl) z)
      refine lv_goto (tgt := 2055) F.1 F.2.1 dL_law_1840 (by decide) ?_
      exact kk _ _ _ _ _ _ _ _ _ _ _ _ _ _ _ _ _ _ H locs ls (hI.mono (by omega)) hP hD hS (lv_sub hl [2, 3, 4, 5, 6] rfl)
    · refine rr_twS (rest := []) F hK hX hZ1 (r_runScript_60 l hnt D cy sa (u 0 0) (u 1 0) (u 2 0) (u 3 0) (u 4 0) (u 0 1) (u 0 2) (XI xs (i + 1)) (lOr (shv (XI xs (i + 2))) (lAn (XI xs (i + 3)) 4294967295)) out (XI_r _ _) (inL_of _) (by first | assumption | omega | exact ⟨by omega, by omega⟩) (by first | assumption | omega | exact ⟨by omega, by omega⟩)) hP hS sfw_runScript tw819 ⟨Nat.le_of_ble_eq_true rfl, Nat.le_of_ble_eq_true rfl⟩ hl rfl (Nat.le_of_ble_eq_true rfl) dL_law_1773 ⟨by show cells + 1 ≤ 601024; omega, by show slots + 6 ≤ 7293033; omega⟩ (pm_c0 cy u w out tl tc ol ct tr fv a G ak Gk As Gs Ah Gh th ap asl of tl tc ct a fv) (fun H locs hP hS _ => ?_)
      refine lv_istore (lv' := [(5, vI 1), (4, vI i), (3, .ref out), (2, .ref (w 0 0)), (1, .ref (u 0 0)), (0, .ref b)]) F.1 F.2.1 dL_law_1776 hl (by decide) rfl (fun ls hl => ?_)
      refine lv_aload_n F.1 F.2.1 dL_law_1778 rfl (lv_at hl 3 rfl) ?_
      refine lv_aload_n F.1 F.2.1 dL_law_1779 rfl (lv_at hl 5 rfl) ?_
      refine lv_iload F.1 F.2.1 dL_law_1780 (lv_at hl 1 rfl) ?_
      refine rr_iconst F dL_law_1782 ?_
      refine rr_iadd F (z := i + 1) dL_law_1783 rfl ?_
      refine rr_sld F (A := fun q => s.heap.size ≤ q) hxs hb hbA hS (by omega) (by omega) hL dL_law_1784 ?_
      refine lv_aload_n F.1 F.2.1 dL_law_1785 rfl (lv_at hl 5 rfl) ?_
      refine lv_iload F.1 F.2.1 dL_law_1786 (lv_at hl 1 rfl) ?_
      refine rr_iconst F dL_law_1788 ?_
      refine rr_iadd F (z := i + 2) dL_law_1789 rfl ?_
      refine rr_sld F (A := fun q => s.heap.size ≤ q) hxs hb hbA hS (by omega) (by omega) hL dL_law_1790 ?_
      refine rr_i2l F dL_law_1791 (XI_r _ _) ?_
      refine rr_bipush F dL_law_1792 (by decide) ?_
      refine rr_lshl32 F dL_law_1794 ?_
      refine lv_aload_n F.1 F.2.1 dL_law_1795 rfl (lv_at hl 5 rfl) ?_
      refine lv_iload F.1 F.2.1 dL_law_1796 (lv_at hl 1 rfl) ?_
      refine rr_iconst F dL_law_1798 ?_
      refine rr_iadd F (z := i + 3) dL_law_1799 rfl ?_
      refine rr_sld F (A := fun q => s.heap.size ≤ q) hxs hb hbA hS (by omega) (by omega) hL dL_law_1800 ?_
      refine rr_i2l F dL_law_1801 (XI_r _ _) ?_
      refine rr_ldc2 F 4294967295 rfl tw1252 dL_law_1802 ?_
      refine rr_landL F dL_law_1805 ?_
      refine rr_lorL F dL_law_1806 ?_
      have hcode : (1 : Int) = 1 := by first | rfl | ((repeat' split) <;> first | rfl | omega)
      refine rr_wrVp (rest := []) F hK (n_X7_runScript l D cy (w 0 0) (w 0 1) (w 0 2) (w 0 3) (w 0 4) (w 0 5) (w 0 6) tr ct tl a th (XI xs (i + 1)) (lOr (shv (XI xs (i + 2))) (lAn (XI xs (i + 3)) 4294967295)) hM ⟨by omega, by omega⟩ (XI_r _ _) (inL_of _) (by first | assumption | omega)) hP hD hS hA sf_X7_runScript tw1216 7 rfl rfl ⟨Nat.le_of_ble_eq_true rfl, Nat.le_of_ble_eq_true rfl⟩ hl rfl (Nat.le_of_ble_eq_true rfl) dL_law_1807 ⟨by show cells + 1 ≤ 601024; omega, by show slots + 6 ≤ 7293033; omega⟩ (pm_mNT cy u w out tl tc ol ct tr fv a G ak Gk As Gs Ah Gh th ap asl of tl tc ct a fv) rfl (fun H locs hP hD hS _ => ?_)
      have hP : va_P D vwCl (LW cy u w out tl tc ol ct 1 fv a G ak Gk As Gs Ah Gh th ap asl of tl tc ct a fv) H := hP.perm ((pm_mNT cy u w out tl tc ol ct 1 fv a G ak Gk As Gs Ah Gh th ap asl of tl tc ct a fv).symm)
      have hD : va_D (fun q => s.heap.size ≤ q) (LW cy u w out tl tc ol ct 1 fv a G ak Gk As Gs Ah Gh th ap asl of tl tc ct a fv) := hD.perm ((pm_mNT cy u w out tl tc ol ct 1 fv a G ak Gk As Gs Ah Gh th ap asl of tl tc ct a fv).symm)
      refine lv_istore (lv' := [(6, vI 0), (5, vI 1), (4, vI i), (3, .ref out), (2, .ref (w 0 0)), (1, .ref (u 0 0)), (0, .ref b)]) F.1 F.2.1 dL_law_1810 hl (by decide) rfl (fun ls hl => ?_)
      refine lv_aload_n F.1 F.2.1 dL_law_1812 rfl (lv_at hl 4 rfl) ?_
      refine rr_rdVp (rest := []) F hK (c_X7_thrown l D cy (w 0 0) (w 0 1) (w 0 2) (w 0 3) (w 0 4) (w 0 5) (w 0 6) 1 ct tl) hP (pm_m0 cy u w out tl tc ol ct 1 fv a G ak Gk As Gs Ah Gh th ap asl of tl tc ct a fv) sf_X7_thrown tw902 7 rfl rfl ⟨Nat.le_of_ble_eq_true rfl, Nat.le_of_ble_eq_true rfl⟩ hl rfl (Nat.le_of_ble_eq_true rfl) dL_law_1813 ⟨by show cells + 1 ≤ 601024; omega, by show slots + 6 ≤ 7293033; omega⟩ ?_
      refine lv_iload F.1 F.2.1 dL_law_1816 (lv_at hl 1 rfl) ?_
      refine rr_icmp_eq F (tgt := 1823) dL_law_1818 (by decide) ⟨by omega, by omega⟩ ⟨by omega, by omega⟩ (fun _ => ?_) (fun z => absurd rfl z)
      refine lv_iload F.1 F.2.1 dL_law_1823 (lv_at hl 1 rfl) ?_
      refine rr_if_ne F (tgt := 1840) dL_law_1825 (by decide) ⟨by omega, by omega⟩ (fun _ => ?_) (fun z => by omega)
      refine lv_goto (tgt := 2055) F.1 F.2.1 dL_law_1840 (by decide) ?_
      exact kk _ _ _ _ _ _ _ _ _ _ _ _ _ _ _ _ _ _ H locs ls (hI.mono (by omega)) hP hD hS (lv_sub hl [2, 3, 4, 5, 6] rfl)
  · refine rr_twS (rest := []) F hK hX hZ1 (r_runScript_10 l hnt D cy sa (u 0 0) (u 1 0) (u 2 0) (u 3 0) (u 4 0) (u 0 1) (u 0 2) (XI xs (i + 1)) (lOr (shv (XI xs (i + 2))) (lAn (XI xs (i + 3)) 4294967295)) out (XI_r _ _) (by first | assumption | omega | exact ⟨by omega, by omega⟩)) hP hS sfw_runScript tw819 ⟨Nat.le_of_ble_eq_true rfl, Nat.le_of_ble_eq_true rfl⟩ hl rfl (Nat.le_of_ble_eq_true rfl) dL_law_1773 ⟨by show cells + 1 ≤ 601024; omega, by show slots + 6 ≤ 7293033; omega⟩ (pm_c0 cy u w out tl tc ol ct tr fv a G ak Gk As Gs Ah Gh th ap asl of tl tc ct a fv) (fun H locs hP hS _ => ?_)
    refine lv_istore (lv' := [(5, vI 1), (4, vI i), (3, .ref out), (2, .ref (w 0 0)), (1, .ref (u 0 0)), (0, .ref b)]) F.1 F.2.1 dL_law_1776 hl (by decide) rfl (fun ls hl => ?_)
    refine lv_aload_n F.1 F.2.1 dL_law_1778 rfl (lv_at hl 3 rfl) ?_
    refine lv_aload_n F.1 F.2.1 dL_law_1779 rfl (lv_at hl 5 rfl) ?_
    refine lv_iload F.1 F.2.1 dL_law_1780 (lv_at hl 1 rfl) ?_
    refine rr_iconst F dL_law_1782 ?_
    refine rr_iadd F (z := i + 1) dL_law_1783 rfl ?_
    refine rr_sld F (A := fun q => s.heap.size ≤ q) hxs hb hbA hS (by omega) (by omega) hL dL_law_1784 ?_
    refine lv_aload_n F.1 F.2.1 dL_law_1785 rfl (lv_at hl 5 rfl) ?_
    refine lv_iload F.1 F.2.1 dL_law_1786 (lv_at hl 1 rfl) ?_
    refine rr_iconst F dL_law_1788 ?_
    refine rr_iadd F (z := i + 2) dL_law_1789 rfl ?_
    refine rr_sld F (A := fun q => s.heap.size ≤ q) hxs hb hbA hS (by omega) (by omega) hL dL_law_1790 ?_
    refine rr_i2l F dL_law_1791 (XI_r _ _) ?_
    refine rr_bipush F dL_law_1792 (by decide) ?_
    refine rr_lshl32 F dL_law_1794 ?_
    refine lv_aload_n F.1 F.2.1 dL_law_1795 rfl (lv_at hl 5 rfl) ?_
    refine lv_iload F.1 F.2.1 dL_law_1796 (lv_at hl 1 rfl) ?_
    refine rr_iconst F dL_law_1798 ?_
    refine rr_iadd F (z := i + 3) dL_law_1799 rfl ?_
    refine rr_sld F (A := fun q => s.heap.size ≤ q) hxs hb hbA hS (by omega) (by omega) hL dL_law_1800 ?_
    refine rr_i2l F dL_law_1801 (XI_r _ _) ?_
    refine rr_ldc2 F 4294967295 rfl tw1252 dL_law_1802 ?_
    refine rr_landL F dL_law_1805 ?_
    refine rr_lorL F dL_law_1806 ?_
    have hcode : (1 : Int) = 1 := by first | rfl | ((repeat' split) <;> first | rfl | omega)
    refine rr_wrVp (rest := []) F hK (n_X7_runScript l D cy (w 0 0) (w 0 1) (w 0 2) (w 0 3) (w 0 4) (w 0 5) (w 0 6) tr ct tl a th (XI xs (i + 1)) (lOr (shv (XI xs (i + 2))) (lAn (XI xs (i + 3)) 4294967295)) hM ⟨by omega, by omega⟩ (XI_r _ _) (inL_of _) (by first | assumption | omega)) hP hD hS hA sf_X7_runScript tw1216 7 rfl rfl ⟨Nat.le_of_ble_eq_true rfl, Nat.le_of_ble_eq_true rfl⟩ hl rfl (Nat.le_of_ble_eq_true rfl) dL_law_1807 ⟨by show cells + 1 ≤ 601024; omega, by show slots + 6 ≤ 7293033; omega⟩ (pm_mNT cy u w out tl tc ol ct tr fv a G ak Gk As Gs Ah Gh th ap asl of tl tc ct a fv) rfl (fun H locs hP hD hS _ => ?_)
    have hP : va_P D vwCl (LW cy u w out tl tc ol ct 1 fv a G ak Gk As Gs Ah Gh th ap asl of tl tc ct a fv) H := hP.perm ((pm_mNT cy u w out tl tc ol ct 1 fv a G ak Gk As Gs Ah Gh th ap asl of tl tc ct a fv).symm)
    have hD : va_D (fun q => s.heap.size ≤ q) (LW cy u w out tl tc ol ct 1 fv a G ak Gk As Gs Ah Gh th ap asl of tl tc ct a fv) := hD.perm ((pm_mNT cy u w out tl tc ol ct 1 fv a G ak Gk As Gs Ah Gh th ap asl of tl tc ct a fv).symm)
    refine lv_istore (lv' := [(6, vI 0), (5, vI 1), (4, vI i), (3, .ref out), (2, .ref (w 0 0)), (1, .ref (u 0 0)), (0, .ref b)]) F.1 F.2.1 dL_law_1810 hl (by decide) rfl (fun ls hl => ?_)
    refine lv_aload_n F.1 F.2.1 dL_law_1812 rfl (lv_at hl 4 rfl) ?_
    refine rr_rdVp (rest := []) F hK (c_X7_thrown l D cy (w 0 0) (w 0 1) (w 0 2) (w 0 3) (w 0 4) (w 0 5) (w 0 6) 1 ct tl) hP (pm_m0 cy u w out tl tc ol ct 1 fv a G ak Gk As Gs Ah Gh th ap asl of tl tc ct a fv) sf_X7_thrown tw902 7 rfl rfl ⟨Nat.le_of_ble_eq_true rfl, Nat.le_of_ble_eq_true rfl⟩ hl rfl (Nat.le_of_ble_eq_true rfl) dL_law_1813 ⟨by show cells + 1 ≤ 601024; omega, by show slots + 6 ≤ 7293033; omega⟩ ?_
    refine lv_iload F.1 F.2.1 dL_law_1816 (lv_at hl 1 rfl) ?_
    refine rr_icmp_eq F (tgt := 1823) dL_law_1818 (by decide) ⟨by omega, by omega⟩ ⟨by omega, by omega⟩ (fun _ => ?_) (fun z => absurd rfl z)
    refine lv_iload F.1 F.2.1 dL_law_1823 (lv_at hl 1 rfl) ?_
    refine rr_if_ne F (tgt := 1840) dL_law_1825 (by decide) ⟨by omega, by omega⟩ (fun _ => ?_) (fun z => by omega)
    refine lv_goto (tgt := 2055) F.1 F.2.1 dL_law_1840 (by decide) ?_
    exact kk _ _ _ _ _ _ _ _ _ _ _ _ _ _ _ _ _ _ H locs ls (hI.mono (by omega)) hP hD hS (lv_sub hl [2, 3, 4, 5, 6] rfl)
set_option maxRecDepth 100000 in
set_option maxHeartbeats 8000000 in
theorem lc_simulate {p : Program} {l : Launch} {e : Env} {s : State} {m : MethodId} {args : Array Value} {below : List Frame} {meth : Method} {c : Code} {Q : State → Prop} {b L : Nat} {xs : Nat → Int32} {D : va_G} {cy : Nat → ClassId} {sa : Nat → Nat} {u w : NU} {out : Nat} (hnt : l.stackTraces = false) (F : FX p m c cL_law 7 s args RL) (hK : KK D cy s) (hX : XK sa s) (hZ0 : ZK (fun q => s.heap.size ≤ q) s s.heap) (hxs : va_X b L xs s s.heap) (hb : b < s.heap.size) (hL : L ≤ 2560) {N : Int} {tl : Int} {tc : Int → Int} {ol : Int} {ct : Int} {tr : Int} {fv : Int → Int} {a : Int → Int} {G : Int → Int → Int} {ak : Int → Int} {Gk : Int → Int → Int} {As : Nat → Int → Int} {Gs : Nat → Int → Int → Int} {Ah : Nat → Int → Int} {Gh : Nat → Int → Int → Int} {th : Int → Int} {ap : Int → Int} {asl : Int → Int} {of : Nat → Int64} (hI : INV N tl tc ol ct fv a G As Gs Ah Gh ap asl) (hN : 0 ≤ N ∧ N ≤ 80000000) {i : Int} (hi : 0 ≤ i ∧ i + 5 ≤ L) {H : Heap} {locs : List Loc} {cells slots : Nat} {ls : Array Slot} (hP : va_P D vwCl (LW cy u w out tl tc ol ct tr fv a G ak Gk As Gs Ah Gh th ap asl of tl tc ct a fv) H) (hD : va_D (fun q => s.heap.size ≤ q) (LW cy u w out tl tc ol ct tr fv a G ak Gk As Gs Ah Gh th ap asl of tl tc ct a fv)) (hS : va_S (fun q => s.heap.size ≤ q) s.heap H locs) (hl : lv_has ls 7 [(4, vI i), (3, .ref out), (2, .ref (w 0 0)), (1, .ref (u 0 0)), (0, .ref b)]) (hc : cells + 1 ≤ 601024 ∧ slots + 6 ≤ 7293033) (kk : LK p l e s m args below meth c D cy u w out b (N + 50) i (cells + 1) (slots + 6) Q) : W p l e room_1 s m args below meth c H locs cells slots Q (F0 m 1843 ls []) := by
  have hT := hI.1
  obtain ⟨hZ, hSV, hsp0, hsp1⟩ := hI.2.1
  have hM := SB.mr hZ
  have hn0 := hM.n
  have hw0 := hM.nw
  have hc0 := hM.wc
  have hol := hI.2.2.1
  have hct := hI.2.2.2.1
  have hbA : ¬ (fun q => s.heap.size ≤ q) b := Nat.not_le.mpr hb
  have hA : ∀ q, s.heap.size ≤ q → (fun q => s.heap.size ≤ q) q := fun q h => h
  have hZ1 : ZK nA s H := (hZ0.kept (fun a h1 h2 => hS.2.1 a h1 h2)).narrow (fun _ h => h.elim)
  refine lv_aload_n F.1 F.2.1 dL_law_1843 rfl (lv_at hl 3 rfl) ?_
  refine lv_aload_n F.1 F.2.1 dL_law_1844 rfl (lv_at hl 4 rfl) ?_
  refine lv_iload F.1 F.2.1 dL_law_1845 (lv_at hl 0 rfl) ?_
  refine rr_iconst F dL_law_1847 ?_
  refine rr_iadd F (z := i + 1) dL_law_1848 rfl ?_
  refine rr_sld F (A := fun q => s.heap.size ≤ q) hxs hb hbA hS (by omega) (by omega) hL dL_law_1849 ?_
  refine rr_i2l F dL_law_1850 (XI_r _ _) ?_
  refine rr_bipush F dL_law_1851 (by decide) ?_
  refine rr_lshl32 F dL_law_1853 ?_
  refine lv_aload_n F.1 F.2.1 dL_law_1854 rfl (lv_at hl 4 rfl) ?_
  refine lv_iload F.1 F.2.1 dL_law_1855 (lv_at hl 0 rfl) ?_
  refine rr_iconst F dL_law_1857 ?_
  refine rr_iadd F (z := i + 2) dL_law_1858 rfl ?_
  refine rr_sld F (A := fun q => s.heap.size ≤ q) hxs hb hbA hS (by omega) (by omega) hL dL_law_1859 ?_
  refine rr_i2l F dL_law_1860 (XI_r _ _) ?_
  refine rr_ldc2 F 4294967295 rfl tw1252 dL_law_1861 ?_
  refine rr_landL F dL_law_1864 ?_
  refine rr_lorL F dL_law_1865 ?_
  refine lv_aload_n F.1 F.2.1 dL_law_1866 rfl (lv_at hl 4 rfl) ?_
  refine lv_iload F.1 F.2.1 dL_law_1867 (lv_at hl 0 rfl) ?_
  refine rr_iconst F dL_law_1869 ?_
  refine rr_iadd F (z := i + 3) dL_law_1870 rfl ?_
  refine rr_sld F (A := fun q => s.heap.size ≤ q) hxs hb hbA hS (by omega) (by omega) hL dL_law_1871 ?_
  refine lv_aload_n F.1 F.2.1 dL_law_1872 rfl (lv_at hl 1 rfl) ?_
  have hb_3 := XI_b xs (i + 3)
  by_cases hx0 : 1 ≤ (XI xs (i + 3)) ∧ (XI xs (i + 3)) ≤ 60
  · refine W.widen (k := cells + 1) (n := slots + 6) (by omega) (by omega) ?_
    have hvr : inR (simV (simR a (lOr (shv (XI xs (i + 1))) (lAn (XI xs (i + 2)) 4294967295)) (XI xs (i + 3)))) := sim_r hM (by omega)
    refine rr_wwS (rest := []) F hK (w_simulate l D cy (u 0 0) (u 1 0) (u 4 0) (u 0 1) (u 0 2) (u 2 0) (u 2 1) (u 2 2) (u 2 3) (u 2 4) (u 2 5) (u 2 6) (fun i => u 2 (7 + Int.toNat i)) (u 3 0) (u 3 1) (u 3 2) (u 3 3) (u 3 4) (u 3 5) (u 3 6) (fun i => u 3 (7 + Int.toNat i)) a ak G Gk (lOr (shv (XI xs (i + 1))) (lAn (XI xs (i + 2)) 4294967295)) (XI xs (i + 3)) out of hZ ⟨by omega, by omega⟩ (by first | assumption | omega | exact ⟨by omega, by omega⟩) hvr) hP hD hS hA sfw_simulate tw835 ⟨Nat.le_of_ble_eq_true rfl, Nat.le_of_ble_eq_true rfl⟩ hl rfl (Nat.le_of_ble_eq_true rfl) dL_law_1873 ⟨by show cells + 1 ≤ 601024; omega, by show slots + 6 ≤ 7293033; omega⟩ (pm_cK cy u w out tl tc ol ct tr fv a G ak Gk As Gs Ah Gh th ap asl of tl tc ct a fv) rfl (fun H locs hP hD hS _ => ?_)
    have hP : va_P D vwCl (LW cy u w out tl tc ol ct tr fv a G (simR a (lOr (shv (XI xs (i + 1))) (lAn (XI xs (i + 2)) 4294967295)) (XI xs (i + 3))) (GSim a G (lOr (shv (XI xs (i + 1))) (lAn (XI xs (i + 2)) 4294967295)) (XI xs (i + 3))) As Gs Ah Gh th ap asl (vp_updL of 0 (lI (simV (simR a (lOr (shv (XI xs (i + 1))) (lAn (XI xs (i + 2)) 4294967295)) (XI xs (i + 3)))))) tl tc ct a fv) H := hP.perm ((pm_cK cy u w out tl tc ol ct tr fv a G (simR a (lOr (shv (XI xs (i + 1))) (lAn (XI xs (i + 2)) 4294967295)) (XI xs (i + 3))) (GSim a G (lOr (shv (XI xs (i + 1))) (lAn (XI xs (i + 2)) 4294967295)) (XI xs (i + 3))) As Gs Ah Gh th ap asl (vp_updL of 0 (lI (simV (simR a (lOr (shv (XI xs (i + 1))) (lAn (XI xs (i + 2)) 4294967295)) (XI xs (i + 3)))))) tl tc ct a fv).symm)
    have hD : va_D (fun q => s.heap.size ≤ q) (LW cy u w out tl tc ol ct tr fv a G (simR a (lOr (shv (XI xs (i + 1))) (lAn (XI xs (i + 2)) 4294967295)) (XI xs (i + 3))) (GSim a G (lOr (shv (XI xs (i + 1))) (lAn (XI xs (i + 2)) 4294967295)) (XI xs (i + 3))) As Gs Ah Gh th ap asl (vp_updL of 0 (lI (simV (simR a (lOr (shv (XI xs (i + 1))) (lAn (XI xs (i + 2)) 4294967295)) (XI xs (i + 3)))))) tl tc ct a fv) := hD.perm ((pm_cK cy u w out tl tc ol ct tr fv a G (simR a (lOr (shv (XI xs (i + 1))) (lAn (XI xs (i + 2)) 4294967295)) (XI xs (i + 3))) (GSim a G (lOr (shv (XI xs (i + 1))) (lAn (XI xs (i + 2)) 4294967295)) (XI xs (i + 3))) As Gs Ah Gh th ap asl (vp_updL of 0 (lI (simV (simR a (lOr (shv (XI xs (i + 1))) (lAn (XI xs (i + 2)) 4294967295)) (XI xs (i + 3)))))) tl tc ct a fv).symm)
    refine lv_istore (lv' := [(5, vI 0), (4, vI i), (3, .ref out), (2, .ref (w 0 0)), (1, .ref (u 0 0)), (0, .ref b)]) F.1 F.2.1 dL_law_1876 hl (by decide) rfl (fun ls hl => ?_)
    refine lv_aload_n F.1 F.2.1 dL_law_1878 rfl (lv_at hl 3 rfl) ?_
    refine lv_aload_n F.1 F.2.1 dL_law_1879 rfl (lv_at hl 5 rfl) ?_
    refine lv_iload F.1 F.2.1 dL_law_1880 (lv_at hl 1 rfl) ?_
    refine rr_iconst F dL_law_1882 ?_
    refine rr_iadd F (z := i + 1) dL_law_1883 rfl ?_
    refine rr_sld F (A := fun q => s.heap.size ≤ q) hxs hb hbA hS (by omega) (by omega) hL dL_law_1884 ?_
    refine rr_i2l F dL_law_1885 (XI_r _ _) ?_
    refine rr_bipush F dL_law_1886 (by decide) ?_
    refine rr_lshl32 F dL_law_1888 ?_
    refine lv_aload_n F.1 F.2.1 dL_law_1889 rfl (lv_at hl 5 rfl) ?_
    refine lv_iload F.1 F.2.1 dL_law_1890 (lv_at hl 1 rfl) ?_
    refine rr_iconst F dL_law_1892 ?_
    refine rr_iadd F (z := i + 2) dL_law_1893 rfl ?_
    refine rr_sld F (A := fun q => s.heap.size ≤ q) hxs hb hbA hS (by omega) (by omega) hL dL_law_1894 ?_
    refine rr_i2l F dL_law_1895 (XI_r _ _) ?_
    refine rr_ldc2 F 4294967295 rfl tw1252 dL_law_1896 ?_
    refine rr_landL F dL_law_1899 ?_
    refine rr_lorL F dL_law_1900 ?_
    refine lv_aload_n F.1 F.2.1 dL_law_1901 rfl (lv_at hl 5 rfl) ?_
    refine lv_iload F.1 F.2.1 dL_law_1902 (lv_at hl 1 rfl) ?_
    refine rr_iconst F dL_law_1904 ?_
    refine rr_iadd F (z := i + 3) dL_law_1905 rfl ?_
    refine rr_sld F (A := fun q => s.heap.size ≤ q) hxs hb hbA hS (by omega) (by omega) hL dL_law_1906 ?_
    refine rr_wrVp (rest := []) F hK (c_X7_simulate l D cy (w 0 0) (w 0 1) (w 0 2) (w 0 3) (w 0 4) (w 0 5) (w 0 6) tr ct tl a th (lOr (shv (XI xs (i + 1))) (lAn (XI xs (i + 2)) 4294967295)) (XI xs (i + 3)) hM ⟨by omega, by omega⟩ (XI_r _ _) (by first | assumption | omega | exact ⟨by omega, by omega⟩)) hP hD hS hA sf_X7_simulate tw1234 7 rfl rfl ⟨Nat.le_of_ble_eq_true rfl, Nat.le_of_ble_eq_true rfl⟩ hl rfl (Nat.le_of_ble_eq_true rfl) dL_law_1907 ⟨by show cells + 1 ≤ 601024; omega, by show slots + 6 ≤ 7293033; omega⟩ (pm_mNT cy u w out tl tc ol ct tr fv a G (simR a (lOr (shv (XI xs (i + 1))) (lAn (XI xs (i + 2)) 4294967295)) (XI xs (i + 3))) (GSim a G (lOr (shv (XI xs (i + 1))) (lAn (XI xs (i + 2)) 4294967295)) (XI xs (i + 3))) As Gs Ah Gh th ap asl (vp_updL of 0 (lI (simV (simR a (lOr (shv (XI xs (i + 1))) (lAn (XI xs (i + 2)) 4294967295)) (XI xs (i + 3)))))) tl tc ct a fv) rfl (fun H locs hP hD hS _ => ?_)
    have hP : va_P D vwCl (LW cy u w out tl tc ol ct 0 fv a G (simR a (lOr (shv (XI xs (i + 1))) (lAn (XI xs (i + 2)) 4294967295)) (XI xs (i + 3))) (GSim a G (lOr (shv (XI xs (i + 1))) (lAn (XI xs (i + 2)) 4294967295)) (XI xs (i + 3))) As Gs Ah Gh (simR a (lOr (shv (XI xs (i + 1))) (lAn (XI xs (i + 2)) 4294967295)) (XI xs (i + 3))) ap asl (vp_updL of 0 (lI (simV (simR a (lOr (shv (XI xs (i + 1))) (lAn (XI xs (i + 2)) 4294967295)) (XI xs (i + 3)))))) tl tc ct a fv) H := hP.perm ((pm_mNT cy u w out tl tc ol ct 0 fv a G (simR a (lOr (shv (XI xs (i + 1))) (lAn (XI xs (i + 2)) 4294967295)) (XI xs (i + 3))) (GSim a G (lOr (shv (XI xs (i + 1))) (lAn (XI xs (i + 2)) 4294967295)) (XI xs (i + 3))) As Gs Ah Gh (simR a (lOr (shv (XI xs (i + 1))) (lAn (XI xs (i + 2)) 4294967295)) (XI xs (i + 3))) ap asl (vp_updL of 0 (lI (simV (simR a (lOr (shv (XI xs (i + 1))) (lAn (XI xs (i + 2)) 4294967295)) (XI xs (i + 3)))))) tl tc ct a fv).symm)
    have hD : va_D (fun q => s.heap.size ≤ q) (LW cy u w out tl tc ol ct 0 fv a G (simR a (lOr (shv (XI xs (i + 1))) (lAn (XI xs (i + 2)) 4294967295)) (XI xs (i + 3))) (GSim a G (lOr (shv (XI xs (i + 1))) (lAn (XI xs (i + 2)) 4294967295)) (XI xs (i + 3))) As Gs Ah Gh (simR a (lOr (shv (XI xs (i + 1))) (lAn (XI xs (i + 2)) 4294967295)) (XI xs (i + 3))) ap asl (vp_updL of 0 (lI (simV (simR a (lOr (shv (XI xs (i + 1))) (lAn (XI xs (i + 2)) 4294967295)) (XI xs (i + 3)))))) tl tc ct a fv) := hD.perm ((pm_mNT cy u w out tl tc ol ct 0 fv a G (simR a (lOr (shv (XI xs (i + 1))) (lAn (XI xs (i + 2)) 4294967295)) (XI xs (i + 3))) (GSim a G (lOr (shv (XI xs (i + 1))) (lAn (XI xs (i + 2)) 4294967295)) (XI xs (i + 3))) As Gs Ah Gh (simR a (lOr (shv (XI xs (i + 1))) (lAn (XI xs (i + 2)) 4294967295)) (XI xs (i + 3))) ap asl (vp_updL of 0 (lI (simV (simR a (lOr (shv (XI xs (i + 1))) (lAn (XI xs (i + 2)) 4294967295)) (XI xs (i + 3)))))) tl tc ct a fv).symm)
    have hP : va_P D vwCl (LW cy u w out tl tc ol ct 0 fv a G (simR a (lOr (shv (XI xs (i + 1))) (lAn (XI xs (i + 2)) 4294967295)) (XI xs (i + 3))) (GSim a G (lOr (shv (XI xs (i + 1))) (lAn (XI xs (i + 2)) 4294967295)) (XI xs (i + 3))) As Gs Ah Gh (simR a (lOr (shv (XI xs (i + 1))) (lAn (XI xs (i + 2)) 4294967295)) (XI xs (i + 3))) ap asl (vp_updL of 0 (lI (simV (simR a (lOr (shv (XI xs (i + 1))) (lAn (XI xs (i + 2)) 4294967295)) (XI xs (i + 3)))))) tl tc ct a fv) H := hP
    have hD : va_D (fun q => s.heap.size ≤ q) (LW cy u w out tl tc ol ct 0 fv a G (simR a (lOr (shv (XI xs (i + 1))) (lAn (XI xs (i + 2)) 4294967295)) (XI xs (i + 3))) (GSim a G (lOr (shv (XI xs (i + 1))) (lAn (XI xs (i + 2)) 4294967295)) (XI xs (i + 3))) As Gs Ah Gh (simR a (lOr (shv (XI xs (i + 1))) (lAn (XI xs (i + 2)) 4294967295)) (XI xs (i + 3))) ap asl (vp_updL of 0 (lI (simV (simR a (lOr (shv (XI xs (i + 1))) (lAn (XI xs (i + 2)) 4294967295)) (XI xs (i + 3)))))) tl tc ct a fv) := hD
    refine lv_istore (lv' := [(6, vI (simV (simR a (lOr (shv (XI xs (i + 1))) (lAn (XI xs (i + 2)) 4294967295)) (XI xs (i + 3))))), (5, vI 0), (4, vI i), (3, .ref out), (2, .ref (w 0 0)), (1, .ref (u 0 0)), (0, .ref b)]) F.1 F.2.1 dL_law_1910 hl (by decide) rfl (fun ls hl => ?_)
    refine lv_aload_n F.1 F.2.1 dL_law_1912 rfl (lv_at hl 4 rfl) ?_
    refine rr_rdVp (rest := []) F hK (c_X7_thrown l D cy (w 0 0) (w 0 1) (w 0 2) (w 0 3) (w 0 4) (w 0 5) (w 0 6) 0 ct tl) hP (pm_m0 cy u w out tl tc ol ct 0 fv a G (simR a (lOr (shv (XI xs (i + 1))) (lAn (XI xs (i + 2)) 4294967295)) (XI xs (i + 3))) (GSim a G (lOr (shv (XI xs (i + 1))) (lAn (XI xs (i + 2)) 4294967295)) (XI xs (i + 3))) As Gs Ah Gh (simR a (lOr (shv (XI xs (i + 1))) (lAn (XI xs (i + 2)) 4294967295)) (XI xs (i + 3))) ap asl (vp_updL of 0 (lI (simV (simR a (lOr (shv (XI xs (i + 1))) (lAn (XI xs (i + 2)) 4294967295)) (XI xs (i + 3)))))) tl tc ct a fv) sf_X7_thrown tw902 7 rfl rfl ⟨Nat.le_of_ble_eq_true rfl, Nat.le_of_ble_eq_true rfl⟩ hl rfl (Nat.le_of_ble_eq_true rfl) dL_law_1913 ⟨by show cells + 1 ≤ 601024; omega, by show slots + 6 ≤ 7293033; omega⟩ ?_
    refine lv_iload F.1 F.2.1 dL_law_1916 (lv_at hl 1 rfl) ?_
    refine rr_icmp_eq F (tgt := 1923) dL_law_1918 (by decide) ⟨by omega, by omega⟩ ⟨by omega, by omega⟩ (fun _ => ?_) (fun z => absurd rfl z)
    refine lv_iload F.1 F.2.1 dL_law_1923 (lv_at hl 1 rfl) ?_
    refine rr_if_ne F (tgt := 1940) dL_law_1925 (by decide) ⟨by omega, by omega⟩ (fun z => absurd rfl z) (fun _ => ?_)
    refine lv_aload_n F.1 F.2.1 dL_law_1928 rfl (lv_at hl 3 rfl) ?_
    refine rr_iconst F dL_law_1929 ?_
    refine rr_lald0 F hK (hP.perm (pm_o cy u w out tl tc ol ct 0 fv a G (simR a (lOr (shv (XI xs (i + 1))) (lAn (XI xs (i + 2)) 4294967295)) (XI xs (i + 3))) (GSim a G (lOr (shv (XI xs (i + 1))) (lAn (XI xs (i + 2)) 4294967295)) (XI xs (i + 3))) As Gs Ah Gh (simR a (lOr (shv (XI xs (i + 1))) (lAn (XI xs (i + 2)) 4294967295)) (XI xs (i + 3))) ap asl (vp_updL of 0 (lI (simV (simR a (lOr (shv (XI xs (i + 1))) (lAn (XI xs (i + 2)) 4294967295)) (XI xs (i + 3)))))) tl tc ct a fv)) 0 rfl dL_law_1930 ?_
    refine lv_iload F.1 F.2.1 dL_law_1931 (lv_at hl 0 rfl) ?_
    refine rr_i2l F dL_law_1933 hvr ?_
    refine rr_lcmp F (a := simV (simR a (lOr (shv (XI xs (i + 1))) (lAn (XI xs (i + 2)) 4294967295)) (XI xs (i + 3)))) (b := simV (simR a (lOr (shv (XI xs (i + 1))) (lAn (XI xs (i + 2)) 4294967295)) (XI xs (i + 3)))) dL_law_1934 (inL_r hvr) (inL_r hvr) ?_
    refine rr_if_eq F (tgt := 1940) dL_law_1935 (by decide) (lcm_r _ _) (fun _ => ?_) (fun z => absurd ((lcm_spec _ _).2.1.mpr rfl) z)
    refine lv_goto (tgt := 2055) F.1 F.2.1 dL_law_1940 (by decide) ?_
    exact kk _ _ _ _ _ _ _ _ _ _ _ _ _ _ _ _ _ _ H locs ls (hI.mono (by omega)) hP hD hS (lv_sub hl [2, 3, 4, 5, 6] rfl)
  · refine rr_twS (rest := []) F hK hX hZ1 (r_simulate_11 l hnt D cy sa (u 0 0) (u 1 0) (u 2 0) (u 3 0) (u 4 0) (u 0 1) (u 0 2) (lOr (shv (XI xs (i + 1))) (lAn (XI xs (i + 2)) 4294967295)) (XI xs (i + 3)) out (XI_r _ _) (by first | assumption | omega | exact ⟨by omega, by omega⟩)) hP hS sfw_simulate tw835 ⟨Nat.le_of_ble_eq_true rfl, Nat.le_of_ble_eq_true rfl⟩ hl rfl (Nat.le_of_ble_eq_true rfl) dL_law_1873 ⟨by show cells + 1 ≤ 601024; omega, by show slots + 6 ≤ 7293033; omega⟩ (pm_c0 cy u w out tl tc ol ct tr fv a G ak Gk As Gs Ah Gh th ap asl of tl tc ct a fv) (fun H locs hP hS _ => ?_)
    refine lv_istore (lv' := [(5, vI 1), (4, vI i), (3, .ref out), (2, .ref (w 0 0)), (1, .ref (u 0 0)), (0, .ref b)]) F.1 F.2.1 dL_law_1876 hl (by decide) rfl (fun ls hl => ?_)
    refine lv_aload_n F.1 F.2.1 dL_law_1878 rfl (lv_at hl 3 rfl) ?_
    refine lv_aload_n F.1 F.2.1 dL_law_1879 rfl (lv_at hl 5 rfl) ?_
    refine lv_iload F.1 F.2.1 dL_law_1880 (lv_at hl 1 rfl) ?_
    refine rr_iconst F dL_law_1882 ?_
    refine rr_iadd F (z := i + 1) dL_law_1883 rfl ?_
    refine rr_sld F (A := fun q => s.heap.size ≤ q) hxs hb hbA hS (by omega) (by omega) hL dL_law_1884 ?_
    refine rr_i2l F dL_law_1885 (XI_r _ _) ?_
    refine rr_bipush F dL_law_1886 (by decide) ?_
    refine rr_lshl32 F dL_law_1888 ?_
    refine lv_aload_n F.1 F.2.1 dL_law_1889 rfl (lv_at hl 5 rfl) ?_
    refine lv_iload F.1 F.2.1 dL_law_1890 (lv_at hl 1 rfl) ?_
    refine rr_iconst F dL_law_1892 ?_
    refine rr_iadd F (z := i + 2) dL_law_1893 rfl ?_
    refine rr_sld F (A := fun q => s.heap.size ≤ q) hxs hb hbA hS (by omega) (by omega) hL dL_law_1894 ?_
    refine rr_i2l F dL_law_1895 (XI_r _ _) ?_
    refine rr_ldc2 F 4294967295 rfl tw1252 dL_law_1896 ?_
    refine rr_landL F dL_law_1899 ?_
    refine rr_lorL F dL_law_1900 ?_
    refine lv_aload_n F.1 F.2.1 dL_law_1901 rfl (lv_at hl 5 rfl) ?_
    refine lv_iload F.1 F.2.1 dL_law_1902 (lv_at hl 1 rfl) ?_
    refine rr_iconst F dL_law_1904 ?_
    refine rr_iadd F (z := i + 3) dL_law_1905 rfl ?_
    refine rr_sld F (A := fun q => s.heap.size ≤ q) hxs hb hbA hS (by omega) (by omega) hL dL_law_1906 ?_
    have hcode : (1 : Int) = 1 := by first | rfl | ((repeat' split) <;> first | rfl | omega)
    refine rr_wrVp (rest := []) F hK (n_X7_simulate l D cy (w 0 0) (w 0 1) (w 0 2) (w 0 3) (w 0 4) (w 0 5) (w 0 6) tr ct tl a th (lOr (shv (XI xs (i + 1))) (lAn (XI xs (i + 2)) 4294967295)) (XI xs (i + 3)) hM ⟨by omega, by omega⟩ (XI_r _ _) (by first | assumption | omega)) hP hD hS hA sf_X7_simulate tw1234 7 rfl rfl ⟨Nat.le_of_ble_eq_true rfl, Nat.le_of_ble_eq_true rfl⟩ hl rfl (Nat.le_of_ble_eq_true rfl) dL_law_1907 ⟨by show cells + 1 ≤ 601024; omega, by show slots + 6 ≤ 7293033; omega⟩ (pm_mNT cy u w out tl tc ol ct tr fv a G ak Gk As Gs Ah Gh th ap asl of tl tc ct a fv) rfl (fun H locs hP hD hS _ => ?_)
    have hP : va_P D vwCl (LW cy u w out tl tc ol ct 1 fv a G ak Gk As Gs Ah Gh th ap asl of tl tc ct a fv) H := hP.perm ((pm_mNT cy u w out tl tc ol ct 1 fv a G ak Gk As Gs Ah Gh th ap asl of tl tc ct a fv).symm)
    have hD : va_D (fun q => s.heap.size ≤ q) (LW cy u w out tl tc ol ct 1 fv a G ak Gk As Gs Ah Gh th ap asl of tl tc ct a fv) := hD.perm ((pm_mNT cy u w out tl tc ol ct 1 fv a G ak Gk As Gs Ah Gh th ap asl of tl tc ct a fv).symm)
    refine lv_istore (lv' := [(6, vI 0), (5, vI 1), (4, vI i), (3, .ref out), (2, .ref (w 0 0)), (1, .ref (u 0 0)), (0, .ref b)]) F.1 F.2.1 dL_law_1910 hl (by decide) rfl (fun ls hl => ?_)
    refine lv_aload_n F.1 F.2.1 dL_law_1912 rfl (lv_at hl 4 rfl) ?_
    refine rr_rdVp (rest := []) F hK (c_X7_thrown l D cy (w 0 0) (w 0 1) (w 0 2) (w 0 3) (w 0 4) (w 0 5) (w 0 6) 1 ct tl) hP (pm_m0 cy u w out tl tc ol ct 1 fv a G ak Gk As Gs Ah Gh th ap asl of tl tc ct a fv) sf_X7_thrown tw902 7 rfl rfl ⟨Nat.le_of_ble_eq_true rfl, Nat.le_of_ble_eq_true rfl⟩ hl rfl (Nat.le_of_ble_eq_true rfl) dL_law_1913 ⟨by show cells + 1 ≤ 601024; omega, by show slots + 6 ≤ 7293033; omega⟩ ?_
    refine lv_iload F.1 F.2.1 dL_law_1916 (lv_at hl 1 rfl) ?_
    refine rr_icmp_eq F (tgt := 1923) dL_law_1918 (by decide) ⟨by omega, by omega⟩ ⟨by omega, by omega⟩ (fun _ => ?_) (fun z => absurd rfl z)
    refine lv_iload F.1 F.2.1 dL_law_1923 (lv_at hl 1 rfl) ?_
    refine rr_if_ne F (tgt := 1940) dL_law_1925 (by decide) ⟨by omega, by omega⟩ (fun _ => ?_) (fun z => by omega)
    refine lv_goto (tgt := 2055) F.1 F.2.1 dL_law_1940 (by decide) ?_
    exact kk _ _ _ _ _ _ _ _ _ _ _ _ _ _ _ _ _ _ H locs ls (hI.mono (by omega)) hP hD hS (lv_sub hl [2, 3, 4, 5, 6] rfl)
set_option maxRecDepth 100000 in
set_option maxHeartbeats 8000000 in
theorem lc_carve {p : Program} {l : Launch} {e : Env} {s : State} {m : MethodId} {args : Array Value} {below : List Frame} {meth : Method} {c : Code} {Q : State → Prop} {b L : Nat} {xs : Nat → Int32} {D : va_G} {cy : Nat → ClassId} {sa : Nat → Nat} {u w : NU} {out : Nat} (hnt : l.stackTraces = false) (F : FX p m c cL_law 7 s args RL) (hK : KK D cy s) (hX : XK sa s) (hZ0 : ZK (fun q => s.heap.size ≤ q) s s.heap) (hxs : va_X b L xs s s.heap) (hb : b < s.heap.size) (hL : L ≤ 2560) {N : Int} {tl : Int} {tc : Int → Int} {ol : Int} {ct : Int} {tr : Int} {fv : Int → Int} {a : Int → Int} {G : Int → Int → Int} {ak : Int → Int} {Gk : Int → Int → Int} {As : Nat → Int → Int} {Gs : Nat → Int → Int → Int} {Ah : Nat → Int → Int} {Gh : Nat → Int → Int → Int} {th : Int → Int} {ap : Int → Int} {asl : Int → Int} {of : Nat → Int64} (hI : INV N tl tc ol ct fv a G As Gs Ah Gh ap asl) (hN : 0 ≤ N ∧ N ≤ 80000000) {i : Int} (hi : 0 ≤ i ∧ i + 5 ≤ L) {H : Heap} {locs : List Loc} {cells slots : Nat} {ls : Array Slot} (hP : va_P D vwCl (LW cy u w out tl tc ol ct tr fv a G ak Gk As Gs Ah Gh th ap asl of tl tc ct a fv) H) (hD : va_D (fun q => s.heap.size ≤ q) (LW cy u w out tl tc ol ct tr fv a G ak Gk As Gs Ah Gh th ap asl of tl tc ct a fv)) (hS : va_S (fun q => s.heap.size ≤ q) s.heap H locs) (hl : lv_has ls 7 [(4, vI i), (3, .ref out), (2, .ref (w 0 0)), (1, .ref (u 0 0)), (0, .ref b)]) (hc : cells + 1 ≤ 601024 ∧ slots + 6 ≤ 7293033) (kk : LK p l e s m args below meth c D cy u w out b (N + 50) i (cells + 1) (slots + 6) Q) : W p l e room_1 s m args below meth c H locs cells slots Q (F0 m 906 ls []) := by
  have hT := hI.1
  obtain ⟨hZ, hSV, hsp0, hsp1⟩ := hI.2.1
  have hM := SB.mr hZ
  have hn0 := hM.n
  have hw0 := hM.nw
  have hc0 := hM.wc
  have hol := hI.2.2.1
  have hct := hI.2.2.2.1
  have hbA : ¬ (fun q => s.heap.size ≤ q) b := Nat.not_le.mpr hb
  have hA : ∀ q, s.heap.size ≤ q → (fun q => s.heap.size ≤ q) q := fun q h => h
  have hZ1 : ZK nA s H := (hZ0.kept (fun a h1 h2 => hS.2.1 a h1 h2)).narrow (fun _ h => h.elim)
  refine lv_aload_n F.1 F.2.1 dL_law_906 rfl (lv_at hl 3 rfl) ?_
  refine lv_aload_n F.1 F.2.1 dL_law_907 rfl (lv_at hl 4 rfl) ?_
  refine lv_iload F.1 F.2.1 dL_law_908 (lv_at hl 0 rfl) ?_
  refine rr_iconst F dL_law_910 ?_
  refine rr_iadd F (z := i + 1) dL_law_911 rfl ?_
  refine rr_sld F (A := fun q => s.heap.size ≤ q) hxs hb hbA hS (by omega) (by omega) hL dL_law_912 ?_
  refine lv_aload_n F.1 F.2.1 dL_law_913 rfl (lv_at hl 4 rfl) ?_
  refine lv_iload F.1 F.2.1 dL_law_914 (lv_at hl 0 rfl) ?_
  refine rr_iconst F dL_law_916 ?_
  refine rr_iadd F (z := i + 2) dL_law_917 rfl ?_
  refine rr_sld F (A := fun q => s.heap.size ≤ q) hxs hb hbA hS (by omega) (by omega) hL dL_law_918 ?_
  refine lv_aload_n F.1 F.2.1 dL_law_919 rfl (lv_at hl 1 rfl) ?_
  have hb_1 := XI_b xs (i + 1)
  have hb_2 := XI_b xs (i + 2)
  by_cases hx0 : 0 ≤ (XI xs (i + 1)) ∧ (XI xs (i + 1)) < a 0
  · by_cases hx1 : 0 ≤ (XI xs (i + 2)) ∧ (XI xs (i + 2)) ≤ 8
    · refine W.widen (k := cells + 1) (n := slots + 6) (by omega) (by omega) ?_
      have hvr : inR (sc ((rq a) (XI xs (i + 1)))) := sc_r hM (by omega)
      have hrr : ((ol + ct) % 14).toNat < 14 := by omega
      refine rr_wwS (rest := []) F hK (w_carve l D cy (u 0 0) (u 1 0) (u 3 0) (u 0 1) (u 0 2) (u 4 0) (u 4 1) (fun i => u (Int.toNat i + 7) 0) ol ct (u 2 0) (u 2 1) (u 2 2) (u 2 3) (u 2 4) (u 2 5) (u 2 6) (fun i => u 2 (7 + Int.toNat i)) (u (((ol + ct) % 14).toNat + 7) 0) (u (((ol + ct) % 14).toNat + 7) 1) (u (((ol + ct) % 14).toNat + 7) 2) (u (((ol + ct) % 14).toNat + 7) 3) (u (((ol + ct) % 14).toNat + 7) 4) (u (((ol + ct) % 14).toNat + 7) 5) (u (((ol + ct) % 14).toNat + 7) 6) (fun i => u (((ol + ct) % 14).toNat + 7) (7 + Int.toNat i)) a (Ah ((ol + ct) % 14).toNat) G (Gh ((ol + ct) % 14).toNat) (XI xs (i + 1)) (XI xs (i + 2)) out of hol hct rfl hZ (by first | assumption | omega | exact ⟨by omega, by omega⟩) (by first | assumption | omega | exact ⟨by omega, by omega⟩) hvr) hP hD hS hA sfw_carve tw600 ⟨Nat.le_of_ble_eq_true rfl, Nat.le_of_ble_eq_true rfl⟩ hl rfl (Nat.le_of_ble_eq_true rfl) dL_law_920 ⟨by show cells + 1 ≤ 601024; omega, by show slots + 6 ≤ 7293033; omega⟩ (pm_h cy u w out tl tc ol ct tr fv a G ak Gk As Gs Ah Gh th ap asl of tl tc ct a fv ((ol + ct) % 14).toNat hrr) rfl (fun H locs hP hD hS _ => ?_)
      have hP : va_P D vwCl (LW cy u w out tl tc (if ct < 14 then ol else (ol + 1) % 14) (if ct < 14 then ct + 1 else ct) tr fv (tryR a 1 (XI xs (i + 1)) (XI xs (i + 2))) (GTry a G 1 (XI xs (i + 1)) (XI xs (i + 2))) ak Gk As Gs (upN Ah ((ol + ct) % 14).toNat a) (upN Gh ((ol + ct) % 14).toNat G) th ap asl (vp_updL of 0 (lI (sc ((rq a) (XI xs (i + 1)))))) tl tc ct a fv) H := hP.perm ((po_h cy u w out tl tc (if ct < 14 then ol else (ol + 1) % 14) (if ct < 14 then ct + 1 else ct) tr fv (tryR a 1 (XI xs (i + 1)) (XI xs (i + 2))) (GTry a G 1 (XI xs (i + 1)) (XI xs (i + 2))) ak Gk As Gs (upN Ah ((ol + ct) % 14).toNat a) (upN Gh ((ol + ct) % 14).toNat G) th ap asl (vp_updL of 0 (lI (sc ((rq a) (XI xs (i + 1)))))) tl tc ct a fv Ah Gh ((ol + ct) % 14).toNat hrr upN_s upN_s (fun j z => ⟨upN_n z, upN_n z⟩)))
      have hD : va_D (fun q => s.heap.size ≤ q) (LW cy u w out tl tc (if ct < 14 then ol else (ol + 1) % 14) (if ct < 14 then ct + 1 else ct) tr fv (tryR a 1 (XI xs (i + 1)) (XI xs (i + 2))) (GTry a G 1 (XI xs (i + 1)) (XI xs (i + 2))) ak Gk As Gs (upN Ah ((ol + ct) % 14).toNat a) (upN Gh ((ol + ct) % 14).toNat G) th ap asl (vp_updL of 0 (lI (sc ((rq a) (XI xs (i + 1)))))) tl tc ct a fv) := hD.perm ((po_h cy u w out tl tc (if ct < 14 then ol else (ol + 1) % 14) (if ct < 14 then ct + 1 else ct) tr fv (tryR a 1 (XI xs (i + 1)) (XI xs (i + 2))) (GTry a G 1 (XI xs (i + 1)) (XI xs (i + 2))) ak Gk As Gs (upN Ah ((ol + ct) % 14).toNat a) (upN Gh ((ol + ct) % 14).toNat G) th ap asl (vp_updL of 0 (lI (sc ((rq a) (XI xs (i + 1)))))) tl tc ct a fv Ah Gh ((ol + ct) % 14).toNat hrr upN_s upN_s (fun j z => ⟨upN_n z, upN_n z⟩)))
      refine lv_istore (lv' := [(5, vI 0), (4, vI i), (3, .ref out), (2, .ref (w 0 0)), (1, .ref (u 0 0)), (0, .ref b)]) F.1 F.2.1 dL_law_923 hl (by decide) rfl (fun ls hl => ?_)
      refine lv_aload_n F.1 F.2.1 dL_law_925 rfl (lv_at hl 3 rfl) ?_
      refine lv_aload_n F.1 F.2.1 dL_law_926 rfl (lv_at hl 5 rfl) ?_
      refine lv_iload F.1 F.2.1 dL_law_927 (lv_at hl 1 rfl) ?_
      refine rr_iconst F dL_law_929 ?_
      refine rr_iadd F (z := i + 1) dL_law_930 rfl ?_
      refine rr_sld F (A := fun q => s.heap.size ≤ q) hxs hb hbA hS (by omega) (by omega) hL dL_law_931 ?_
      refine lv_aload_n F.1 F.2.1 dL_law_932 rfl (lv_at hl 5 rfl) ?_
      refine lv_iload F.1 F.2.1 dL_law_933 (lv_at hl 1 rfl) ?_
      refine rr_iconst F dL_law_935 ?_
      refine rr_iadd F (z := i + 2) dL_law_936 rfl ?_
      refine rr_sld F (A := fun q => s.heap.size ≤ q) hxs hb hbA hS (by omega) (by omega) hL dL_law_937 ?_
      refine rr_wrVp (rest := []) F hK (c_X7_carve l D cy (w 0 0) (w 0 1) (w 0 2) (w 0 3) (w 0 4) (w 0 5) (w 0 6) tr ct tl a ap (XI xs (i + 1)) (XI xs (i + 2)) hM hct (XI_r _ _) (XI_r _ _) (by first | assumption | omega | exact ⟨by omega, by omega⟩) (by first | assumption | omega | exact ⟨by omega, by omega⟩)) hP hD hS hA sf_X7_carve tw1111 7 rfl rfl ⟨Nat.le_of_ble_eq_true rfl, Nat.le_of_ble_eq_true rfl⟩ hl rfl (Nat.le_of_ble_eq_true rfl) dL_law_938 ⟨by show cells + 1 ≤ 601024; omega, by show slots + 6 ≤ 7293033; omega⟩ (pm_mNP cy u w out tl tc (if ct < 14 then ol else (ol + 1) % 14) (if ct < 14 then ct + 1 else ct) tr fv (tryR a 1 (XI xs (i + 1)) (XI xs (i + 2))) (GTry a G 1 (XI xs (i + 1)) (XI xs (i + 2))) ak Gk As Gs (upN Ah ((ol + ct) % 14).toNat a) (upN Gh ((ol + ct) % 14).toNat G) th ap asl (vp_updL of 0 (lI (sc ((rq a) (XI xs (i + 1)))))) tl tc ct a fv) rfl (fun H locs hP hD hS _ => ?_)
      have hP : va_P D vwCl (LW cy u w out tl tc (if ct < 14 then ol else (ol + 1) % 14) (if ct < 14 then ct + 1 else ct) 0 fv (tryR a 1 (XI xs (i + 1)) (XI xs (i + 2))) (GTry a G 1 (XI xs (i + 1)) (XI xs (i + 2))) ak Gk As Gs (upN Ah ((ol + ct) % 14).toNat a) (upN Gh ((ol + ct) % 14).toNat G) th (remA a ap ct) asl (vp_updL of 0 (lI (sc ((rq a) (XI xs (i + 1)))))) tl tc (remN ct) (updZ a (1 + (XI xs (i + 1))) (XI xs (i + 2))) fv) H := hP.perm ((pm_mNP cy u w out tl tc (if ct < 14 then ol else (ol + 1) % 14) (if ct < 14 then ct + 1 else ct) 0 fv (tryR a 1 (XI xs (i + 1)) (XI xs (i + 2))) (GTry a G 1 (XI xs (i + 1)) (XI xs (i + 2))) ak Gk As Gs (upN Ah ((ol + ct) % 14).toNat a) (upN Gh ((ol + ct) % 14).toNat G) th (remA a ap ct) asl (vp_updL of 0 (lI (sc ((rq a) (XI xs (i + 1)))))) tl tc (remN ct) (updZ a (1 + (XI xs (i + 1))) (XI xs (i + 2))) fv).symm)
      have hD : va_D (fun q => s.heap.size ≤ q) (LW cy u w out tl tc (if ct < 14 then ol else (ol + 1) % 14) (if ct < 14 then ct + 1 else ct) 0 fv (tryR a 1 (XI xs (i + 1)) (XI xs (i + 2))) (GTry a G 1 (XI xs (i + 1)) (XI xs (i + 2))) ak Gk As Gs (upN Ah ((ol + ct) % 14).toNat a) (upN Gh ((ol + ct) % 14).toNat G) th (remA a ap ct) asl (vp_updL of 0 (lI (sc ((rq a) (XI xs (i + 1)))))) tl tc (remN ct) (updZ a (1 + (XI xs (i + 1))) (XI xs (i + 2))) fv) := hD.perm ((pm_mNP cy u w out tl tc (if ct < 14 then ol else (ol + 1) % 14) (if ct < 14 then ct + 1 else ct) 0 fv (tryR a 1 (XI xs (i + 1)) (XI xs (i + 2))) (GTry a G 1 (XI xs (i + 1)) (XI xs (i + 2))) ak Gk As Gs (upN Ah ((ol + ct) % 14).toNat a) (upN Gh ((ol + ct) % 14).toNat G) th (remA a ap ct) asl (vp_updL of 0 (lI (sc ((rq a) (XI xs (i + 1)))))) tl tc (remN ct) (updZ a (1 + (XI xs (i + 1))) (XI xs (i + 2))) fv).symm)
      rw [remN_ct hct] at hP hD
      rw [show updZ a (1 + (XI xs (i + 1))) (XI xs (i + 2)) = tryR a 1 (XI xs (i + 1)) (XI xs (i + 2)) from (rw_carve (by unfold okA; omega)).symm] at hP hD
      have hP : va_P D vwCl (LW cy u w out tl tc (if ct < 14 then ol else (ol + 1) % 14) (if ct < 14 then ct + 1 else ct) 0 fv (tryR a 1 (XI xs (i + 1)) (XI xs (i + 2))) (GTry a G 1 (XI xs (i + 1)) (XI xs (i + 2))) ak Gk As Gs (upN Ah ((ol + ct) % 14).toNat a) (upN Gh ((ol + ct) % 14).toNat G) th (remA a ap ct) asl (vp_updL of 0 (lI (sc ((rq a) (XI xs (i + 1)))))) tl tc (if ct < 14 then ct + 1 else ct) (tryR a 1 (XI xs (i + 1)) (XI xs (i + 2))) fv) H := hP
      have hD : va_D (fun q => s.heap.size ≤ q) (LW cy u w out tl tc (if ct < 14 then ol else (ol + 1) % 14) (if ct < 14 then ct + 1 else ct) 0 fv (tryR a 1 (XI xs (i + 1)) (XI xs (i + 2))) (GTry a G 1 (XI xs (i + 1)) (XI xs (i + 2))) ak Gk As Gs (upN Ah ((ol + ct) % 14).toNat a) (upN Gh ((ol + ct) % 14).toNat G) th (remA a ap ct) asl (vp_updL of 0 (lI (sc ((rq a) (XI xs (i + 1)))))) tl tc (if ct < 14 then ct + 1 else ct) (tryR a 1 (XI xs (i + 1)) (XI xs (i + 2))) fv) := hD
      refine lv_istore (lv' := [(6, vI (sc ((rq a) (XI xs (i + 1))))), (5, vI 0), (4, vI i), (3, .ref out), (2, .ref (w 0 0)), (1, .ref (u 0 0)), (0, .ref b)]) F.1 F.2.1 dL_law_941 hl (by decide) rfl (fun ls hl => ?_)
      refine lv_aload_n F.1 F.2.1 dL_law_943 rfl (lv_at hl 4 rfl) ?_
      refine rr_rdVp (rest := []) F hK (c_X7_thrown l D cy (w 0 0) (w 0 1) (w 0 2) (w 0 3) (w 0 4) (w 0 5) (w 0 6) 0 (if ct < 14 then ct + 1 else ct) tl) hP (pm_m0 cy u w out tl tc (if ct < 14 then ol else (ol + 1) % 14) (if ct < 14 then ct + 1 else ct) 0 fv (tryR a 1 (XI xs (i + 1)) (XI xs (i + 2))) (GTry a G 1 (XI xs (i + 1)) (XI xs (i + 2))) ak Gk As Gs (upN Ah ((ol + ct) % 14).toNat a) (upN Gh ((ol + ct) % 14).toNat G) th (remA a ap ct) asl (vp_updL of 0 (lI (sc ((rq a) (XI xs (i + 1)))))) tl tc (if ct < 14 then ct + 1 else ct) (tryR a 1 (XI xs (i + 1)) (XI xs (i + 2))) fv) sf_X7_thrown tw902 7 rfl rfl ⟨Nat.le_of_ble_eq_true rfl, Nat.le_of_ble_eq_true rfl⟩ hl rfl (Nat.le_of_ble_eq_true rfl) dL_law_944 ⟨by show cells + 1 ≤ 601024; omega, by show slots + 6 ≤ 7293033; omega⟩ ?_
      refine lv_iload F.1 F.2.1 dL_law_947 (lv_at hl 1 rfl) ?_
      refine rr_icmp_eq F (tgt := 954) dL_law_949 (by decide) ⟨by omega, by omega⟩ ⟨by omega, by omega⟩ (fun _ => ?_) (fun z => absurd rfl z)
      refine lv_iload F.1 F.2.1 dL_law_954 (lv_at hl 1 rfl) ?_
      refine rr_if_ne F (tgt := 971) dL_law_956 (by decide) ⟨by omega, by omega⟩ (fun z => absurd rfl z) (fun _ => ?_)
      refine lv_aload_n F.1 F.2.1 dL_law_959 rfl (lv_at hl 3 rfl) ?_
      refine rr_iconst F dL_law_960 ?_
      refine rr_lald0 F hK (hP.perm (pm_o cy u w out tl tc (if ct < 14 then ol else (ol + 1) % 14) (if ct < 14 then ct + 1 else ct) 0 fv (tryR a 1 (XI xs (i + 1)) (XI xs (i + 2))) (GTry a G 1 (XI xs (i + 1)) (XI xs (i + 2))) ak Gk As Gs (upN Ah ((ol + ct) % 14).toNat a) (upN Gh ((ol + ct) % 14).toNat G) th (remA a ap ct) asl (vp_updL of 0 (lI (sc ((rq a) (XI xs (i + 1)))))) tl tc (if ct < 14 then ct + 1 else ct) (tryR a 1 (XI xs (i + 1)) (XI xs (i + 2))) fv)) 0 rfl dL_law_961 ?_
      refine lv_iload F.1 F.2.1 dL_law_962 (lv_at hl 0 rfl) ?_
      refine rr_i2l F dL_law_964 hvr ?_
      refine rr_lcmp F (a := sc ((rq a) (XI xs (i + 1)))) (b := sc ((rq a) (XI xs (i + 1)))) dL_law_965 (inL_r hvr) (inL_r hvr) ?_
      refine rr_if_eq F (tgt := 971) dL_law_966 (by decide) (lcm_r _ _) (fun _ => ?_) (fun z => absurd ((lcm_spec _ _).2.1.mpr rfl) z)
      refine lv_goto (tgt := 2055) F.1 F.2.1 dL_law_971 (by decide) ?_
      exact kk _ _ _ _ _ _ _ _ _ _ _ _ _ _ _ _ _ _ H locs ls (hI.rem (by omega) (GD_try hI.2.1 (by omega) (by omega))) hP hD hS (lv_sub hl [2, 3, 4, 5, 6] rfl)
    · refine rr_twS (rest := []) F hK hX hZ1 (r_carve_31 l hnt D cy sa (u 0 0) (u 1 0) (u 3 0) (u 4 0) (u 0 1) (u 0 2) (u 2 0) (u 2 6) (a 96) (a 117) (u 2 1) (u 2 2) (a 0) (G 0) (rq a) (u 2 3) (u 2 4) (u 2 5) (a 25) (G 6) (G 7) (rbl a) (rbc a) (XI xs (i + 1)) (XI xs (i + 2)) out (SB.rg hZ) (SB.bk hZ) (XI_r _ _) (XI_r _ _) (by first | assumption | omega | exact ⟨by omega, by omega⟩) (by first | assumption | omega | exact ⟨by omega, by omega⟩)) hP hS sfw_carve tw600 ⟨Nat.le_of_ble_eq_true rfl, Nat.le_of_ble_eq_true rfl⟩ hl rfl (Nat.le_of_ble_eq_true rfl) dL_law_920 ⟨by show cells + 1 ≤ 601024; omega, by show slots + 6 ≤ 7293033; omega⟩ (pm_cAB cy u w out tl tc ol ct tr fv a G ak Gk As Gs Ah Gh th ap asl of tl tc ct a fv) (fun H locs hP hS _ => ?_)
      refine lv_istore (lv' := [(5, vI 2), (4, vI i), (3, .ref out), (2, .ref (w 0 0)), (1, .ref (u 0 0)), (0, .ref b)]) F.1 F.2.1 dL_law_923 hl (by decide) rfl (fun ls hl => ?_)
      refine lv_aload_n F.1 F.2.1 dL_law_925 rfl (lv_at hl 3 rfl) ?_
      refine lv_aload_n F.1 F.2.1 dL_law_926 rfl (lv_at hl 5 rfl) ?_
      refine lv_iload F.1 F.2.1 dL_law_927 (lv_at hl 1 rfl) ?_
      refine rr_iconst F dL_law_929 ?_
      refine rr_iadd F (z := i + 1) dL_law_930 rfl ?_
      refine rr_sld F (A := fun q => s.heap.size ≤ q) hxs hb hbA hS (by omega) (by omega) hL dL_law_931 ?_
      refine lv_aload_n F.1 F.2.1 dL_law_932 rfl (lv_at hl 5 rfl) ?_
      refine lv_iload F.1 F.2.1 dL_law_933 (lv_at hl 1 rfl) ?_
      refine rr_iconst F dL_law_935 ?_
      refine rr_iadd F (z := i + 2) dL_law_936 rfl ?_
      refine rr_sld F (A := fun q => s.heap.size ≤ q) hxs hb hbA hS (by omega) (by omega) hL dL_law_937 ?_
      have hcode : (if 0 ≤ (XI xs (i + 1)) ∧ (XI xs (i + 1)) < a 0 then 2 else 1 : Int) = 2 := by first | rfl | ((repeat' split) <;> first | rfl | omega)
      refine rr_wrVp (rest := []) F hK (n_X7_carve l D cy (w 0 0) (w 0 1) (w 0 2) (w 0 3) (w 0 4) (w 0 5) (w 0 6) tr ct tl a ap (XI xs (i + 1)) (XI xs (i + 2)) hM hct (XI_r _ _) (XI_r _ _) (by first | assumption | omega)) hP hD hS hA sf_X7_carve tw1111 7 rfl rfl ⟨Nat.le_of_ble_eq_true rfl, Nat.le_of_ble_eq_true rfl⟩ hl rfl (Nat.le_of_ble_eq_true rfl) dL_law_938 ⟨by show cells + 1 ≤ 601024; omega, by show slots + 6 ≤ 7293033; omega⟩ (pm_mNP cy u w out tl tc ol ct tr fv a G ak Gk As Gs Ah Gh th ap asl of tl tc ct a fv) rfl (fun H locs hP hD hS _ => ?_)
      have hP : va_P D vwCl (LW cy u w out tl tc ol ct (if 0 ≤ (XI xs (i + 1)) ∧ (XI xs (i + 1)) < a 0 then 2 else 1) fv a G ak Gk As Gs Ah Gh th ap asl of tl tc ct a fv) H := hP.perm ((pm_mNP cy u w out tl tc ol ct (if 0 ≤ (XI xs (i + 1)) ∧ (XI xs (i + 1)) < a 0 then 2 else 1) fv a G ak Gk As Gs Ah Gh th ap asl of tl tc ct a fv).symm)
      have hD : va_D (fun q => s.heap.size ≤ q) (LW cy u w out tl tc ol ct (if 0 ≤ (XI xs (i + 1)) ∧ (XI xs (i + 1)) < a 0 then 2 else 1) fv a G ak Gk As Gs Ah Gh th ap asl of tl tc ct a fv) := hD.perm ((pm_mNP cy u w out tl tc ol ct (if 0 ≤ (XI xs (i + 1)) ∧ (XI xs (i + 1)) < a 0 then 2 else 1) fv a G ak Gk As Gs Ah Gh th ap asl of tl tc ct a fv).symm)
      rw [hcode] at hP hD
      refine lv_istore (lv' := [(6, vI 0), (5, vI 2), (4, vI i), (3, .ref out), (2, .ref (w 0 0)), (1, .ref (u 0 0)), (0, .ref b)]) F.1 F.2.1 dL_law_941 hl (by decide) rfl (fun ls hl => ?_)
      refine lv_aload_n F.1 F.2.1 dL_law_943 rfl (lv_at hl 4 rfl) ?_
      refine rr_rdVp (rest := []) F hK (c_X7_thrown l D cy (w 0 0) (w 0 1) (w 0 2) (w 0 3) (w 0 4) (w 0 5) (w 0 6) 2 ct tl) hP (pm_m0 cy u w out tl tc ol ct 2 fv a G ak Gk As Gs Ah Gh th ap asl of tl tc ct a fv) sf_X7_thrown tw902 7 rfl rfl ⟨Nat.le_of_ble_eq_true rfl, Nat.le_of_ble_eq_true rfl⟩ hl rfl (Nat.le_of_ble_eq_true rfl) dL_law_944 ⟨by show cells + 1 ≤ 601024; omega, by show slots + 6 ≤ 7293033; omega⟩ ?_
      refine lv_iload F.1 F.2.1 dL_law_947 (lv_at hl 1 rfl) ?_
      refine rr_icmp_eq F (tgt := 954) dL_law_949 (by decide) ⟨by omega, by omega⟩ ⟨by omega, by omega⟩ (fun _ => ?_) (fun z => absurd rfl z)
      refine lv_iload F.1 F.2.1 dL_law_954 (lv_at hl 1 rfl) ?_
      refine rr_if_ne F (tgt := 971) dL_law_956 (by decide) ⟨by omega, by omega⟩ (fun _ => ?_) (fun z => by omega)
      refine lv_goto (tgt := 2055) F.1 F.2.1 dL_law_971 (by decide) ?_
      exact kk _ _ _ _ _ _ _ _ _ _ _ _ _ _ _ _ _ _ H locs ls (hI.mono (by omega)) hP hD hS (lv_sub hl [2, 3, 4, 5, 6] rfl)
  · refine rr_twS (rest := []) F hK hX hZ1 (r_carve_14 l hnt D cy sa (u 0 0) (u 1 0) (u 3 0) (u 4 0) (u 0 1) (u 0 2) (u 2 0) (u 2 6) (a 96) (a 117) (u 2 1) (u 2 2) (a 0) (G 0) (rq a) (u 2 3) (u 2 4) (u 2 5) (a 25) (G 6) (G 7) (rbl a) (rbc a) (XI xs (i + 1)) (XI xs (i + 2)) out (SB.rg hZ) (SB.bk hZ) (XI_r _ _) (XI_r _ _) (by first | assumption | omega | exact ⟨by omega, by omega⟩)) hP hS sfw_carve tw600 ⟨Nat.le_of_ble_eq_true rfl, Nat.le_of_ble_eq_true rfl⟩ hl rfl (Nat.le_of_ble_eq_true rfl) dL_law_920 ⟨by show cells + 1 ≤ 601024; omega, by show slots + 6 ≤ 7293033; omega⟩ (pm_cAB cy u w out tl tc ol ct tr fv a G ak Gk As Gs Ah Gh th ap asl of tl tc ct a fv) (fun H locs hP hS _ => ?_)
    refine lv_istore (lv' := [(5, vI 1), (4, vI i), (3, .ref out), (2, .ref (w 0 0)), (1, .ref (u 0 0)), (0, .ref b)]) F.1 F.2.1 dL_law_923 hl (by decide) rfl (fun ls hl => ?_)
    refine lv_aload_n F.1 F.2.1 dL_law_925 rfl (lv_at hl 3 rfl) ?_
    refine lv_aload_n F.1 F.2.1 dL_law_926 rfl (lv_at hl 5 rfl) ?_
    refine lv_iload F.1 F.2.1 dL_law_927 (lv_at hl 1 rfl) ?_
    refine rr_iconst F dL_law_929 ?_
    refine rr_iadd F (z := i + 1) dL_law_930 rfl ?_
    refine rr_sld F (A := fun q => s.heap.size ≤ q) hxs hb hbA hS (by omega) (by omega) hL dL_law_931 ?_
    refine lv_aload_n F.1 F.2.1 dL_law_932 rfl (lv_at hl 5 rfl) ?_
    refine lv_iload F.1 F.2.1 dL_law_933 (lv_at hl 1 rfl) ?_
    refine rr_iconst F dL_law_935 ?_
    refine rr_iadd F (z := i + 2) dL_law_936 rfl ?_
    refine rr_sld F (A := fun q => s.heap.size ≤ q) hxs hb hbA hS (by omega) (by omega) hL dL_law_937 ?_
    have hcode : (if 0 ≤ (XI xs (i + 1)) ∧ (XI xs (i + 1)) < a 0 then 2 else 1 : Int) = 1 := by first | rfl | ((repeat' split) <;> first | rfl | omega)
    refine rr_wrVp (rest := []) F hK (n_X7_carve l D cy (w 0 0) (w 0 1) (w 0 2) (w 0 3) (w 0 4) (w 0 5) (w 0 6) tr ct tl a ap (XI xs (i + 1)) (XI xs (i + 2)) hM hct (XI_r _ _) (XI_r _ _) (by first | assumption | omega)) hP hD hS hA sf_X7_carve tw1111 7 rfl rfl ⟨Nat.le_of_ble_eq_true rfl, Nat.le_of_ble_eq_true rfl⟩ hl rfl (Nat.le_of_ble_eq_true rfl) dL_law_938 ⟨by show cells + 1 ≤ 601024; omega, by show slots + 6 ≤ 7293033; omega⟩ (pm_mNP cy u w out tl tc ol ct tr fv a G ak Gk As Gs Ah Gh th ap asl of tl tc ct a fv) rfl (fun H locs hP hD hS _ => ?_)
    have hP : va_P D vwCl (LW cy u w out tl tc ol ct (if 0 ≤ (XI xs (i + 1)) ∧ (XI xs (i + 1)) < a 0 then 2 else 1) fv a G ak Gk As Gs Ah Gh th ap asl of tl tc ct a fv) H := hP.perm ((pm_mNP cy u w out tl tc ol ct (if 0 ≤ (XI xs (i + 1)) ∧ (XI xs (i + 1)) < a 0 then 2 else 1) fv a G ak Gk As Gs Ah Gh th ap asl of tl tc ct a fv).symm)
    have hD : va_D (fun q => s.heap.size ≤ q) (LW cy u w out tl tc ol ct (if 0 ≤ (XI xs (i + 1)) ∧ (XI xs (i + 1)) < a 0 then 2 else 1) fv a G ak Gk As Gs Ah Gh th ap asl of tl tc ct a fv) := hD.perm ((pm_mNP cy u w out tl tc ol ct (if 0 ≤ (XI xs (i + 1)) ∧ (XI xs (i + 1)) < a 0 then 2 else 1) fv a G ak Gk As Gs Ah Gh th ap asl of tl tc ct a fv).symm)
    rw [hcode] at hP hD
    refine lv_istore (lv' := [(6, vI 0), (5, vI 1), (4, vI i), (3, .ref out), (2, .ref (w 0 0)), (1, .ref (u 0 0)), (0, .ref b)]) F.1 F.2.1 dL_law_941 hl (by decide) rfl (fun ls hl => ?_)
    refine lv_aload_n F.1 F.2.1 dL_law_943 rfl (lv_at hl 4 rfl) ?_
    refine rr_rdVp (rest := []) F hK (c_X7_thrown l D cy (w 0 0) (w 0 1) (w 0 2) (w 0 3) (w 0 4) (w 0 5) (w 0 6) 1 ct tl) hP (pm_m0 cy u w out tl tc ol ct 1 fv a G ak Gk As Gs Ah Gh th ap asl of tl tc ct a fv) sf_X7_thrown tw902 7 rfl rfl ⟨Nat.le_of_ble_eq_true rfl, Nat.le_of_ble_eq_true rfl⟩ hl rfl (Nat.le_of_ble_eq_true rfl) dL_law_944 ⟨by show cells + 1 ≤ 601024; omega, by show slots + 6 ≤ 7293033; omega⟩ ?_
    refine lv_iload F.1 F.2.1 dL_law_947 (lv_at hl 1 rfl) ?_
    refine rr_icmp_eq F (tgt := 954) dL_law_949 (by decide) ⟨by omega, by omega⟩ ⟨by omega, by omega⟩ (fun _ => ?_) (fun z => absurd rfl z)
    refine lv_iload F.1 F.2.1 dL_law_954 (lv_at hl 1 rfl) ?_
    refine rr_if_ne F (tgt := 971) dL_law_956 (by decide) ⟨by omega, by omega⟩ (fun _ => ?_) (fun z => by omega)
    refine lv_goto (tgt := 2055) F.1 F.2.1 dL_law_971 (by decide) ?_
    exact kk _ _ _ _ _ _ _ _ _ _ _ _ _ _ _ _ _ _ H locs ls (hI.mono (by omega)) hP hD hS (lv_sub hl [2, 3, 4, 5, 6] rfl)
set_option maxRecDepth 100000 in
set_option maxHeartbeats 8000000 in
theorem lc_wear {p : Program} {l : Launch} {e : Env} {s : State} {m : MethodId} {args : Array Value} {below : List Frame} {meth : Method} {c : Code} {Q : State → Prop} {b L : Nat} {xs : Nat → Int32} {D : va_G} {cy : Nat → ClassId} {sa : Nat → Nat} {u w : NU} {out : Nat} (hnt : l.stackTraces = false) (F : FX p m c cL_law 7 s args RL) (hK : KK D cy s) (hX : XK sa s) (hZ0 : ZK (fun q => s.heap.size ≤ q) s s.heap) (hxs : va_X b L xs s s.heap) (hb : b < s.heap.size) (hL : L ≤ 2560) {N : Int} {tl : Int} {tc : Int → Int} {ol : Int} {ct : Int} {tr : Int} {fv : Int → Int} {a : Int → Int} {G : Int → Int → Int} {ak : Int → Int} {Gk : Int → Int → Int} {As : Nat → Int → Int} {Gs : Nat → Int → Int → Int} {Ah : Nat → Int → Int} {Gh : Nat → Int → Int → Int} {th : Int → Int} {ap : Int → Int} {asl : Int → Int} {of : Nat → Int64} (hI : INV N tl tc ol ct fv a G As Gs Ah Gh ap asl) (hN : 0 ≤ N ∧ N ≤ 80000000) {i : Int} (hi : 0 ≤ i ∧ i + 5 ≤ L) {H : Heap} {locs : List Loc} {cells slots : Nat} {ls : Array Slot} (hP : va_P D vwCl (LW cy u w out tl tc ol ct tr fv a G ak Gk As Gs Ah Gh th ap asl of tl tc ct a fv) H) (hD : va_D (fun q => s.heap.size ≤ q) (LW cy u w out tl tc ol ct tr fv a G ak Gk As Gs Ah Gh th ap asl of tl tc ct a fv)) (hS : va_S (fun q => s.heap.size ≤ q) s.heap H locs) (hl : lv_has ls 7 [(4, vI i), (3, .ref out), (2, .ref (w 0 0)), (1, .ref (u 0 0)), (0, .ref b)]) (hc : cells + 1 ≤ 601024 ∧ slots + 6 ≤ 7293033) (kk : LK p l e s m args below meth c D cy u w out b (N + 50) i (cells + 1) (slots + 6) Q) : W p l e room_1 s m args below meth c H locs cells slots Q (F0 m 974 ls []) := by
  have hT := hI.1
  obtain ⟨hZ, hSV, hsp0, hsp1⟩ := hI.2.1
  have hM := SB.mr hZ
  have hn0 := hM.n
  have hw0 := hM.nw
  have hc0 := hM.wc
  have hol := hI.2.2.1
  have hct := hI.2.2.2.1
  have hbA : ¬ (fun q => s.heap.size ≤ q) b := Nat.not_le.mpr hb
  have hA : ∀ q, s.heap.size ≤ q → (fun q => s.heap.size ≤ q) q := fun q h => h
  have hZ1 : ZK nA s H := (hZ0.kept (fun a h1 h2 => hS.2.1 a h1 h2)).narrow (fun _ h => h.elim)
  refine lv_aload_n F.1 F.2.1 dL_law_974 rfl (lv_at hl 3 rfl) ?_
  refine lv_aload_n F.1 F.2.1 dL_law_975 rfl (lv_at hl 4 rfl) ?_
  refine lv_iload F.1 F.2.1 dL_law_976 (lv_at hl 0 rfl) ?_
  refine rr_iconst F dL_law_978 ?_
  refine rr_iadd F (z := i + 1) dL_law_979 rfl ?_
  refine rr_sld F (A := fun q => s.heap.size ≤ q) hxs hb hbA hS (by omega) (by omega) hL dL_law_980 ?_
  refine lv_aload_n F.1 F.2.1 dL_law_981 rfl (lv_at hl 1 rfl) ?_
  have hb_1 := XI_b xs (i + 1)
  by_cases hx0 : 0 ≤ (XI xs (i + 1)) ∧ (XI xs (i + 1)) < a 0
  · refine W.widen (k := cells + 1) (n := slots + 6) (by omega) (by omega) ?_
    have hvr : inR (cnt (fun u_j => (GTry a G 2 (XI xs (i + 1)) 0) 0 u_j = 63) ((tryR a 2 (XI xs (i + 1)) 0) 0)) := wear_r hZ
    have hrr : ((ol + ct) % 14).toNat < 14 := by omega
    refine rr_wwS (rest := []) F hK (w_wear l D cy (u 0 0) (u 1 0) (u 3 0) (u 0 1) (u 0 2) (u 4 0) (u 4 1) (fun i => u (Int.toNat i + 7) 0) ol ct (u 2 0) (u 2 1) (u 2 2) (u 2 3) (u 2 4) (u 2 5) (u 2 6) (fun i => u 2 (7 + Int.toNat i)) (u (((ol + ct) % 14).toNat + 7) 0) (u (((ol + ct) % 14).toNat + 7) 1) (u (((ol + ct) % 14).toNat + 7) 2) (u (((ol + ct) % 14).toNat + 7) 3) (u (((ol + ct) % 14).toNat + 7) 4) (u (((ol + ct) % 14).toNat + 7) 5) (u (((ol + ct) % 14).toNat + 7) 6) (fun i => u (((ol + ct) % 14).toNat + 7) (7 + Int.toNat i)) a (Ah ((ol + ct) % 14).toNat) G (Gh ((ol + ct) % 14).toNat) (XI xs (i + 1)) out of hol hct rfl hZ (by first | assumption | omega | exact ⟨by omega, by omega⟩) hvr) hP hD hS hA sfw_wear tw625 ⟨Nat.le_of_ble_eq_true rfl, Nat.le_of_ble_eq_true rfl⟩ hl rfl (Nat.le_of_ble_eq_true rfl) dL_law_982 ⟨by show cells + 1 ≤ 601024; omega, by show slots + 6 ≤ 7293033; omega⟩ (pm_h cy u w out tl tc ol ct tr fv a G ak Gk As Gs Ah Gh th ap asl of tl tc ct a fv ((ol + ct) % 14).toNat hrr) rfl (fun H locs hP hD hS _ => ?_)
    have hP : va_P D vwCl (LW cy u w out tl tc (if ct < 14 then ol else (ol + 1) % 14) (if ct < 14 then ct + 1 else ct) tr fv (tryR a 2 (XI xs (i + 1)) 0) (GTry a G 2 (XI xs (i + 1)) 0) ak Gk As Gs (upN Ah ((ol + ct) % 14).toNat a) (upN Gh ((ol + ct) % 14).toNat G) th ap asl (vp_updL of 0 (lI (cnt (fun u_j => (GTry a G 2 (XI xs (i + 1)) 0) 0 u_j = 63) ((tryR a 2 (XI xs (i + 1)) 0) 0)))) tl tc ct a fv) H := hP.perm ((po_h cy u w out tl tc (if ct < 14 then ol else (ol + 1) % 14) (if ct < 14 then ct + 1 else ct) tr fv (tryR a 2 (XI xs (i + 1)) 0) (GTry a G 2 (XI xs (i + 1)) 0) ak Gk As Gs (upN Ah ((ol + ct) % 14).toNat a) (upN Gh ((ol + ct) % 14).toNat G) th ap asl (vp_updL of 0 (lI (cnt (fun u_j => (GTry a G 2 (XI xs (i + 1)) 0) 0 u_j = 63) ((tryR a 2 (XI xs (i + 1)) 0) 0)))) tl tc ct a fv Ah Gh ((ol + ct) % 14).toNat hrr upN_s upN_s (fun j z => ⟨upN_n z, upN_n z⟩)))
    have hD : va_D (fun q => s.heap.size ≤ q) (LW cy u w out tl tc (if ct < 14 then ol else (ol + 1) % 14) (if ct < 14 then ct + 1 else ct) tr fv (tryR a 2 (XI xs (i + 1)) 0) (GTry a G 2 (XI xs (i + 1)) 0) ak Gk As Gs (upN Ah ((ol + ct) % 14).toNat a) (upN Gh ((ol + ct) % 14).toNat G) th ap asl (vp_updL of 0 (lI (cnt (fun u_j => (GTry a G 2 (XI xs (i + 1)) 0) 0 u_j = 63) ((tryR a 2 (XI xs (i + 1)) 0) 0)))) tl tc ct a fv) := hD.perm ((po_h cy u w out tl tc (if ct < 14 then ol else (ol + 1) % 14) (if ct < 14 then ct + 1 else ct) tr fv (tryR a 2 (XI xs (i + 1)) 0) (GTry a G 2 (XI xs (i + 1)) 0) ak Gk As Gs (upN Ah ((ol + ct) % 14).toNat a) (upN Gh ((ol + ct) % 14).toNat G) th ap asl (vp_updL of 0 (lI (cnt (fun u_j => (GTry a G 2 (XI xs (i + 1)) 0) 0 u_j = 63) ((tryR a 2 (XI xs (i + 1)) 0) 0)))) tl tc ct a fv Ah Gh ((ol + ct) % 14).toNat hrr upN_s upN_s (fun j z => ⟨upN_n z, upN_n z⟩)))
    refine lv_istore (lv' := [(5, vI 0), (4, vI i), (3, .ref out), (2, .ref (w 0 0)), (1, .ref (u 0 0)), (0, .ref b)]) F.1 F.2.1 dL_law_985 hl (by decide) rfl (fun ls hl => ?_)
    refine lv_aload_n F.1 F.2.1 dL_law_987 rfl (lv_at hl 3 rfl) ?_
    refine lv_aload_n F.1 F.2.1 dL_law_988 rfl (lv_at hl 5 rfl) ?_
    refine lv_iload F.1 F.2.1 dL_law_989 (lv_at hl 1 rfl) ?_
    refine rr_iconst F dL_law_991 ?_
    refine rr_iadd F (z := i + 1) dL_law_992 rfl ?_
    refine rr_sld F (A := fun q => s.heap.size ≤ q) hxs hb hbA hS (by omega) (by omega) hL dL_law_993 ?_
    refine rr_wrVp (rest := []) F hK (c_X7_wear l D cy (w 0 0) (w 0 1) (w 0 2) (w 0 3) (w 0 4) (w 0 5) (w 0 6) tr ct tl a ap (XI xs (i + 1)) hM hct (XI_r _ _) (by first | assumption | omega | exact ⟨by omega, by omega⟩)) hP hD hS hA sf_X7_wear tw1121 7 rfl rfl ⟨Nat.le_of_ble_eq_true rfl, Nat.le_of_ble_eq_true rfl⟩ hl rfl (Nat.le_of_ble_eq_true rfl) dL_law_994 ⟨by show cells + 1 ≤ 601024; omega, by show slots + 6 ≤ 7293033; omega⟩ (pm_mNP cy u w out tl tc (if ct < 14 then ol else (ol + 1) % 14) (if ct < 14 then ct + 1 else ct) tr fv (tryR a 2 (XI xs (i + 1)) 0) (GTry a G 2 (XI xs (i + 1)) 0) ak Gk As Gs (upN Ah ((ol + ct) % 14).toNat a) (upN Gh ((ol + ct) % 14).toNat G) th ap asl (vp_updL of 0 (lI (cnt (fun u_j => (GTry a G 2 (XI xs (i + 1)) 0) 0 u_j = 63) ((tryR a 2 (XI xs (i + 1)) 0) 0)))) tl tc ct a fv) rfl (fun H locs hP hD hS _ => ?_)
    have hP : va_P D vwCl (LW cy u w out tl tc (if ct < 14 then ol else (ol + 1) % 14) (if ct < 14 then ct + 1 else ct) 0 fv (tryR a 2 (XI xs (i + 1)) 0) (GTry a G 2 (XI xs (i + 1)) 0) ak Gk As Gs (upN Ah ((ol + ct) % 14).toNat a) (upN Gh ((ol + ct) % 14).toNat G) th (remA a ap ct) asl (vp_updL of 0 (lI (cnt (fun u_j => (GTry a G 2 (XI xs (i + 1)) 0) 0 u_j = 63) ((tryR a 2 (XI xs (i + 1)) 0) 0)))) tl tc (remN ct) (updZ a (1 + (XI xs (i + 1))) (if a (1 + (XI xs (i + 1))) = 0 then 0 else 9)) fv) H := hP.perm ((pm_mNP cy u w out tl tc (if ct < 14 then ol else (ol + 1) % 14) (if ct < 14 then ct + 1 else ct) 0 fv (tryR a 2 (XI xs (i + 1)) 0) (GTry a G 2 (XI xs (i + 1)) 0) ak Gk As Gs (upN Ah ((ol + ct) % 14).toNat a) (upN Gh ((ol + ct) % 14).toNat G) th (remA a ap ct) asl (vp_updL of 0 (lI (cnt (fun u_j => (GTry a G 2 (XI xs (i + 1)) 0) 0 u_j = 63) ((tryR a 2 (XI xs (i + 1)) 0) 0)))) tl tc (remN ct) (updZ a (1 + (XI xs (i + 1))) (if a (1 + (XI xs (i + 1))) = 0 then 0 else 9)) fv).symm)
    have hD : va_D (fun q => s.heap.size ≤ q) (LW cy u w out tl tc (if ct < 14 then ol else (ol + 1) % 14) (if ct < 14 then ct + 1 else ct) 0 fv (tryR a 2 (XI xs (i + 1)) 0) (GTry a G 2 (XI xs (i + 1)) 0) ak Gk As Gs (upN Ah ((ol + ct) % 14).toNat a) (upN Gh ((ol + ct) % 14).toNat G) th (remA a ap ct) asl (vp_updL of 0 (lI (cnt (fun u_j => (GTry a G 2 (XI xs (i + 1)) 0) 0 u_j = 63) ((tryR a 2 (XI xs (i + 1)) 0) 0)))) tl tc (remN ct) (updZ a (1 + (XI xs (i + 1))) (if a (1 + (XI xs (i + 1))) = 0 then 0 else 9)) fv) := hD.perm ((pm_mNP cy u w out tl tc (if ct < 14 then ol else (ol + 1) % 14) (if ct < 14 then ct + 1 else ct) 0 fv (tryR a 2 (XI xs (i + 1)) 0) (GTry a G 2 (XI xs (i + 1)) 0) ak Gk As Gs (upN Ah ((ol + ct) % 14).toNat a) (upN Gh ((ol + ct) % 14).toNat G) th (remA a ap ct) asl (vp_updL of 0 (lI (cnt (fun u_j => (GTry a G 2 (XI xs (i + 1)) 0) 0 u_j = 63) ((tryR a 2 (XI xs (i + 1)) 0) 0)))) tl tc (remN ct) (updZ a (1 + (XI xs (i + 1))) (if a (1 + (XI xs (i + 1))) = 0 then 0 else 9)) fv).symm)
    rw [remN_ct hct] at hP hD
    rw [show updZ a (1 + (XI xs (i + 1))) (if a (1 + (XI xs (i + 1))) = 0 then 0 else 9) = tryR a 2 (XI xs (i + 1)) 0 from (rw_wear (by unfold okA; omega)).symm] at hP hD
    have hP : va_P D vwCl (LW cy u w out tl tc (if ct < 14 then ol else (ol + 1) % 14) (if ct < 14 then ct + 1 else ct) 0 fv (tryR a 2 (XI xs (i + 1)) 0) (GTry a G 2 (XI xs (i + 1)) 0) ak Gk As Gs (upN Ah ((ol + ct) % 14).toNat a) (upN Gh ((ol + ct) % 14).toNat G) th (remA a ap ct) asl (vp_updL of 0 (lI (cnt (fun u_j => (GTry a G 2 (XI xs (i + 1)) 0) 0 u_j = 63) ((tryR a 2 (XI xs (i + 1)) 0) 0)))) tl tc (if ct < 14 then ct + 1 else ct) (tryR a 2 (XI xs (i + 1)) 0) fv) H := hP
    have hD : va_D (fun q => s.heap.size ≤ q) (LW cy u w out tl tc (if ct < 14 then ol else (ol + 1) % 14) (if ct < 14 then ct + 1 else ct) 0 fv (tryR a 2 (XI xs (i + 1)) 0) (GTry a G 2 (XI xs (i + 1)) 0) ak Gk As Gs (upN Ah ((ol + ct) % 14).toNat a) (upN Gh ((ol + ct) % 14).toNat G) th (remA a ap ct) asl (vp_updL of 0 (lI (cnt (fun u_j => (GTry a G 2 (XI xs (i + 1)) 0) 0 u_j = 63) ((tryR a 2 (XI xs (i + 1)) 0) 0)))) tl tc (if ct < 14 then ct + 1 else ct) (tryR a 2 (XI xs (i + 1)) 0) fv) := hD
    rw [show (cnt (fun u_j => (updZ a (1 + (XI xs (i + 1))) (if a (1 + (XI xs (i + 1))) = 0 then 0 else 9)) (1 + u_j) = 9) (a 0) : Int) = (cnt (fun u_j => (GTry a G 2 (XI xs (i + 1)) 0) 0 u_j = 63) ((tryR a 2 (XI xs (i + 1)) 0) 0)) from lk_wear hZ (by omega)]
    refine lv_istore (lv' := [(6, vI (cnt (fun u_j => (GTry a G 2 (XI xs (i + 1)) 0) 0 u_j = 63) ((tryR a 2 (XI xs (i + 1)) 0) 0))), (5, vI 0), (4, vI i), (3, .ref out), (2, .ref (w 0 0)), (1, .ref (u 0 0)), (0, .ref b)]) F.1 F.2.1 dL_law_997 hl (by decide) rfl (fun ls hl => ?_)
    refine lv_aload_n F.1 F.2.1 dL_law_999 rfl (lv_at hl 4 rfl) ?_
    refine rr_rdVp (rest := []) F hK (c_X7_thrown l D cy (w 0 0) (w 0 1) (w 0 2) (w 0 3) (w 0 4) (w 0 5) (w 0 6) 0 (if ct < 14 then ct + 1 else ct) tl) hP (pm_m0 cy u w out tl tc (if ct < 14 then ol else (ol + 1) % 14) (if ct < 14 then ct + 1 else ct) 0 fv (tryR a 2 (XI xs (i + 1)) 0) (GTry a G 2 (XI xs (i + 1)) 0) ak Gk As Gs (upN Ah ((ol + ct) % 14).toNat a) (upN Gh ((ol + ct) % 14).toNat G) th (remA a ap ct) asl (vp_updL of 0 (lI (cnt (fun u_j => (GTry a G 2 (XI xs (i + 1)) 0) 0 u_j = 63) ((tryR a 2 (XI xs (i + 1)) 0) 0)))) tl tc (if ct < 14 then ct + 1 else ct) (tryR a 2 (XI xs (i + 1)) 0) fv) sf_X7_thrown tw902 7 rfl rfl ⟨Nat.le_of_ble_eq_true rfl, Nat.le_of_ble_eq_true rfl⟩ hl rfl (Nat.le_of_ble_eq_true rfl) dL_law_1000 ⟨by show cells + 1 ≤ 601024; omega, by show slots + 6 ≤ 7293033; omega⟩ ?_
    refine lv_iload F.1 F.2.1 dL_law_1003 (lv_at hl 1 rfl) ?_
    refine rr_icmp_eq F (tgt := 1010) dL_law_1005 (by decide) ⟨by omega, by omega⟩ ⟨by omega, by omega⟩ (fun _ => ?_) (fun z => absurd rfl z)
    refine lv_iload F.1 F.2.1 dL_law_1010 (lv_at hl 1 rfl) ?_
    refine rr_if_ne F (tgt := 1027) dL_law_1012 (by decide) ⟨by omega, by omega⟩ (fun z => absurd rfl z) (fun _ => ?_)
    refine lv_aload_n F.1 F.2.1 dL_law_1015 rfl (lv_at hl 3 rfl) ?_
    refine rr_iconst F dL_law_1016 ?_
    refine rr_lald0 F hK (hP.perm (pm_o cy u w out tl tc (if ct < 14 then ol else (ol + 1) % 14) (if ct < 14 then ct + 1 else ct) 0 fv (tryR a 2 (XI xs (i + 1)) 0) (GTry a G 2 (XI xs (i + 1)) 0) ak Gk As Gs (upN Ah ((ol + ct) % 14).toNat a) (upN Gh ((ol + ct) % 14).toNat G) th (remA a ap ct) asl (vp_updL of 0 (lI (cnt (fun u_j => (GTry a G 2 (XI xs (i + 1)) 0) 0 u_j = 63) ((tryR a 2 (XI xs (i + 1)) 0) 0)))) tl tc (if ct < 14 then ct + 1 else ct) (tryR a 2 (XI xs (i + 1)) 0) fv)) 0 rfl dL_law_1017 ?_
    refine lv_iload F.1 F.2.1 dL_law_1018 (lv_at hl 0 rfl) ?_
    refine rr_i2l F dL_law_1020 hvr ?_
    refine rr_lcmp F (a := cnt (fun u_j => (GTry a G 2 (XI xs (i + 1)) 0) 0 u_j = 63) ((tryR a 2 (XI xs (i + 1)) 0) 0)) (b := cnt (fun u_j => (GTry a G 2 (XI xs (i + 1)) 0) 0 u_j = 63) ((tryR a 2 (XI xs (i + 1)) 0) 0)) dL_law_1021 (inL_r hvr) (inL_r hvr) ?_
    refine rr_if_eq F (tgt := 1027) dL_law_1022 (by decide) (lcm_r _ _) (fun _ => ?_) (fun z => absurd ((lcm_spec _ _).2.1.mpr rfl) z)
    refine lv_goto (tgt := 2055) F.1 F.2.1 dL_law_1027 (by decide) ?_
    exact kk _ _ _ _ _ _ _ _ _ _ _ _ _ _ _ _ _ _ H locs ls (hI.rem (by omega) (GD_try hI.2.1 (by omega) (by omega))) hP hD hS (lv_sub hl [2, 3, 4, 5, 6] rfl)
  · refine rr_twS (rest := []) F hK hX hZ1 (r_wear_14 l hnt D cy sa (u 0 0) (u 1 0) (u 3 0) (u 4 0) (u 0 1) (u 0 2) (u 2 0) (u 2 6) (a 96) (a 117) (u 2 1) (u 2 2) (a 0) (G 0) (rq a) (u 2 3) (u 2 4) (u 2 5) (a 25) (G 6) (G 7) (rbl a) (rbc a) (XI xs (i + 1)) out (SB.rg hZ) (SB.bk hZ) (XI_r _ _) (by first | assumption | omega | exact ⟨by omega, by omega⟩)) hP hS sfw_wear tw625 ⟨Nat.le_of_ble_eq_true rfl, Nat.le_of_ble_eq_true rfl⟩ hl rfl (Nat.le_of_ble_eq_true rfl) dL_law_982 ⟨by show cells + 1 ≤ 601024; omega, by show slots + 6 ≤ 7293033; omega⟩ (pm_cAB cy u w out tl tc ol ct tr fv a G ak Gk As Gs Ah Gh th ap asl of tl tc ct a fv) (fun H locs hP hS _ => ?_)
    refine lv_istore (lv' := [(5, vI 1), (4, vI i), (3, .ref out), (2, .ref (w 0 0)), (1, .ref (u 0 0)), (0, .ref b)]) F.1 F.2.1 dL_law_985 hl (by decide) rfl (fun ls hl => ?_)
    refine lv_aload_n F.1 F.2.1 dL_law_987 rfl (lv_at hl 3 rfl) ?_
    refine lv_aload_n F.1 F.2.1 dL_law_988 rfl (lv_at hl 5 rfl) ?_
    refine lv_iload F.1 F.2.1 dL_law_989 (lv_at hl 1 rfl) ?_
    refine rr_iconst F dL_law_991 ?_
    refine rr_iadd F (z := i + 1) dL_law_992 rfl ?_
    refine rr_sld F (A := fun q => s.heap.size ≤ q) hxs hb hbA hS (by omega) (by omega) hL dL_law_993 ?_
    have hcode : (1 : Int) = 1 := by first | rfl | ((repeat' split) <;> first | rfl | omega)
    refine rr_wrVp (rest := []) F hK (n_X7_wear l D cy (w 0 0) (w 0 1) (w 0 2) (w 0 3) (w 0 4) (w 0 5) (w 0 6) tr ct tl a ap (XI xs (i + 1)) hM hct (XI_r _ _) (by first | assumption | omega)) hP hD hS hA sf_X7_wear tw1121 7 rfl rfl ⟨Nat.le_of_ble_eq_true rfl, Nat.le_of_ble_eq_true rfl⟩ hl rfl (Nat.le_of_ble_eq_true rfl) dL_law_994 ⟨by show cells + 1 ≤ 601024; omega, by show slots + 6 ≤ 7293033; omega⟩ (pm_mNP cy u w out tl tc ol ct tr fv a G ak Gk As Gs Ah Gh th ap asl of tl tc ct a fv) rfl (fun H locs hP hD hS _ => ?_)
    have hP : va_P D vwCl (LW cy u w out tl tc ol ct 1 fv a G ak Gk As Gs Ah Gh th ap asl of tl tc ct a fv) H := hP.perm ((pm_mNP cy u w out tl tc ol ct 1 fv a G ak Gk As Gs Ah Gh th ap asl of tl tc ct a fv).symm)
    have hD : va_D (fun q => s.heap.size ≤ q) (LW cy u w out tl tc ol ct 1 fv a G ak Gk As Gs Ah Gh th ap asl of tl tc ct a fv) := hD.perm ((pm_mNP cy u w out tl tc ol ct 1 fv a G ak Gk As Gs Ah Gh th ap asl of tl tc ct a fv).symm)
    refine lv_istore (lv' := [(6, vI 0), (5, vI 1), (4, vI i), (3, .ref out), (2, .ref (w 0 0)), (1, .ref (u 0 0)), (0, .ref b)]) F.1 F.2.1 dL_law_997 hl (by decide) rfl (fun ls hl => ?_)
    refine lv_aload_n F.1 F.2.1 dL_law_999 rfl (lv_at hl 4 rfl) ?_
    refine rr_rdVp (rest := []) F hK (c_X7_thrown l D cy (w 0 0) (w 0 1) (w 0 2) (w 0 3) (w 0 4) (w 0 5) (w 0 6) 1 ct tl) hP (pm_m0 cy u w out tl tc ol ct 1 fv a G ak Gk As Gs Ah Gh th ap asl of tl tc ct a fv) sf_X7_thrown tw902 7 rfl rfl ⟨Nat.le_of_ble_eq_true rfl, Nat.le_of_ble_eq_true rfl⟩ hl rfl (Nat.le_of_ble_eq_true rfl) dL_law_1000 ⟨by show cells + 1 ≤ 601024; omega, by show slots + 6 ≤ 7293033; omega⟩ ?_
    refine lv_iload F.1 F.2.1 dL_law_1003 (lv_at hl 1 rfl) ?_
    refine rr_icmp_eq F (tgt := 1010) dL_law_1005 (by decide) ⟨by omega, by omega⟩ ⟨by omega, by omega⟩ (fun _ => ?_) (fun z => absurd rfl z)
    refine lv_iload F.1 F.2.1 dL_law_1010 (lv_at hl 1 rfl) ?_
    refine rr_if_ne F (tgt := 1027) dL_law_1012 (by decide) ⟨by omega, by omega⟩ (fun _ => ?_) (fun z => by omega)
    refine lv_goto (tgt := 2055) F.1 F.2.1 dL_law_1027 (by decide) ?_
    exact kk _ _ _ _ _ _ _ _ _ _ _ _ _ _ _ _ _ _ H locs ls (hI.mono (by omega)) hP hD hS (lv_sub hl [2, 3, 4, 5, 6] rfl)
set_option maxRecDepth 100000 in
set_option maxHeartbeats 8000000 in
theorem lc_insert {p : Program} {l : Launch} {e : Env} {s : State} {m : MethodId} {args : Array Value} {below : List Frame} {meth : Method} {c : Code} {Q : State → Prop} {b L : Nat} {xs : Nat → Int32} {D : va_G} {cy : Nat → ClassId} {sa : Nat → Nat} {u w : NU} {out : Nat} (hnt : l.stackTraces = false) (F : FX p m c cL_law 7 s args RL) (hK : KK D cy s) (hX : XK sa s) (hZ0 : ZK (fun q => s.heap.size ≤ q) s s.heap) (hxs : va_X b L xs s s.heap) (hb : b < s.heap.size) (hL : L ≤ 2560) {N : Int} {tl : Int} {tc : Int → Int} {ol : Int} {ct : Int} {tr : Int} {fv : Int → Int} {a : Int → Int} {G : Int → Int → Int} {ak : Int → Int} {Gk : Int → Int → Int} {As : Nat → Int → Int} {Gs : Nat → Int → Int → Int} {Ah : Nat → Int → Int} {Gh : Nat → Int → Int → Int} {th : Int → Int} {ap : Int → Int} {asl : Int → Int} {of : Nat → Int64} (hI : INV N tl tc ol ct fv a G As Gs Ah Gh ap asl) (hN : 0 ≤ N ∧ N ≤ 80000000) {i : Int} (hi : 0 ≤ i ∧ i + 5 ≤ L) {H : Heap} {locs : List Loc} {cells slots : Nat} {ls : Array Slot} (hP : va_P D vwCl (LW cy u w out tl tc ol ct tr fv a G ak Gk As Gs Ah Gh th ap asl of tl tc ct a fv) H) (hD : va_D (fun q => s.heap.size ≤ q) (LW cy u w out tl tc ol ct tr fv a G ak Gk As Gs Ah Gh th ap asl of tl tc ct a fv)) (hS : va_S (fun q => s.heap.size ≤ q) s.heap H locs) (hl : lv_has ls 7 [(4, vI i), (3, .ref out), (2, .ref (w 0 0)), (1, .ref (u 0 0)), (0, .ref b)]) (hc : cells + 1 ≤ 601024 ∧ slots + 6 ≤ 7293033) (kk : LK p l e s m args below meth c D cy u w out b (N + 50) i (cells + 1) (slots + 6) Q) : W p l e room_1 s m args below meth c H locs cells slots Q (F0 m 1030 ls []) := by
  have hT := hI.1
  obtain ⟨hZ, hSV, hsp0, hsp1⟩ := hI.2.1
  have hM := SB.mr hZ
  have hn0 := hM.n
  have hw0 := hM.nw
  have hc0 := hM.wc
  have hol := hI.2.2.1
  have hct := hI.2.2.2.1
  have hbA : ¬ (fun q => s.heap.size ≤ q) b := Nat.not_le.mpr hb
  have hA : ∀ q, s.heap.size ≤ q → (fun q => s.heap.size ≤ q) q := fun q h => h
  have hZ1 : ZK nA s H := (hZ0.kept (fun a h1 h2 => hS.2.1 a h1 h2)).narrow (fun _ h => h.elim)
  refine lv_aload_n F.1 F.2.1 dL_law_1030 rfl (lv_at hl 3 rfl) ?_
  refine lv_aload_n F.1 F.2.1 dL_law_1031 rfl (lv_at hl 4 rfl) ?_
  refine lv_iload F.1 F.2.1 dL_law_1032 (lv_at hl 0 rfl) ?_
  refine rr_iconst F dL_law_1034 ?_
  refine rr_iadd F (z := i + 1) dL_law_1035 rfl ?_
  refine rr_sld F (A := fun q => s.heap.size ≤ q) hxs hb hbA hS (by omega) (by omega) hL dL_law_1036 ?_
  refine lv_aload_n F.1 F.2.1 dL_law_1037 rfl (lv_at hl 4 rfl) ?_
  refine lv_iload F.1 F.2.1 dL_law_1038 (lv_at hl 0 rfl) ?_
  refine rr_iconst F dL_law_1040 ?_
  refine rr_iadd F (z := i + 2) dL_law_1041 rfl ?_
  refine rr_sld F (A := fun q => s.heap.size ≤ q) hxs hb hbA hS (by omega) (by omega) hL dL_law_1042 ?_
  refine lv_aload_n F.1 F.2.1 dL_law_1043 rfl (lv_at hl 1 rfl) ?_
  have hb_1 := XI_b xs (i + 1)
  have hb_2 := XI_b xs (i + 2)
  by_cases hx0 : 0 ≤ (XI xs (i + 1)) ∧ (XI xs (i + 1)) ≤ a 0
  · by_cases hx1 : 0 ≤ (XI xs (i + 2)) ∧ (XI xs (i + 2)) ≤ 8
    · by_cases hx2 : a 0 < 24
      · refine W.widen (k := cells + 1) (n := slots + 6) (by omega) (by omega) ?_
        have hvr : inR (a 0 + 1) := ⟨by omega, by omega⟩
        have hrr : ((ol + ct) % 14).toNat < 14 := by omega
        refine rr_wwS (rest := []) F hK (w_insert l D cy (u 0 0) (u 1 0) (u 3 0) (u 0 1) (u 0 2) (u 4 0) (u 4 1) (fun i => u (Int.toNat i + 7) 0) ol ct (u 2 0) (u 2 1) (u 2 2) (u 2 3) (u 2 4) (u 2 5) (u 2 6) (fun i => u 2 (7 + Int.toNat i)) (u (((ol + ct) % 14).toNat + 7) 0) (u (((ol + ct) % 14).toNat + 7) 1) (u (((ol + ct) % 14).toNat + 7) 2) (u (((ol + ct) % 14).toNat + 7) 3) (u (((ol + ct) % 14).toNat + 7) 4) (u (((ol + ct) % 14).toNat + 7) 5) (u (((ol + ct) % 14).toNat + 7) 6) (fun i => u (((ol + ct) % 14).toNat + 7) (7 + Int.toNat i)) a (Ah ((ol + ct) % 14).toNat) G (Gh ((ol + ct) % 14).toNat) (XI xs (i + 1)) (XI xs (i + 2)) out of hol hct rfl hZ (by first | assumption | omega | exact ⟨by omega, by omega⟩) (by first | assumption | omega | exact ⟨by omega, by omega⟩) (by first | assumption | omega | exact ⟨by omega, by omega⟩) hvr) hP hD hS hA sfw_insert tw638 ⟨Nat.le_of_ble_eq_true rfl, Nat.le_of_ble_eq_true rfl⟩ hl rfl (Nat.le_of_ble_eq_true rfl) dL_law_1044 ⟨by show cells + 1 ≤ 601024; omega, by show slots + 6 ≤ 7293033; omega⟩ (pm_h cy u w out tl tc ol ct tr fv a G ak Gk As Gs Ah Gh th ap asl of tl tc ct a fv ((ol + ct) % 14).toNat hrr) rfl (fun H locs hP hD hS _ => ?_)
        have hP : va_P D vwCl (LW cy u w out tl tc (if ct < 14 then ol else (ol + 1) % 14) (if ct < 14 then ct + 1 else ct) tr fv (tryR a 3 (XI xs (i + 1)) (XI xs (i + 2))) (GTry a G 3 (XI xs (i + 1)) (XI xs (i + 2))) ak Gk As Gs (upN Ah ((ol + ct) % 14).toNat a) (upN Gh ((ol + ct) % 14).toNat G) th ap asl (vp_updL of 0 (lI (a 0 + 1))) tl tc ct a fv) H := hP.perm ((po_h cy u w out tl tc (if ct < 14 then ol else (ol + 1) % 14) (if ct < 14 then ct + 1 else ct) tr fv (tryR a 3 (XI xs (i + 1)) (XI xs (i + 2))) (GTry a G 3 (XI xs (i + 1)) (XI xs (i + 2))) ak Gk As Gs (upN Ah ((ol + ct) % 14).toNat a) (upN Gh ((ol + ct) % 14).toNat G) th ap asl (vp_updL of 0 (lI (a 0 + 1))) tl tc ct a fv Ah Gh ((ol + ct) % 14).toNat hrr upN_s upN_s (fun j z => ⟨upN_n z, upN_n z⟩)))
        have hD : va_D (fun q => s.heap.size ≤ q) (LW cy u w out tl tc (if ct < 14 then ol else (ol + 1) % 14) (if ct < 14 then ct + 1 else ct) tr fv (tryR a 3 (XI xs (i + 1)) (XI xs (i + 2))) (GTry a G 3 (XI xs (i + 1)) (XI xs (i + 2))) ak Gk As Gs (upN Ah ((ol + ct) % 14).toNat a) (upN Gh ((ol + ct) % 14).toNat G) th ap asl (vp_updL of 0 (lI (a 0 + 1))) tl tc ct a fv) := hD.perm ((po_h cy u w out tl tc (if ct < 14 then ol else (ol + 1) % 14) (if ct < 14 then ct + 1 else ct) tr fv (tryR a 3 (XI xs (i + 1)) (XI xs (i + 2))) (GTry a G 3 (XI xs (i + 1)) (XI xs (i + 2))) ak Gk As Gs (upN Ah ((ol + ct) % 14).toNat a) (upN Gh ((ol + ct) % 14).toNat G) th ap asl (vp_updL of 0 (lI (a 0 + 1))) tl tc ct a fv Ah Gh ((ol + ct) % 14).toNat hrr upN_s upN_s (fun j z => ⟨upN_n z, upN_n z⟩)))
        refine lv_istore (lv' := [(5, vI 0), (4, vI i), (3, .ref out), (2, .ref (w 0 0)), (1, .ref (u 0 0)), (0, .ref b)]) F.1 F.2.1 dL_law_1047 hl (by decide) rfl (fun ls hl => ?_)
        refine lv_aload_n F.1 F.2.1 dL_law_1049 rfl (lv_at hl 3 rfl) ?_
        refine lv_aload_n F.1 F.2.1 dL_law_1050 rfl (lv_at hl 5 rfl) ?_
        refine lv_iload F.1 F.2.1 dL_law_1051 (lv_at hl 1 rfl) ?_
        refine rr_iconst F dL_law_1053 ?_
        refine rr_iadd F (z := i + 1) dL_law_1054 rfl ?_
        refine rr_sld F (A := fun q => s.heap.size ≤ q) hxs hb hbA hS (by omega) (by omega) hL dL_law_1055 ?_
        refine lv_aload_n F.1 F.2.1 dL_law_1056 rfl (lv_at hl 5 rfl) ?_
        refine lv_iload F.1 F.2.1 dL_law_1057 (lv_at hl 1 rfl) ?_
        refine rr_iconst F dL_law_1059 ?_
        refine rr_iadd F (z := i + 2) dL_law_1060 rfl ?_
        refine rr_sld F (A := fun q => s.heap.size ≤ q) hxs hb hbA hS (by omega) (by omega) hL dL_law_1061 ?_
        refine rr_wrVp (rest := []) F hK (c_X7_insert l D cy (w 0 0) (w 0 1) (w 0 2) (w 0 3) (w 0 4) (w 0 5) (w 0 6) tr ct tl a ap (XI xs (i + 1)) (XI xs (i + 2)) hM hct (XI_r _ _) (XI_r _ _) (by first | assumption | omega | exact ⟨by omega, by omega⟩) (by first | assumption | omega | exact ⟨by omega, by omega⟩) (by first | assumption | omega | exact ⟨by omega, by omega⟩)) hP hD hS hA sf_X7_insert tw1128 7 rfl rfl ⟨Nat.le_of_ble_eq_true rfl, Nat.le_of_ble_eq_true rfl⟩ hl rfl (Nat.le_of_ble_eq_true rfl) dL_law_1062 ⟨by show cells + 1 ≤ 601024; omega, by show slots + 6 ≤ 7293033; omega⟩ (pm_mNP cy u w out tl tc (if ct < 14 then ol else (ol + 1) % 14) (if ct < 14 then ct + 1 else ct) tr fv (tryR a 3 (XI xs (i + 1)) (XI xs (i + 2))) (GTry a G 3 (XI xs (i + 1)) (XI xs (i + 2))) ak Gk As Gs (upN Ah ((ol + ct) % 14).toNat a) (upN Gh ((ol + ct) % 14).toNat G) th ap asl (vp_updL of 0 (lI (a 0 + 1))) tl tc ct a fv) rfl (fun H locs hP hD hS _ => ?_)
        have hP : va_P D vwCl (LW cy u w out tl tc (if ct < 14 then ol else (ol + 1) % 14) (if ct < 14 then ct + 1 else ct) 0 fv (tryR a 3 (XI xs (i + 1)) (XI xs (i + 2))) (GTry a G 3 (XI xs (i + 1)) (XI xs (i + 2))) ak Gk As Gs (upN Ah ((ol + ct) % 14).toNat a) (upN Gh ((ol + ct) % 14).toNat G) th (remA a ap ct) asl (vp_updL of 0 (lI (a 0 + 1))) tl tc (remN ct) (zrZ (updZ (updZ (insZ a (1 + a 0) (1 + (XI xs (i + 1)))) (1 + (XI xs (i + 1))) (XI xs (i + 2))) 0 (a 0 + 1)) 96 117) fv) H := hP.perm ((pm_mNP cy u w out tl tc (if ct < 14 then ol else (ol + 1) % 14) (if ct < 14 then ct + 1 else ct) 0 fv (tryR a 3 (XI xs (i + 1)) (XI xs (i + 2))) (GTry a G 3 (XI xs (i + 1)) (XI xs (i + 2))) ak Gk As Gs (upN Ah ((ol + ct) % 14).toNat a) (upN Gh ((ol + ct) % 14).toNat G) th (remA a ap ct) asl (vp_updL of 0 (lI (a 0 + 1))) tl tc (remN ct) (zrZ (updZ (updZ (insZ a (1 + a 0) (1 + (XI xs (i + 1)))) (1 + (XI xs (i + 1))) (XI xs (i + 2))) 0 (a 0 + 1)) 96 117) fv).symm)
        have hD : va_D (fun q => s.heap.size ≤ q) (LW cy u w out tl tc (if ct < 14 then ol else (ol + 1) % 14) (if ct < 14 then ct + 1 else ct) 0 fv (tryR a 3 (XI xs (i + 1)) (XI xs (i + 2))) (GTry a G 3 (XI xs (i + 1)) (XI xs (i + 2))) ak Gk As Gs (upN Ah ((ol + ct) % 14).toNat a) (upN Gh ((ol + ct) % 14).toNat G) th (remA a ap ct) asl (vp_updL of 0 (lI (a 0 + 1))) tl tc (remN ct) (zrZ (updZ (updZ (insZ a (1 + a 0) (1 + (XI xs (i + 1)))) (1 + (XI xs (i + 1))) (XI xs (i + 2))) 0 (a 0 + 1)) 96 117) fv) := hD.perm ((pm_mNP cy u w out tl tc (if ct < 14 then ol else (ol + 1) % 14) (if ct < 14 then ct + 1 else ct) 0 fv (tryR a 3 (XI xs (i + 1)) (XI xs (i + 2))) (GTry a G 3 (XI xs (i + 1)) (XI xs (i + 2))) ak Gk As Gs (upN Ah ((ol + ct) % 14).toNat a) (upN Gh ((ol + ct) % 14).toNat G) th (remA a ap ct) asl (vp_updL of 0 (lI (a 0 + 1))) tl tc (remN ct) (zrZ (updZ (updZ (insZ a (1 + a 0) (1 + (XI xs (i + 1)))) (1 + (XI xs (i + 1))) (XI xs (i + 2))) 0 (a 0 + 1)) 96 117) fv).symm)
        rw [remN_ct hct] at hP hD
        rw [show zrZ (updZ (updZ (insZ a (1 + a 0) (1 + (XI xs (i + 1)))) (1 + (XI xs (i + 1))) (XI xs (i + 2))) 0 (a 0 + 1)) 96 117 = tryR a 3 (XI xs (i + 1)) (XI xs (i + 2)) from (rw_insert (by unfold okA; omega)).symm] at hP hD
        have hP : va_P D vwCl (LW cy u w out tl tc (if ct < 14 then ol else (ol + 1) % 14) (if ct < 14 then ct + 1 else ct) 0 fv (tryR a 3 (XI xs (i + 1)) (XI xs (i + 2))) (GTry a G 3 (XI xs (i + 1)) (XI xs (i + 2))) ak Gk As Gs (upN Ah ((ol + ct) % 14).toNat a) (upN Gh ((ol + ct) % 14).toNat G) th (remA a ap ct) asl (vp_updL of 0 (lI (a 0 + 1))) tl tc (if ct < 14 then ct + 1 else ct) (tryR a 3 (XI xs (i + 1)) (XI xs (i + 2))) fv) H := hP
        have hD : va_D (fun q => s.heap.size ≤ q) (LW cy u w out tl tc (if ct < 14 then ol else (ol + 1) % 14) (if ct < 14 then ct + 1 else ct) 0 fv (tryR a 3 (XI xs (i + 1)) (XI xs (i + 2))) (GTry a G 3 (XI xs (i + 1)) (XI xs (i + 2))) ak Gk As Gs (upN Ah ((ol + ct) % 14).toNat a) (upN Gh ((ol + ct) % 14).toNat G) th (remA a ap ct) asl (vp_updL of 0 (lI (a 0 + 1))) tl tc (if ct < 14 then ct + 1 else ct) (tryR a 3 (XI xs (i + 1)) (XI xs (i + 2))) fv) := hD
        refine lv_istore (lv' := [(6, vI (a 0 + 1)), (5, vI 0), (4, vI i), (3, .ref out), (2, .ref (w 0 0)), (1, .ref (u 0 0)), (0, .ref b)]) F.1 F.2.1 dL_law_1065 hl (by decide) rfl (fun ls hl => ?_)
        refine lv_aload_n F.1 F.2.1 dL_law_1067 rfl (lv_at hl 4 rfl) ?_
        refine rr_rdVp (rest := []) F hK (c_X7_thrown l D cy (w 0 0) (w 0 1) (w 0 2) (w 0 3) (w 0 4) (w 0 5) (w 0 6) 0 (if ct < 14 then ct + 1 else ct) tl) hP (pm_m0 cy u w out tl tc (if ct < 14 then ol else (ol + 1) % 14) (if ct < 14 then ct + 1 else ct) 0 fv (tryR a 3 (XI xs (i + 1)) (XI xs (i + 2))) (GTry a G 3 (XI xs (i + 1)) (XI xs (i + 2))) ak Gk As Gs (upN Ah ((ol + ct) % 14).toNat a) (upN Gh ((ol + ct) % 14).toNat G) th (remA a ap ct) asl (vp_updL of 0 (lI (a 0 + 1))) tl tc (if ct < 14 then ct + 1 else ct) (tryR a 3 (XI xs (i + 1)) (XI xs (i + 2))) fv) sf_X7_thrown tw902 7 rfl rfl ⟨Nat.le_of_ble_eq_true rfl, Nat.le_of_ble_eq_true rfl⟩ hl rfl (Nat.le_of_ble_eq_true rfl) dL_law_1068 ⟨by show cells + 1 ≤ 601024; omega, by show slots + 6 ≤ 7293033; omega⟩ ?_
        refine lv_iload F.1 F.2.1 dL_law_1071 (lv_at hl 1 rfl) ?_
        refine rr_icmp_eq F (tgt := 1078) dL_law_1073 (by decide) ⟨by omega, by omega⟩ ⟨by omega, by omega⟩ (fun _ => ?_) (fun z => absurd rfl z)
        refine lv_iload F.1 F.2.1 dL_law_1078 (lv_at hl 1 rfl) ?_
        refine rr_if_ne F (tgt := 1095) dL_law_1080 (by decide) ⟨by omega, by omega⟩ (fun z => absurd rfl z) (fun _ => ?_)
        refine lv_aload_n F.1 F.2.1 dL_law_1083 rfl (lv_at hl 3 rfl) ?_
        refine rr_iconst F dL_law_1084 ?_
        refine rr_lald0 F hK (hP.perm (pm_o cy u w out tl tc (if ct < 14 then ol else (ol + 1) % 14) (if ct < 14 then ct + 1 else ct) 0 fv (tryR a 3 (XI xs (i + 1)) (XI xs (i + 2))) (GTry a G 3 (XI xs (i + 1)) (XI xs (i + 2))) ak Gk As Gs (upN Ah ((ol + ct) % 14).toNat a) (upN Gh ((ol + ct) % 14).toNat G) th (remA a ap ct) asl (vp_updL of 0 (lI (a 0 + 1))) tl tc (if ct < 14 then ct + 1 else ct) (tryR a 3 (XI xs (i + 1)) (XI xs (i + 2))) fv)) 0 rfl dL_law_1085 ?_
        refine lv_iload F.1 F.2.1 dL_law_1086 (lv_at hl 0 rfl) ?_
        refine rr_i2l F dL_law_1088 hvr ?_
        refine rr_lcmp F (a := a 0 + 1) (b := a 0 + 1) dL_law_1089 (inL_r hvr) (inL_r hvr) ?_
        refine rr_if_eq F (tgt := 1095) dL_law_1090 (by decide) (lcm_r _ _) (fun _ => ?_) (fun z => absurd ((lcm_spec _ _).2.1.mpr rfl) z)
        refine lv_goto (tgt := 2055) F.1 F.2.1 dL_law_1095 (by decide) ?_
        exact kk _ _ _ _ _ _ _ _ _ _ _ _ _ _ _ _ _ _ H locs ls (hI.rem (by omega) (GD_try hI.2.1 (by omega) (by omega))) hP hD hS (lv_sub hl [2, 3, 4, 5, 6] rfl)
      · refine rr_twS (rest := []) F hK hX hZ1 (r_insert_58 l hnt D cy sa (u 0 0) (u 1 0) (u 3 0) (u 4 0) (u 0 1) (u 0 2) (u 2 0) (u 2 6) (a 96) (a 117) (u 2 1) (u 2 2) (a 0) (G 0) (rq a) (u 2 3) (u 2 4) (u 2 5) (a 25) (G 6) (G 7) (rbl a) (rbc a) (XI xs (i + 1)) (XI xs (i + 2)) out (SB.rg hZ) (SB.bk hZ) (XI_r _ _) (XI_r _ _) (by first | assumption | omega | exact ⟨by omega, by omega⟩) (by first | assumption | omega | exact ⟨by omega, by omega⟩) (by first | assumption | omega | exact ⟨by omega, by omega⟩)) hP hS sfw_insert tw638 ⟨Nat.le_of_ble_eq_true rfl, Nat.le_of_ble_eq_true rfl⟩ hl rfl (Nat.le_of_ble_eq_true rfl) dL_law_1044 ⟨by show cells + 1 ≤ 601024; omega, by show slots + 6 ≤ 7293033; omega⟩ (pm_cAB cy u w out tl tc ol ct tr fv a G ak Gk As Gs Ah Gh th ap asl of tl tc ct a fv) (fun H locs hP hS _ => ?_)
        refine lv_istore (lv' := [(5, vI 3), (4, vI i), (3, .ref out), (2, .ref (w 0 0)), (1, .ref (u 0 0)), (0, .ref b)]) F.1 F.2.1 dL_law_1047 hl (by decide) rfl (fun ls hl => ?_)
        refine lv_aload_n F.1 F.2.1 dL_law_1049 rfl (lv_at hl 3 rfl) ?_
        refine lv_aload_n F.1 F.2.1 dL_law_1050 rfl (lv_at hl 5 rfl) ?_
        refine lv_iload F.1 F.2.1 dL_law_1051 (lv_at hl 1 rfl) ?_
        refine rr_iconst F dL_law_1053 ?_
        refine rr_iadd F (z := i + 1) dL_law_1054 rfl ?_
        refine rr_sld F (A := fun q => s.heap.size ≤ q) hxs hb hbA hS (by omega) (by omega) hL dL_law_1055 ?_
        refine lv_aload_n F.1 F.2.1 dL_law_1056 rfl (lv_at hl 5 rfl) ?_
        refine lv_iload F.1 F.2.1 dL_law_1057 (lv_at hl 1 rfl) ?_
        refine rr_iconst F dL_law_1059 ?_
        refine rr_iadd F (z := i + 2) dL_law_1060 rfl ?_
        refine rr_sld F (A := fun q => s.heap.size ≤ q) hxs hb hbA hS (by omega) (by omega) hL dL_law_1061 ?_
        have hcode : (if 0 ≤ (XI xs (i + 1)) ∧ (XI xs (i + 1)) ≤ a 0 then (if 0 ≤ (XI xs (i + 2)) ∧ (XI xs (i + 2)) ≤ 8 then 3 else 2) else 1 : Int) = 3 := by first | rfl | ((repeat' split) <;> first | rfl | omega)
        refine rr_wrVp (rest := []) F hK (n_X7_insert l D cy (w 0 0) (w 0 1) (w 0 2) (w 0 3) (w 0 4) (w 0 5) (w 0 6) tr ct tl a ap (XI xs (i + 1)) (XI xs (i + 2)) hM hct (XI_r _ _) (XI_r _ _) (by first | assumption | omega)) hP hD hS hA sf_X7_insert tw1128 7 rfl rfl ⟨Nat.le_of_ble_eq_true rfl, Nat.le_of_ble_eq_true rfl⟩ hl rfl (Nat.le_of_ble_eq_true rfl) dL_law_1062 ⟨by show cells + 1 ≤ 601024; omega, by show slots + 6 ≤ 7293033; omega⟩ (pm_mNP cy u w out tl tc ol ct tr fv a G ak Gk As Gs Ah Gh th ap asl of tl tc ct a fv) rfl (fun H locs hP hD hS _ => ?_)
        have hP : va_P D vwCl (LW cy u w out tl tc ol ct (if 0 ≤ (XI xs (i + 1)) ∧ (XI xs (i + 1)) ≤ a 0 then (if 0 ≤ (XI xs (i + 2)) ∧ (XI xs (i + 2)) ≤ 8 then 3 else 2) else 1) fv a G ak Gk As Gs Ah Gh th ap asl of tl tc ct a fv) H := hP.perm ((pm_mNP cy u w out tl tc ol ct (if 0 ≤ (XI xs (i + 1)) ∧ (XI xs (i + 1)) ≤ a 0 then (if 0 ≤ (XI xs (i + 2)) ∧ (XI xs (i + 2)) ≤ 8 then 3 else 2) else 1) fv a G ak Gk As Gs Ah Gh th ap asl of tl tc ct a fv).symm)
        have hD : va_D (fun q => s.heap.size ≤ q) (LW cy u w out tl tc ol ct (if 0 ≤ (XI xs (i + 1)) ∧ (XI xs (i + 1)) ≤ a 0 then (if 0 ≤ (XI xs (i + 2)) ∧ (XI xs (i + 2)) ≤ 8 then 3 else 2) else 1) fv a G ak Gk As Gs Ah Gh th ap asl of tl tc ct a fv) := hD.perm ((pm_mNP cy u w out tl tc ol ct (if 0 ≤ (XI xs (i + 1)) ∧ (XI xs (i + 1)) ≤ a 0 then (if 0 ≤ (XI xs (i + 2)) ∧ (XI xs (i + 2)) ≤ 8 then 3 else 2) else 1) fv a G ak Gk As Gs Ah Gh th ap asl of tl tc ct a fv).symm)
        rw [hcode] at hP hD
        refine lv_istore (lv' := [(6, vI 0), (5, vI 3), (4, vI i), (3, .ref out), (2, .ref (w 0 0)), (1, .ref (u 0 0)), (0, .ref b)]) F.1 F.2.1 dL_law_1065 hl (by decide) rfl (fun ls hl => ?_)
        refine lv_aload_n F.1 F.2.1 dL_law_1067 rfl (lv_at hl 4 rfl) ?_
        refine rr_rdVp (rest := []) F hK (c_X7_thrown l D cy (w 0 0) (w 0 1) (w 0 2) (w 0 3) (w 0 4) (w 0 5) (w 0 6) 3 ct tl) hP (pm_m0 cy u w out tl tc ol ct 3 fv a G ak Gk As Gs Ah Gh th ap asl of tl tc ct a fv) sf_X7_thrown tw902 7 rfl rfl ⟨Nat.le_of_ble_eq_true rfl, Nat.le_of_ble_eq_true rfl⟩ hl rfl (Nat.le_of_ble_eq_true rfl) dL_law_1068 ⟨by show cells + 1 ≤ 601024; omega, by show slots + 6 ≤ 7293033; omega⟩ ?_
        refine lv_iload F.1 F.2.1 dL_law_1071 (lv_at hl 1 rfl) ?_
        refine rr_icmp_eq F (tgt := 1078) dL_law_1073 (by decide) ⟨by omega, by omega⟩ ⟨by omega, by omega⟩ (fun _ => ?_) (fun z => absurd rfl z)
        refine lv_iload F.1 F.2.1 dL_law_1078 (lv_at hl 1 rfl) ?_
        refine rr_if_ne F (tgt := 1095) dL_law_1080 (by decide) ⟨by omega, by omega⟩ (fun _ => ?_) (fun z => by omega)
        refine lv_goto (tgt := 2055) F.1 F.2.1 dL_law_1095 (by decide) ?_
        exact kk _ _ _ _ _ _ _ _ _ _ _ _ _ _ _ _ _ _ H locs ls (hI.mono (by omega)) hP hD hS (lv_sub hl [2, 3, 4, 5, 6] rfl)
    · refine rr_twS (rest := []) F hK hX hZ1 (r_insert_35 l hnt D cy sa (u 0 0) (u 1 0) (u 3 0) (u 4 0) (u 0 1) (u 0 2) (u 2 0) (u 2 6) (a 96) (a 117) (u 2 1) (u 2 2) (a 0) (G 0) (rq a) (u 2 3) (u 2 4) (u 2 5) (a 25) (G 6) (G 7) (rbl a) (rbc a) (XI xs (i + 1)) (XI xs (i + 2)) out (SB.rg hZ) (SB.bk hZ) (XI_r _ _) (XI_r _ _) (by first | assumption | omega | exact ⟨by omega, by omega⟩) (by first | assumption | omega | exact ⟨by omega, by omega⟩)) hP hS sfw_insert tw638 ⟨Nat.le_of_ble_eq_true rfl, Nat.le_of_ble_eq_true rfl⟩ hl rfl (Nat.le_of_ble_eq_true rfl) dL_law_1044 ⟨by show cells + 1 ≤ 601024; omega, by show slots + 6 ≤ 7293033; omega⟩ (pm_cAB cy u w out tl tc ol ct tr fv a G ak Gk As Gs Ah Gh th ap asl of tl tc ct a fv) (fun H locs hP hS _ => ?_)
      refine lv_istore (lv' := [(5, vI 2), (4, vI i), (3, .ref out), (2, .ref (w 0 0)), (1, .ref (u 0 0)), (0, .ref b)]) F.1 F.2.1 dL_law_1047 hl (by decide) rfl (fun ls hl => ?_)
      refine lv_aload_n F.1 F.2.1 dL_law_1049 rfl (lv_at hl 3 rfl) ?_
      refine lv_aload_n F.1 F.2.1 dL_law_1050 rfl (lv_at hl 5 rfl) ?_
      refine lv_iload F.1 F.2.1 dL_law_1051 (lv_at hl 1 rfl) ?_
      refine rr_iconst F dL_law_1053 ?_
      refine rr_iadd F (z := i + 1) dL_law_1054 rfl ?_
      refine rr_sld F (A := fun q => s.heap.size ≤ q) hxs hb hbA hS (by omega) (by omega) hL dL_law_1055 ?_
      refine lv_aload_n F.1 F.2.1 dL_law_1056 rfl (lv_at hl 5 rfl) ?_
      refine lv_iload F.1 F.2.1 dL_law_1057 (lv_at hl 1 rfl) ?_
      refine rr_iconst F dL_law_1059 ?_
      refine rr_iadd F (z := i + 2) dL_law_1060 rfl ?_
      refine rr_sld F (A := fun q => s.heap.size ≤ q) hxs hb hbA hS (by omega) (by omega) hL dL_law_1061 ?_
      have hcode : (if 0 ≤ (XI xs (i + 1)) ∧ (XI xs (i + 1)) ≤ a 0 then (if 0 ≤ (XI xs (i + 2)) ∧ (XI xs (i + 2)) ≤ 8 then 3 else 2) else 1 : Int) = 2 := by first | rfl | ((repeat' split) <;> first | rfl | omega)
      refine rr_wrVp (rest := []) F hK (n_X7_insert l D cy (w 0 0) (w 0 1) (w 0 2) (w 0 3) (w 0 4) (w 0 5) (w 0 6) tr ct tl a ap (XI xs (i + 1)) (XI xs (i + 2)) hM hct (XI_r _ _) (XI_r _ _) (by first | assumption | omega)) hP hD hS hA sf_X7_insert tw1128 7 rfl rfl ⟨Nat.le_of_ble_eq_true rfl, Nat.le_of_ble_eq_true rfl⟩ hl rfl (Nat.le_of_ble_eq_true rfl) dL_law_1062 ⟨by show cells + 1 ≤ 601024; omega, by show slots + 6 ≤ 7293033; omega⟩ (pm_mNP cy u w out tl tc ol ct tr fv a G ak Gk As Gs Ah Gh th ap asl of tl tc ct a fv) rfl (fun H locs hP hD hS _ => ?_)
      have hP : va_P D vwCl (LW cy u w out tl tc ol ct (if 0 ≤ (XI xs (i + 1)) ∧ (XI xs (i + 1)) ≤ a 0 then (if 0 ≤ (XI xs (i + 2)) ∧ (XI xs (i + 2)) ≤ 8 then 3 else 2) else 1) fv a G ak Gk As Gs Ah Gh th ap asl of tl tc ct a fv) H := hP.perm ((pm_mNP cy u w out tl tc ol ct (if 0 ≤ (XI xs (i + 1)) ∧ (XI xs (i + 1)) ≤ a 0 then (if 0 ≤ (XI xs (i + 2)) ∧ (XI xs (i + 2)) ≤ 8 then 3 else 2) else 1) fv a G ak Gk As Gs Ah Gh th ap asl of tl tc ct a fv).symm)
      have hD : va_D (fun q => s.heap.size ≤ q) (LW cy u w out tl tc ol ct (if 0 ≤ (XI xs (i + 1)) ∧ (XI xs (i + 1)) ≤ a 0 then (if 0 ≤ (XI xs (i + 2)) ∧ (XI xs (i + 2)) ≤ 8 then 3 else 2) else 1) fv a G ak Gk As Gs Ah Gh th ap asl of tl tc ct a fv) := hD.perm ((pm_mNP cy u w out tl tc ol ct (if 0 ≤ (XI xs (i + 1)) ∧ (XI xs (i + 1)) ≤ a 0 then (if 0 ≤ (XI xs (i + 2)) ∧ (XI xs (i + 2)) ≤ 8 then 3 else 2) else 1) fv a G ak Gk As Gs Ah Gh th ap asl of tl tc ct a fv).symm)
      rw [hcode] at hP hD
      refine lv_istore (lv' := [(6, vI 0), (5, vI 2), (4, vI i), (3, .ref out), (2, .ref (w 0 0)), (1, .ref (u 0 0)), (0, .ref b)]) F.1 F.2.1 dL_law_1065 hl (by decide) rfl (fun ls hl => ?_)
      refine lv_aload_n F.1 F.2.1 dL_law_1067 rfl (lv_at hl 4 rfl) ?_
      refine rr_rdVp (rest := []) F hK (c_X7_thrown l D cy (w 0 0) (w 0 1) (w 0 2) (w 0 3) (w 0 4) (w 0 5) (w 0 6) 2 ct tl) hP (pm_m0 cy u w out tl tc ol ct 2 fv a G ak Gk As Gs Ah Gh th ap asl of tl tc ct a fv) sf_X7_thrown tw902 7 rfl rfl ⟨Nat.le_of_ble_eq_true rfl, Nat.le_of_ble_eq_true rfl⟩ hl rfl (Nat.le_of_ble_eq_true rfl) dL_law_1068 ⟨by show cells + 1 ≤ 601024; omega, by show slots + 6 ≤ 7293033; omega⟩ ?_
      refine lv_iload F.1 F.2.1 dL_law_1071 (lv_at hl 1 rfl) ?_
      refine rr_icmp_eq F (tgt := 1078) dL_law_1073 (by decide) ⟨by omega, by omega⟩ ⟨by omega, by omega⟩ (fun _ => ?_) (fun z => absurd rfl z)
      refine lv_iload F.1 F.2.1 dL_law_1078 (lv_at hl 1 rfl) ?_
      refine rr_if_ne F (tgt := 1095) dL_law_1080 (by decide) ⟨by omega, by omega⟩ (fun _ => ?_) (fun z => by omega)
      refine lv_goto (tgt := 2055) F.1 F.2.1 dL_law_1095 (by decide) ?_
      exact kk _ _ _ _ _ _ _ _ _ _ _ _ _ _ _ _ _ _ H locs ls (hI.mono (by omega)) hP hD hS (lv_sub hl [2, 3, 4, 5, 6] rfl)
  · refine rr_twS (rest := []) F hK hX hZ1 (r_insert_18 l hnt D cy sa (u 0 0) (u 1 0) (u 3 0) (u 4 0) (u 0 1) (u 0 2) (u 2 0) (u 2 6) (a 96) (a 117) (u 2 1) (u 2 2) (a 0) (G 0) (rq a) (u 2 3) (u 2 4) (u 2 5) (a 25) (G 6) (G 7) (rbl a) (rbc a) (XI xs (i + 1)) (XI xs (i + 2)) out (SB.rg hZ) (SB.bk hZ) (XI_r _ _) (XI_r _ _) (by first | assumption | omega | exact ⟨by omega, by omega⟩)) hP hS sfw_insert tw638 ⟨Nat.le_of_ble_eq_true rfl, Nat.le_of_ble_eq_true rfl⟩ hl rfl (Nat.le_of_ble_eq_true rfl) dL_law_1044 ⟨by show cells + 1 ≤ 601024; omega, by show slots + 6 ≤ 7293033; omega⟩ (pm_cAB cy u w out tl tc ol ct tr fv a G ak Gk As Gs Ah Gh th ap asl of tl tc ct a fv) (fun H locs hP hS _ => ?_)
    refine lv_istore (lv' := [(5, vI 1), (4, vI i), (3, .ref out), (2, .ref (w 0 0)), (1, .ref (u 0 0)), (0, .ref b)]) F.1 F.2.1 dL_law_1047 hl (by decide) rfl (fun ls hl => ?_)
    refine lv_aload_n F.1 F.2.1 dL_law_1049 rfl (lv_at hl 3 rfl) ?_
    refine lv_aload_n F.1 F.2.1 dL_law_1050 rfl (lv_at hl 5 rfl) ?_
    refine lv_iload F.1 F.2.1 dL_law_1051 (lv_at hl 1 rfl) ?_
    refine rr_iconst F dL_law_1053 ?_
    refine rr_iadd F (z := i + 1) dL_law_1054 rfl ?_
    refine rr_sld F (A := fun q => s.heap.size ≤ q) hxs hb hbA hS (by omega) (by omega) hL dL_law_1055 ?_
    refine lv_aload_n F.1 F.2.1 dL_law_1056 rfl (lv_at hl 5 rfl) ?_
    refine lv_iload F.1 F.2.1 dL_law_1057 (lv_at hl 1 rfl) ?_
    refine rr_iconst F dL_law_1059 ?_
    refine rr_iadd F (z := i + 2) dL_law_1060 rfl ?_
    refine rr_sld F (A := fun q => s.heap.size ≤ q) hxs hb hbA hS (by omega) (by omega) hL dL_law_1061 ?_
    have hcode : (if 0 ≤ (XI xs (i + 1)) ∧ (XI xs (i + 1)) ≤ a 0 then (if 0 ≤ (XI xs (i + 2)) ∧ (XI xs (i + 2)) ≤ 8 then 3 else 2) else 1 : Int) = 1 := by first | rfl | ((repeat' split) <;> first | rfl | omega)
    refine rr_wrVp (rest := []) F hK (n_X7_insert l D cy (w 0 0) (w 0 1) (w 0 2) (w 0 3) (w 0 4) (w 0 5) (w 0 6) tr ct tl a ap (XI xs (i + 1)) (XI xs (i + 2)) hM hct (XI_r _ _) (XI_r _ _) (by first | assumption | omega)) hP hD hS hA sf_X7_insert tw1128 7 rfl rfl ⟨Nat.le_of_ble_eq_true rfl, Nat.le_of_ble_eq_true rfl⟩ hl rfl (Nat.le_of_ble_eq_true rfl) dL_law_1062 ⟨by show cells + 1 ≤ 601024; omega, by show slots + 6 ≤ 7293033; omega⟩ (pm_mNP cy u w out tl tc ol ct tr fv a G ak Gk As Gs Ah Gh th ap asl of tl tc ct a fv) rfl (fun H locs hP hD hS _ => ?_)
    have hP : va_P D vwCl (LW cy u w out tl tc ol ct (if 0 ≤ (XI xs (i + 1)) ∧ (XI xs (i + 1)) ≤ a 0 then (if 0 ≤ (XI xs (i + 2)) ∧ (XI xs (i + 2)) ≤ 8 then 3 else 2) else 1) fv a G ak Gk As Gs Ah Gh th ap asl of tl tc ct a fv) H := hP.perm ((pm_mNP cy u w out tl tc ol ct (if 0 ≤ (XI xs (i + 1)) ∧ (XI xs (i + 1)) ≤ a 0 then (if 0 ≤ (XI xs (i + 2)) ∧ (XI xs (i + 2)) ≤ 8 then 3 else 2) else 1) fv a G ak Gk As Gs Ah Gh th ap asl of tl tc ct a fv).symm)
    have hD : va_D (fun q => s.heap.size ≤ q) (LW cy u w out tl tc ol ct (if 0 ≤ (XI xs (i + 1)) ∧ (XI xs (i + 1)) ≤ a 0 then (if 0 ≤ (XI xs (i + 2)) ∧ (XI xs (i + 2)) ≤ 8 then 3 else 2) else 1) fv a G ak Gk As Gs Ah Gh th ap asl of tl tc ct a fv) := hD.perm ((pm_mNP cy u w out tl tc ol ct (if 0 ≤ (XI xs (i + 1)) ∧ (XI xs (i + 1)) ≤ a 0 then (if 0 ≤ (XI xs (i + 2)) ∧ (XI xs (i + 2)) ≤ 8 then 3 else 2) else 1) fv a G ak Gk As Gs Ah Gh th ap asl of tl tc ct a fv).symm)
    rw [hcode] at hP hD
    refine lv_istore (lv' := [(6, vI 0), (5, vI 1), (4, vI i), (3, .ref out), (2, .ref (w 0 0)), (1, .ref (u 0 0)), (0, .ref b)]) F.1 F.2.1 dL_law_1065 hl (by decide) rfl (fun ls hl => ?_)
    refine lv_aload_n F.1 F.2.1 dL_law_1067 rfl (lv_at hl 4 rfl) ?_
    refine rr_rdVp (rest := []) F hK (c_X7_thrown l D cy (w 0 0) (w 0 1) (w 0 2) (w 0 3) (w 0 4) (w 0 5) (w 0 6) 1 ct tl) hP (pm_m0 cy u w out tl tc ol ct 1 fv a G ak Gk As Gs Ah Gh th ap asl of tl tc ct a fv) sf_X7_thrown tw902 7 rfl rfl ⟨Nat.le_of_ble_eq_true rfl, Nat.le_of_ble_eq_true rfl⟩ hl rfl (Nat.le_of_ble_eq_true rfl) dL_law_1068 ⟨by show cells + 1 ≤ 601024; omega, by show slots + 6 ≤ 7293033; omega⟩ ?_
    refine lv_iload F.1 F.2.1 dL_law_1071 (lv_at hl 1 rfl) ?_
    refine rr_icmp_eq F (tgt := 1078) dL_law_1073 (by decide) ⟨by omega, by omega⟩ ⟨by omega, by omega⟩ (fun _ => ?_) (fun z => absurd rfl z)
    refine lv_iload F.1 F.2.1 dL_law_1078 (lv_at hl 1 rfl) ?_
    refine rr_if_ne F (tgt := 1095) dL_law_1080 (by decide) ⟨by omega, by omega⟩ (fun _ => ?_) (fun z => by omega)
    refine lv_goto (tgt := 2055) F.1 F.2.1 dL_law_1095 (by decide) ?_
    exact kk _ _ _ _ _ _ _ _ _ _ _ _ _ _ _ _ _ _ H locs ls (hI.mono (by omega)) hP hD hS (lv_sub hl [2, 3, 4, 5, 6] rfl)
set_option maxRecDepth 100000 in
set_option maxHeartbeats 8000000 in
theorem lc_erase {p : Program} {l : Launch} {e : Env} {s : State} {m : MethodId} {args : Array Value} {below : List Frame} {meth : Method} {c : Code} {Q : State → Prop} {b L : Nat} {xs : Nat → Int32} {D : va_G} {cy : Nat → ClassId} {sa : Nat → Nat} {u w : NU} {out : Nat} (hnt : l.stackTraces = false) (F : FX p m c cL_law 7 s args RL) (hK : KK D cy s) (hX : XK sa s) (hZ0 : ZK (fun q => s.heap.size ≤ q) s s.heap) (hxs : va_X b L xs s s.heap) (hb : b < s.heap.size) (hL : L ≤ 2560) {N : Int} {tl : Int} {tc : Int → Int} {ol : Int} {ct : Int} {tr : Int} {fv : Int → Int} {a : Int → Int} {G : Int → Int → Int} {ak : Int → Int} {Gk : Int → Int → Int} {As : Nat → Int → Int} {Gs : Nat → Int → Int → Int} {Ah : Nat → Int → Int} {Gh : Nat → Int → Int → Int} {th : Int → Int} {ap : Int → Int} {asl : Int → Int} {of : Nat → Int64} (hI : INV N tl tc ol ct fv a G As Gs Ah Gh ap asl) (hN : 0 ≤ N ∧ N ≤ 80000000) {i : Int} (hi : 0 ≤ i ∧ i + 5 ≤ L) {H : Heap} {locs : List Loc} {cells slots : Nat} {ls : Array Slot} (hP : va_P D vwCl (LW cy u w out tl tc ol ct tr fv a G ak Gk As Gs Ah Gh th ap asl of tl tc ct a fv) H) (hD : va_D (fun q => s.heap.size ≤ q) (LW cy u w out tl tc ol ct tr fv a G ak Gk As Gs Ah Gh th ap asl of tl tc ct a fv)) (hS : va_S (fun q => s.heap.size ≤ q) s.heap H locs) (hl : lv_has ls 7 [(4, vI i), (3, .ref out), (2, .ref (w 0 0)), (1, .ref (u 0 0)), (0, .ref b)]) (hc : cells + 1 ≤ 601024 ∧ slots + 6 ≤ 7293033) (kk : LK p l e s m args below meth c D cy u w out b (N + 50) i (cells + 1) (slots + 6) Q) : W p l e room_1 s m args below meth c H locs cells slots Q (F0 m 1098 ls []) := by
  have hT := hI.1
  obtain ⟨hZ, hSV, hsp0, hsp1⟩ := hI.2.1
  have hM := SB.mr hZ
  have hn0 := hM.n
  have hw0 := hM.nw
  have hc0 := hM.wc
  have hol := hI.2.2.1
  have hct := hI.2.2.2.1
  have hbA : ¬ (fun q => s.heap.size ≤ q) b := Nat.not_le.mpr hb
  have hA : ∀ q, s.heap.size ≤ q → (fun q => s.heap.size ≤ q) q := fun q h => h
  have hZ1 : ZK nA s H := (hZ0.kept (fun a h1 h2 => hS.2.1 a h1 h2)).narrow (fun _ h => h.elim)
  refine lv_aload_n F.1 F.2.1 dL_law_1098 rfl (lv_at hl 3 rfl) ?_
  refine lv_aload_n F.1 F.2.1 dL_law_1099 rfl (lv_at hl 4 rfl) ?_
  refine lv_iload F.1 F.2.1 dL_law_1100 (lv_at hl 0 rfl) ?_
  refine rr_iconst F dL_law_1102 ?_
  refine rr_iadd F (z := i + 1) dL_law_1103 rfl ?_
  refine rr_sld F (A := fun q => s.heap.size ≤ q) hxs hb hbA hS (by omega) (by omega) hL dL_law_1104 ?_
  refine lv_aload_n F.1 F.2.1 dL_law_1105 rfl (lv_at hl 1 rfl) ?_
  have hb_1 := XI_b xs (i + 1)
  by_cases hx0 : 0 ≤ (XI xs (i + 1)) ∧ (XI xs (i + 1)) < a 0
  · refine W.widen (k := cells + 1) (n := slots + 6) (by omega) (by omega) ?_
    have hvr : inR (a 0 - 1) := ⟨by omega, by omega⟩
    have hrr : ((ol + ct) % 14).toNat < 14 := by omega
    refine rr_wwS (rest := []) F hK (w_erase l D cy (u 0 0) (u 1 0) (u 3 0) (u 0 1) (u 0 2) (u 4 0) (u 4 1) (fun i => u (Int.toNat i + 7) 0) ol ct (u 2 0) (u 2 1) (u 2 2) (u 2 3) (u 2 4) (u 2 5) (u 2 6) (fun i => u 2 (7 + Int.toNat i)) (u (((ol + ct) % 14).toNat + 7) 0) (u (((ol + ct) % 14).toNat + 7) 1) (u (((ol + ct) % 14).toNat + 7) 2) (u (((ol + ct) % 14).toNat + 7) 3) (u (((ol + ct) % 14).toNat + 7) 4) (u (((ol + ct) % 14).toNat + 7) 5) (u (((ol + ct) % 14).toNat + 7) 6) (fun i => u (((ol + ct) % 14).toNat + 7) (7 + Int.toNat i)) a (Ah ((ol + ct) % 14).toNat) G (Gh ((ol + ct) % 14).toNat) (XI xs (i + 1)) out of hol hct rfl hZ (by first | assumption | omega | exact ⟨by omega, by omega⟩) hvr) hP hD hS hA sfw_erase tw660 ⟨Nat.le_of_ble_eq_true rfl, Nat.le_of_ble_eq_true rfl⟩ hl rfl (Nat.le_of_ble_eq_true rfl) dL_law_1106 ⟨by show cells + 1 ≤ 601024; omega, by show slots + 6 ≤ 7293033; omega⟩ (pm_h cy u w out tl tc ol ct tr fv a G ak Gk As Gs Ah Gh th ap asl of tl tc ct a fv ((ol + ct) % 14).toNat hrr) rfl (fun H locs hP hD hS _ => ?_)
    have hP : va_P D vwCl (LW cy u w out tl tc (if ct < 14 then ol else (ol + 1) % 14) (if ct < 14 then ct + 1 else ct) tr fv (tryR a 4 (XI xs (i + 1)) 0) (GTry a G 4 (XI xs (i + 1)) 0) ak Gk As Gs (upN Ah ((ol + ct) % 14).toNat a) (upN Gh ((ol + ct) % 14).toNat G) th ap asl (vp_updL of 0 (lI (a 0 - 1))) tl tc ct a fv) H := hP.perm ((po_h cy u w out tl tc (if ct < 14 then ol else (ol + 1) % 14) (if ct < 14 then ct + 1 else ct) tr fv (tryR a 4 (XI xs (i + 1)) 0) (GTry a G 4 (XI xs (i + 1)) 0) ak Gk As Gs (upN Ah ((ol + ct) % 14).toNat a) (upN Gh ((ol + ct) % 14).toNat G) th ap asl (vp_updL of 0 (lI (a 0 - 1))) tl tc ct a fv Ah Gh ((ol + ct) % 14).toNat hrr upN_s upN_s (fun j z => ⟨upN_n z, upN_n z⟩)))
    have hD : va_D (fun q => s.heap.size ≤ q) (LW cy u w out tl tc (if ct < 14 then ol else (ol + 1) % 14) (if ct < 14 then ct + 1 else ct) tr fv (tryR a 4 (XI xs (i + 1)) 0) (GTry a G 4 (XI xs (i + 1)) 0) ak Gk As Gs (upN Ah ((ol + ct) % 14).toNat a) (upN Gh ((ol + ct) % 14).toNat G) th ap asl (vp_updL of 0 (lI (a 0 - 1))) tl tc ct a fv) := hD.perm ((po_h cy u w out tl tc (if ct < 14 then ol else (ol + 1) % 14) (if ct < 14 then ct + 1 else ct) tr fv (tryR a 4 (XI xs (i + 1)) 0) (GTry a G 4 (XI xs (i + 1)) 0) ak Gk As Gs (upN Ah ((ol + ct) % 14).toNat a) (upN Gh ((ol + ct) % 14).toNat G) th ap asl (vp_updL of 0 (lI (a 0 - 1))) tl tc ct a fv Ah Gh ((ol + ct) % 14).toNat hrr upN_s upN_s (fun j z => ⟨upN_n z, upN_n z⟩)))
    refine lv_istore (lv' := [(5, vI 0), (4, vI i), (3, .ref out), (2, .ref (w 0 0)), (1, .ref (u 0 0)), (0, .ref b)]) F.1 F.2.1 dL_law_1109 hl (by decide) rfl (fun ls hl => ?_)
    refine lv_aload_n F.1 F.2.1 dL_law_1111 rfl (lv_at hl 3 rfl) ?_
    refine lv_aload_n F.1 F.2.1 dL_law_1112 rfl (lv_at hl 5 rfl) ?_
    refine lv_iload F.1 F.2.1 dL_law_1113 (lv_at hl 1 rfl) ?_
    refine rr_iconst F dL_law_1115 ?_
    refine rr_iadd F (z := i + 1) dL_law_1116 rfl ?_
    refine rr_sld F (A := fun q => s.heap.size ≤ q) hxs hb hbA hS (by omega) (by omega) hL dL_law_1117 ?_
    refine rr_wrVp (rest := []) F hK (c_X7_erase l D cy (w 0 0) (w 0 1) (w 0 2) (w 0 3) (w 0 4) (w 0 5) (w 0 6) tr ct tl a ap (XI xs (i + 1)) hM hct (XI_r _ _) (by first | assumption | omega | exact ⟨by omega, by omega⟩)) hP hD hS hA sf_X7_erase tw1135 7 rfl rfl ⟨Nat.le_of_ble_eq_true rfl, Nat.le_of_ble_eq_true rfl⟩ hl rfl (Nat.le_of_ble_eq_true rfl) dL_law_1118 ⟨by show cells + 1 ≤ 601024; omega, by show slots + 6 ≤ 7293033; omega⟩ (pm_mNP cy u w out tl tc (if ct < 14 then ol else (ol + 1) % 14) (if ct < 14 then ct + 1 else ct) tr fv (tryR a 4 (XI xs (i + 1)) 0) (GTry a G 4 (XI xs (i + 1)) 0) ak Gk As Gs (upN Ah ((ol + ct) % 14).toNat a) (upN Gh ((ol + ct) % 14).toNat G) th ap asl (vp_updL of 0 (lI (a 0 - 1))) tl tc ct a fv) rfl (fun H locs hP hD hS _ => ?_)
    have hP : va_P D vwCl (LW cy u w out tl tc (if ct < 14 then ol else (ol + 1) % 14) (if ct < 14 then ct + 1 else ct) 0 fv (tryR a 4 (XI xs (i + 1)) 0) (GTry a G 4 (XI xs (i + 1)) 0) ak Gk As Gs (upN Ah ((ol + ct) % 14).toNat a) (upN Gh ((ol + ct) % 14).toNat G) th (remA a ap ct) asl (vp_updL of 0 (lI (a 0 - 1))) tl tc (remN ct) (zrZ (updZ (delZ (updZ a 0 (a 0 - 1)) (1 + (XI xs (i + 1))) (1 + (a 0 - 1))) (1 + (a 0 - 1)) 0) 96 117) fv) H := hP.perm ((pm_mNP cy u w out tl tc (if ct < 14 then ol else (ol + 1) % 14) (if ct < 14 then ct + 1 else ct) 0 fv (tryR a 4 (XI xs (i + 1)) 0) (GTry a G 4 (XI xs (i + 1)) 0) ak Gk As Gs (upN Ah ((ol + ct) % 14).toNat a) (upN Gh ((ol + ct) % 14).toNat G) th (remA a ap ct) asl (vp_updL of 0 (lI (a 0 - 1))) tl tc (remN ct) (zrZ (updZ (delZ (updZ a 0 (a 0 - 1)) (1 + (XI xs (i + 1))) (1 + (a 0 - 1))) (1 + (a 0 - 1)) 0) 96 117) fv).symm)
    have hD : va_D (fun q => s.heap.size ≤ q) (LW cy u w out tl tc (if ct < 14 then ol else (ol + 1) % 14) (if ct < 14 then ct + 1 else ct) 0 fv (tryR a 4 (XI xs (i + 1)) 0) (GTry a G 4 (XI xs (i + 1)) 0) ak Gk As Gs (upN Ah ((ol + ct) % 14).toNat a) (upN Gh ((ol + ct) % 14).toNat G) th (remA a ap ct) asl (vp_updL of 0 (lI (a 0 - 1))) tl tc (remN ct) (zrZ (updZ (delZ (updZ a 0 (a 0 - 1)) (1 + (XI xs (i + 1))) (1 + (a 0 - 1))) (1 + (a 0 - 1)) 0) 96 117) fv) := hD.perm ((pm_mNP cy u w out tl tc (if ct < 14 then ol else (ol + 1) % 14) (if ct < 14 then ct + 1 else ct) 0 fv (tryR a 4 (XI xs (i + 1)) 0) (GTry a G 4 (XI xs (i + 1)) 0) ak Gk As Gs (upN Ah ((ol + ct) % 14).toNat a) (upN Gh ((ol + ct) % 14).toNat G) th (remA a ap ct) asl (vp_updL of 0 (lI (a 0 - 1))) tl tc (remN ct) (zrZ (updZ (delZ (updZ a 0 (a 0 - 1)) (1 + (XI xs (i + 1))) (1 + (a 0 - 1))) (1 + (a 0 - 1)) 0) 96 117) fv).symm)
    rw [remN_ct hct] at hP hD
    rw [show zrZ (updZ (delZ (updZ a 0 (a 0 - 1)) (1 + (XI xs (i + 1))) (1 + (a 0 - 1))) (1 + (a 0 - 1)) 0) 96 117 = tryR a 4 (XI xs (i + 1)) 0 from (rw_erase (by unfold okA; omega)).symm] at hP hD
    have hP : va_P D vwCl (LW cy u w out tl tc (if ct < 14 then ol else (ol + 1) % 14) (if ct < 14 then ct + 1 else ct) 0 fv (tryR a 4 (XI xs (i + 1)) 0) (GTry a G 4 (XI xs (i + 1)) 0) ak Gk As Gs (upN Ah ((ol + ct) % 14).toNat a) (upN Gh ((ol + ct) % 14).toNat G) th (remA a ap ct) asl (vp_updL of 0 (lI (a 0 - 1))) tl tc (if ct < 14 then ct + 1 else ct) (tryR a 4 (XI xs (i + 1)) 0) fv) H := hP
    have hD : va_D (fun q => s.heap.size ≤ q) (LW cy u w out tl tc (if ct < 14 then ol else (ol + 1) % 14) (if ct < 14 then ct + 1 else ct) 0 fv (tryR a 4 (XI xs (i + 1)) 0) (GTry a G 4 (XI xs (i + 1)) 0) ak Gk As Gs (upN Ah ((ol + ct) % 14).toNat a) (upN Gh ((ol + ct) % 14).toNat G) th (remA a ap ct) asl (vp_updL of 0 (lI (a 0 - 1))) tl tc (if ct < 14 then ct + 1 else ct) (tryR a 4 (XI xs (i + 1)) 0) fv) := hD
    refine lv_istore (lv' := [(6, vI (a 0 - 1)), (5, vI 0), (4, vI i), (3, .ref out), (2, .ref (w 0 0)), (1, .ref (u 0 0)), (0, .ref b)]) F.1 F.2.1 dL_law_1121 hl (by decide) rfl (fun ls hl => ?_)
    refine lv_aload_n F.1 F.2.1 dL_law_1123 rfl (lv_at hl 4 rfl) ?_
    refine rr_rdVp (rest := []) F hK (c_X7_thrown l D cy (w 0 0) (w 0 1) (w 0 2) (w 0 3) (w 0 4) (w 0 5) (w 0 6) 0 (if ct < 14 then ct + 1 else ct) tl) hP (pm_m0 cy u w out tl tc (if ct < 14 then ol else (ol + 1) % 14) (if ct < 14 then ct + 1 else ct) 0 fv (tryR a 4 (XI xs (i + 1)) 0) (GTry a G 4 (XI xs (i + 1)) 0) ak Gk As Gs (upN Ah ((ol + ct) % 14).toNat a) (upN Gh ((ol + ct) % 14).toNat G) th (remA a ap ct) asl (vp_updL of 0 (lI (a 0 - 1))) tl tc (if ct < 14 then ct + 1 else ct) (tryR a 4 (XI xs (i + 1)) 0) fv) sf_X7_thrown tw902 7 rfl rfl ⟨Nat.le_of_ble_eq_true rfl, Nat.le_of_ble_eq_true rfl⟩ hl rfl (Nat.le_of_ble_eq_true rfl) dL_law_1124 ⟨by show cells + 1 ≤ 601024; omega, by show slots + 6 ≤ 7293033; omega⟩ ?_
    refine lv_iload F.1 F.2.1 dL_law_1127 (lv_at hl 1 rfl) ?_
    refine rr_icmp_eq F (tgt := 1134) dL_law_1129 (by decide) ⟨by omega, by omega⟩ ⟨by omega, by omega⟩ (fun _ => ?_) (fun z => absurd rfl z)
    refine lv_iload F.1 F.2.1 dL_law_1134 (lv_at hl 1 rfl) ?_
    refine rr_if_ne F (tgt := 1151) dL_law_1136 (by decide) ⟨by omega, by omega⟩ (fun z => absurd rfl z) (fun _ => ?_)
    refine lv_aload_n F.1 F.2.1 dL_law_1139 rfl (lv_at hl 3 rfl) ?_
    refine rr_iconst F dL_law_1140 ?_
    refine rr_lald0 F hK (hP.perm (pm_o cy u w out tl tc (if ct < 14 then ol else (ol + 1) % 14) (if ct < 14 then ct + 1 else ct) 0 fv (tryR a 4 (XI xs (i + 1)) 0) (GTry a G 4 (XI xs (i + 1)) 0) ak Gk As Gs (upN Ah ((ol + ct) % 14).toNat a) (upN Gh ((ol + ct) % 14).toNat G) th (remA a ap ct) asl (vp_updL of 0 (lI (a 0 - 1))) tl tc (if ct < 14 then ct + 1 else ct) (tryR a 4 (XI xs (i + 1)) 0) fv)) 0 rfl dL_law_1141 ?_
    refine lv_iload F.1 F.2.1 dL_law_1142 (lv_at hl 0 rfl) ?_
    refine rr_i2l F dL_law_1144 hvr ?_
    refine rr_lcmp F (a := a 0 - 1) (b := a 0 - 1) dL_law_1145 (inL_r hvr) (inL_r hvr) ?_
    refine rr_if_eq F (tgt := 1151) dL_law_1146 (by decide) (lcm_r _ _) (fun _ => ?_) (fun z => absurd ((lcm_spec _ _).2.1.mpr rfl) z)
    refine lv_goto (tgt := 2055) F.1 F.2.1 dL_law_1151 (by decide) ?_
    exact kk _ _ _ _ _ _ _ _ _ _ _ _ _ _ _ _ _ _ H locs ls (hI.rem (by omega) (GD_try hI.2.1 (by omega) (by omega))) hP hD hS (lv_sub hl [2, 3, 4, 5, 6] rfl)
  · refine rr_twS (rest := []) F hK hX hZ1 (r_erase_14 l hnt D cy sa (u 0 0) (u 1 0) (u 3 0) (u 4 0) (u 0 1) (u 0 2) (u 2 0) (u 2 6) (a 96) (a 117) (u 2 1) (u 2 2) (a 0) (G 0) (rq a) (u 2 3) (u 2 4) (u 2 5) (a 25) (G 6) (G 7) (rbl a) (rbc a) (XI xs (i + 1)) out (SB.rg hZ) (SB.bk hZ) (XI_r _ _) (by first | assumption | omega | exact ⟨by omega, by omega⟩)) hP hS sfw_erase tw660 ⟨Nat.le_of_ble_eq_true rfl, Nat.le_of_ble_eq_true rfl⟩ hl rfl (Nat.le_of_ble_eq_true rfl) dL_law_1106 ⟨by show cells + 1 ≤ 601024; omega, by show slots + 6 ≤ 7293033; omega⟩ (pm_cAB cy u w out tl tc ol ct tr fv a G ak Gk As Gs Ah Gh th ap asl of tl tc ct a fv) (fun H locs hP hS _ => ?_)
    refine lv_istore (lv' := [(5, vI 1), (4, vI i), (3, .ref out), (2, .ref (w 0 0)), (1, .ref (u 0 0)), (0, .ref b)]) F.1 F.2.1 dL_law_1109 hl (by decide) rfl (fun ls hl => ?_)
    refine lv_aload_n F.1 F.2.1 dL_law_1111 rfl (lv_at hl 3 rfl) ?_
    refine lv_aload_n F.1 F.2.1 dL_law_1112 rfl (lv_at hl 5 rfl) ?_
    refine lv_iload F.1 F.2.1 dL_law_1113 (lv_at hl 1 rfl) ?_
    refine rr_iconst F dL_law_1115 ?_
    refine rr_iadd F (z := i + 1) dL_law_1116 rfl ?_
    refine rr_sld F (A := fun q => s.heap.size ≤ q) hxs hb hbA hS (by omega) (by omega) hL dL_law_1117 ?_
    have hcode : (1 : Int) = 1 := by first | rfl | ((repeat' split) <;> first | rfl | omega)
    refine rr_wrVp (rest := []) F hK (n_X7_erase l D cy (w 0 0) (w 0 1) (w 0 2) (w 0 3) (w 0 4) (w 0 5) (w 0 6) tr ct tl a ap (XI xs (i + 1)) hM hct (XI_r _ _) (by first | assumption | omega)) hP hD hS hA sf_X7_erase tw1135 7 rfl rfl ⟨Nat.le_of_ble_eq_true rfl, Nat.le_of_ble_eq_true rfl⟩ hl rfl (Nat.le_of_ble_eq_true rfl) dL_law_1118 ⟨by show cells + 1 ≤ 601024; omega, by show slots + 6 ≤ 7293033; omega⟩ (pm_mNP cy u w out tl tc ol ct tr fv a G ak Gk As Gs Ah Gh th ap asl of tl tc ct a fv) rfl (fun H locs hP hD hS _ => ?_)
    have hP : va_P D vwCl (LW cy u w out tl tc ol ct 1 fv a G ak Gk As Gs Ah Gh th ap asl of tl tc ct a fv) H := hP.perm ((pm_mNP cy u w out tl tc ol ct 1 fv a G ak Gk As Gs Ah Gh th ap asl of tl tc ct a fv).symm)
    have hD : va_D (fun q => s.heap.size ≤ q) (LW cy u w out tl tc ol ct 1 fv a G ak Gk As Gs Ah Gh th ap asl of tl tc ct a fv) := hD.perm ((pm_mNP cy u w out tl tc ol ct 1 fv a G ak Gk As Gs Ah Gh th ap asl of tl tc ct a fv).symm)
    refine lv_istore (lv' := [(6, vI 0), (5, vI 1), (4, vI i), (3, .ref out), (2, .ref (w 0 0)), (1, .ref (u 0 0)), (0, .ref b)]) F.1 F.2.1 dL_law_1121 hl (by decide) rfl (fun ls hl => ?_)
    refine lv_aload_n F.1 F.2.1 dL_law_1123 rfl (lv_at hl 4 rfl) ?_
    refine rr_rdVp (rest := []) F hK (c_X7_thrown l D cy (w 0 0) (w 0 1) (w 0 2) (w 0 3) (w 0 4) (w 0 5) (w 0 6) 1 ct tl) hP (pm_m0 cy u w out tl tc ol ct 1 fv a G ak Gk As Gs Ah Gh th ap asl of tl tc ct a fv) sf_X7_thrown tw902 7 rfl rfl ⟨Nat.le_of_ble_eq_true rfl, Nat.le_of_ble_eq_true rfl⟩ hl rfl (Nat.le_of_ble_eq_true rfl) dL_law_1124 ⟨by show cells + 1 ≤ 601024; omega, by show slots + 6 ≤ 7293033; omega⟩ ?_
    refine lv_iload F.1 F.2.1 dL_law_1127 (lv_at hl 1 rfl) ?_
    refine rr_icmp_eq F (tgt := 1134) dL_law_1129 (by decide) ⟨by omega, by omega⟩ ⟨by omega, by omega⟩ (fun _ => ?_) (fun z => absurd rfl z)
    refine lv_iload F.1 F.2.1 dL_law_1134 (lv_at hl 1 rfl) ?_
    refine rr_if_ne F (tgt := 1151) dL_law_1136 (by decide) ⟨by omega, by omega⟩ (fun _ => ?_) (fun z => by omega)
    refine lv_goto (tgt := 2055) F.1 F.2.1 dL_law_1151 (by decide) ?_
    exact kk _ _ _ _ _ _ _ _ _ _ _ _ _ _ _ _ _ _ H locs ls (hI.mono (by omega)) hP hD hS (lv_sub hl [2, 3, 4, 5, 6] rfl)
