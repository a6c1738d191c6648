set_option maxRecDepth 100000 in
set_option maxHeartbeats 8000000 in
theorem lc_addWalker {p : Program} {l : Launch} {e : Env} {s : State} {m : MethodId} {args : Array Value} {below : List Frame} {meth : Method} {c : Code} {Q : State → Prop} {b L : Nat} {xs : Nat → Int32} {D : va_G} {cy : Nat → ClassId} {sa : Nat → Nat} {u w : NU} {out : Nat} (hnt : l.stackTraces = false) (F : FX p m c cL_law 7 s args RL) (hK : KK D cy s) (hX : XK sa s) (hZ0 : ZK (fun q => s.heap.size ≤ q) s s.heap) (hxs : va_X b L xs s s.heap) (hb : b < s.heap.size) (hL : L ≤ 2560) {N : Int} {tl : Int} {tc : Int → Int} {ol : Int} {ct : Int} {tr : Int} {fv : Int → Int} {a : Int → Int} {G : Int → Int → Int} {ak : Int → Int} {Gk : Int → Int → Int} {As : Nat → Int → Int} {Gs : Nat → Int → Int → Int} {Ah : Nat → Int → Int} {Gh : Nat → Int → Int → Int} {th : Int → Int} {ap : Int → Int} {asl : Int → Int} {of : Nat → Int64} (hI : INV N tl tc ol ct fv a G As Gs Ah Gh ap asl) (hN : 0 ≤ N ∧ N ≤ 80000000) {i : Int} (hi : 0 ≤ i ∧ i + 5 ≤ L) {H : Heap} {locs : List Loc} {cells slots : Nat} {ls : Array Slot} (hP : va_P D vwCl (LW cy u w out tl tc ol ct tr fv a G ak Gk As Gs Ah Gh th ap asl of tl tc ct a fv) H) (hD : va_D (fun q => s.heap.size ≤ q) (LW cy u w out tl tc ol ct tr fv a G ak Gk As Gs Ah Gh th ap asl of tl tc ct a fv)) (hS : va_S (fun q => s.heap.size ≤ q) s.heap H locs) (hl : lv_has ls 7 [(4, vI i), (3, .ref out), (2, .ref (w 0 0)), (1, .ref (u 0 0)), (0, .ref b)]) (hc : cells + 1 ≤ 601024 ∧ slots + 6 ≤ 7293033) (kk : LK p l e s m args below meth c D cy u w out b (N + 50) i (cells + 1) (slots + 6) Q) : W p l e room_1 s m args below meth c H locs cells slots Q (F0 m 1154 ls []) := by
  have hT := hI.1
  obtain ⟨hZ, hSV, hsp0, hsp1⟩ := hI.2.1
  have hM := SB.mr hZ
  have hn0 := hM.n
  have hw0 := hM.nw
  have hc0 := hM.wc
  have hol := hI.2.2.1
  have hct := hI.2.2.2.1
  have hbA : ¬ (fun q => s.heap.size ≤ q) b := Nat.not_le.mpr hb
  have hA : ∀ q, s.heap.size ≤ q → (fun q => s.heap.size ≤ q) q := fun q h => h
  have hZ1 : ZK nA s H := (hZ0.kept (fun a h1 h2 => hS.2.1 a h1 h2)).narrow (fun _ h => h.elim)
  refine lv_aload_n F.1 F.2.1 dL_law_1154 rfl (lv_at hl 3 rfl) ?_
  refine lv_aload_n F.1 F.2.1 dL_law_1155 rfl (lv_at hl 4 rfl) ?_
  refine lv_iload F.1 F.2.1 dL_law_1156 (lv_at hl 0 rfl) ?_
  refine rr_iconst F dL_law_1158 ?_
  refine rr_iadd F (z := i + 1) dL_law_1159 rfl ?_
  refine rr_sld F (A := fun q => s.heap.size ≤ q) hxs hb hbA hS (by omega) (by omega) hL dL_law_1160 ?_
  refine lv_aload_n F.1 F.2.1 dL_law_1161 rfl (lv_at hl 4 rfl) ?_
  refine lv_iload F.1 F.2.1 dL_law_1162 (lv_at hl 0 rfl) ?_
  refine rr_iconst F dL_law_1164 ?_
  refine rr_iadd F (z := i + 2) dL_law_1165 rfl ?_
  refine rr_sld F (A := fun q => s.heap.size ≤ q) hxs hb hbA hS (by omega) (by omega) hL dL_law_1166 ?_
  refine lv_aload_n F.1 F.2.1 dL_law_1167 rfl (lv_at hl 4 rfl) ?_
  refine lv_iload F.1 F.2.1 dL_law_1168 (lv_at hl 0 rfl) ?_
  refine rr_iconst F dL_law_1170 ?_
  refine rr_iadd F (z := i + 3) dL_law_1171 rfl ?_
  refine rr_sld F (A := fun q => s.heap.size ≤ q) hxs hb hbA hS (by omega) (by omega) hL dL_law_1172 ?_
  refine lv_aload_n F.1 F.2.1 dL_law_1173 rfl (lv_at hl 4 rfl) ?_
  refine lv_iload F.1 F.2.1 dL_law_1174 (lv_at hl 0 rfl) ?_
  refine rr_iconst F dL_law_1176 ?_
  refine rr_iadd F (z := i + 4) dL_law_1177 rfl ?_
  refine rr_sld F (A := fun q => s.heap.size ≤ q) hxs hb hbA hS (by omega) (by omega) hL dL_law_1178 ?_
  refine lv_aload_n F.1 F.2.1 dL_law_1179 rfl (lv_at hl 1 rfl) ?_
  have hb_1 := XI_b xs (i + 1)
  have hb_2 := XI_b xs (i + 2)
  have hb_3 := XI_b xs (i + 3)
  have hb_4 := XI_b xs (i + 4)
  by_cases hx0 : (0 ≤ (XI xs (i + 1)) ∧ (XI xs (i + 1)) < a 0) ∧ 0 ≤ (XI xs (i + 2)) ∧ (XI xs (i + 2)) ≤ 1
  · by_cases hx1 : (1 ≤ (XI xs (i + 3)) ∧ (XI xs (i + 3)) ≤ 3) ∧ 1 ≤ (XI xs (i + 4)) ∧ (XI xs (i + 4)) ≤ 5
    · by_cases hx2 : a 96 < 4
      · refine W.widen (k := cells + 1) (n := slots + 6) (by omega) (by omega) ?_
        have hvr : inR (a 96) := ⟨by omega, by omega⟩
        have hrr : ((ol + ct) % 14).toNat < 14 := by omega
        refine rr_wwS (rest := []) F hK (w_addWalker l D cy (u 0 0) (u 1 0) (u 3 0) (u 0 1) (u 0 2) (u 4 0) (u 4 1) (fun i => u (Int.toNat i + 7) 0) ol ct (u 2 0) (u 2 1) (u 2 2) (u 2 3) (u 2 4) (u 2 5) (u 2 6) (fun i => u 2 (7 + Int.toNat i)) (u (((ol + ct) % 14).toNat + 7) 0) (u (((ol + ct) % 14).toNat + 7) 1) (u (((ol + ct) % 14).toNat + 7) 2) (u (((ol + ct) % 14).toNat + 7) 3) (u (((ol + ct) % 14).toNat + 7) 4) (u (((ol + ct) % 14).toNat + 7) 5) (u (((ol + ct) % 14).toNat + 7) 6) (fun i => u (((ol + ct) % 14).toNat + 7) (7 + Int.toNat i)) a (Ah ((ol + ct) % 14).toNat) G (Gh ((ol + ct) % 14).toNat) (XI xs (i + 1)) (XI xs (i + 2)) (XI xs (i + 3)) (XI xs (i + 4)) out of hol hct rfl hZ (by first | assumption | omega | exact ⟨by omega, by omega⟩) (by first | assumption | omega | exact ⟨by omega, by omega⟩) (by first | assumption | omega | exact ⟨by omega, by omega⟩) (by first | assumption | omega | exact ⟨by omega, by omega⟩) (by first | assumption | omega | exact ⟨by omega, by omega⟩) hvr) hP hD hS hA sfw_addWalker tw675 ⟨Nat.le_of_ble_eq_true rfl, Nat.le_of_ble_eq_true rfl⟩ hl rfl (Nat.le_of_ble_eq_true rfl) dL_law_1180 ⟨by show cells + 1 ≤ 601024; omega, by show slots + 6 ≤ 7293033; omega⟩ (pm_h cy u w out tl tc ol ct tr fv a G ak Gk As Gs Ah Gh th ap asl of tl tc ct a fv ((ol + ct) % 14).toNat hrr) rfl (fun H locs hP hD hS _ => ?_)
        have hP : va_P D vwCl (LW cy u w out tl tc (if ct < 14 then ol else (ol + 1) % 14) (if ct < 14 then ct + 1 else ct) tr fv (comR a (XI xs (i + 1)) (XI xs (i + 2)) (XI xs (i + 3)) (XI xs (i + 4))) (GCom a G (XI xs (i + 1)) (XI xs (i + 2)) (XI xs (i + 3)) (XI xs (i + 4))) ak Gk As Gs (upN Ah ((ol + ct) % 14).toNat a) (upN Gh ((ol + ct) % 14).toNat G) th ap asl (vp_updL of 0 (lI (a 96))) tl tc ct a fv) H := hP.perm ((po_h cy u w out tl tc (if ct < 14 then ol else (ol + 1) % 14) (if ct < 14 then ct + 1 else ct) tr fv (comR a (XI xs (i + 1)) (XI xs (i + 2)) (XI xs (i + 3)) (XI xs (i + 4))) (GCom a G (XI xs (i + 1)) (XI xs (i + 2)) (XI xs (i + 3)) (XI xs (i + 4))) ak Gk As Gs (upN Ah ((ol + ct) % 14).toNat a) (upN Gh ((ol + ct) % 14).toNat G) th ap asl (vp_updL of 0 (lI (a 96))) tl tc ct a fv Ah Gh ((ol + ct) % 14).toNat hrr upN_s upN_s (fun j z => ⟨upN_n z, upN_n z⟩)))
        have hD : va_D (fun q => s.heap.size ≤ q) (LW cy u w out tl tc (if ct < 14 then ol else (ol + 1) % 14) (if ct < 14 then ct + 1 else ct) tr fv (comR a (XI xs (i + 1)) (XI xs (i + 2)) (XI xs (i + 3)) (XI xs (i + 4))) (GCom a G (XI xs (i + 1)) (XI xs (i + 2)) (XI xs (i + 3)) (XI xs (i + 4))) ak Gk As Gs (upN Ah ((ol + ct) % 14).toNat a) (upN Gh ((ol + ct) % 14).toNat G) th ap asl (vp_updL of 0 (lI (a 96))) tl tc ct a fv) := hD.perm ((po_h cy u w out tl tc (if ct < 14 then ol else (ol + 1) % 14) (if ct < 14 then ct + 1 else ct) tr fv (comR a (XI xs (i + 1)) (XI xs (i + 2)) (XI xs (i + 3)) (XI xs (i + 4))) (GCom a G (XI xs (i + 1)) (XI xs (i + 2)) (XI xs (i + 3)) (XI xs (i + 4))) ak Gk As Gs (upN Ah ((ol + ct) % 14).toNat a) (upN Gh ((ol + ct) % 14).toNat G) th ap asl (vp_updL of 0 (lI (a 96))) tl tc ct a fv Ah Gh ((ol + ct) % 14).toNat hrr upN_s upN_s (fun j z => ⟨upN_n z, upN_n z⟩)))
        refine lv_istore (lv' := [(5, vI 0), (4, vI i), (3, .ref out), (2, .ref (w 0 0)), (1, .ref (u 0 0)), (0, .ref b)]) F.1 F.2.1 dL_law_1183 hl (by decide) rfl (fun ls hl => ?_)
        refine lv_aload_n F.1 F.2.1 dL_law_1185 rfl (lv_at hl 3 rfl) ?_
        refine lv_aload_n F.1 F.2.1 dL_law_1186 rfl (lv_at hl 5 rfl) ?_
        refine lv_iload F.1 F.2.1 dL_law_1187 (lv_at hl 1 rfl) ?_
        refine rr_iconst F dL_law_1189 ?_
        refine rr_iadd F (z := i + 1) dL_law_1190 rfl ?_
        refine rr_sld F (A := fun q => s.heap.size ≤ q) hxs hb hbA hS (by omega) (by omega) hL dL_law_1191 ?_
        refine lv_aload_n F.1 F.2.1 dL_law_1192 rfl (lv_at hl 5 rfl) ?_
        refine lv_iload F.1 F.2.1 dL_law_1193 (lv_at hl 1 rfl) ?_
        refine rr_iconst F dL_law_1195 ?_
        refine rr_iadd F (z := i + 2) dL_law_1196 rfl ?_
        refine rr_sld F (A := fun q => s.heap.size ≤ q) hxs hb hbA hS (by omega) (by omega) hL dL_law_1197 ?_
        refine lv_aload_n F.1 F.2.1 dL_law_1198 rfl (lv_at hl 5 rfl) ?_
        refine lv_iload F.1 F.2.1 dL_law_1199 (lv_at hl 1 rfl) ?_
        refine rr_iconst F dL_law_1201 ?_
        refine rr_iadd F (z := i + 3) dL_law_1202 rfl ?_
        refine rr_sld F (A := fun q => s.heap.size ≤ q) hxs hb hbA hS (by omega) (by omega) hL dL_law_1203 ?_
        refine lv_aload_n F.1 F.2.1 dL_law_1204 rfl (lv_at hl 5 rfl) ?_
        refine lv_iload F.1 F.2.1 dL_law_1205 (lv_at hl 1 rfl) ?_
        refine rr_iconst F dL_law_1207 ?_
        refine rr_iadd F (z := i + 4) dL_law_1208 rfl ?_
        refine rr_sld F (A := fun q => s.heap.size ≤ q) hxs hb hbA hS (by omega) (by omega) hL dL_law_1209 ?_
        refine rr_wrVp (rest := []) F hK (c_X7_addWalker l D cy (w 0 0) (w 0 1) (w 0 2) (w 0 3) (w 0 4) (w 0 5) (w 0 6) tr ct tl a ap (XI xs (i + 1)) (XI xs (i + 2)) (XI xs (i + 3)) (XI xs (i + 4)) hM hct (XI_r _ _) (XI_r _ _) (XI_r _ _) (XI_r _ _) (by first | assumption | omega | exact ⟨by omega, by omega⟩) (by first | assumption | omega | exact ⟨by omega, by omega⟩) (by first | assumption | omega | exact ⟨by omega, by omega⟩) (by first | assumption | omega | exact ⟨by omega, by omega⟩) (by first | assumption | omega | exact ⟨by omega, by omega⟩)) hP hD hS hA sf_X7_addWalker tw1142 7 rfl rfl ⟨Nat.le_of_ble_eq_true rfl, Nat.le_of_ble_eq_true rfl⟩ hl rfl (Nat.le_of_ble_eq_true rfl) dL_law_1210 ⟨by show cells + 1 ≤ 601024; omega, by show slots + 6 ≤ 7293033; omega⟩ (pm_mNP cy u w out tl tc (if ct < 14 then ol else (ol + 1) % 14) (if ct < 14 then ct + 1 else ct) tr fv (comR a (XI xs (i + 1)) (XI xs (i + 2)) (XI xs (i + 3)) (XI xs (i + 4))) (GCom a G (XI xs (i + 1)) (XI xs (i + 2)) (XI xs (i + 3)) (XI xs (i + 4))) ak Gk As Gs (upN Ah ((ol + ct) % 14).toNat a) (upN Gh ((ol + ct) % 14).toNat G) th ap asl (vp_updL of 0 (lI (a 96))) tl tc ct a fv) rfl (fun H locs hP hD hS _ => ?_)
        have hP : va_P D vwCl (LW cy u w out tl tc (if ct < 14 then ol else (ol + 1) % 14) (if ct < 14 then ct + 1 else ct) 0 fv (comR a (XI xs (i + 1)) (XI xs (i + 2)) (XI xs (i + 3)) (XI xs (i + 4))) (GCom a G (XI xs (i + 1)) (XI xs (i + 2)) (XI xs (i + 3)) (XI xs (i + 4))) ak Gk As Gs (upN Ah ((ol + ct) % 14).toNat a) (upN Gh ((ol + ct) % 14).toNat G) th (remA a ap ct) asl (vp_updL of 0 (lI (a 96))) tl tc (remN ct) (comR a (XI xs (i + 1)) (XI xs (i + 2)) (XI xs (i + 3)) (XI xs (i + 4))) fv) H := hP.perm ((pm_mNP cy u w out tl tc (if ct < 14 then ol else (ol + 1) % 14) (if ct < 14 then ct + 1 else ct) 0 fv (comR a (XI xs (i + 1)) (XI xs (i + 2)) (XI xs (i + 3)) (XI xs (i + 4))) (GCom a G (XI xs (i + 1)) (XI xs (i + 2)) (XI xs (i + 3)) (XI xs (i + 4))) ak Gk As Gs (upN Ah ((ol + ct) % 14).toNat a) (upN Gh ((ol + ct) % 14).toNat G) th (remA a ap ct) asl (vp_updL of 0 (lI (a 96))) tl tc (remN ct) (comR a (XI xs (i + 1)) (XI xs (i + 2)) (XI xs (i + 3)) (XI xs (i + 4))) fv).symm)
        have hD : va_D (fun q => s.heap.size ≤ q) (LW cy u w out tl tc (if ct < 14 then ol else (ol + 1) % 14) (if ct < 14 then ct + 1 else ct) 0 fv (comR a (XI xs (i + 1)) (XI xs (i + 2)) (XI xs (i + 3)) (XI xs (i + 4))) (GCom a G (XI xs (i + 1)) (XI xs (i + 2)) (XI xs (i + 3)) (XI xs (i + 4))) ak Gk As Gs (upN Ah ((ol + ct) % 14).toNat a) (upN Gh ((ol + ct) % 14).toNat G) th (remA a ap ct) asl (vp_updL of 0 (lI (a 96))) tl tc (remN ct) (comR a (XI xs (i + 1)) (XI xs (i + 2)) (XI xs (i + 3)) (XI xs (i + 4))) fv) := hD.perm ((pm_mNP cy u w out tl tc (if ct < 14 then ol else (ol + 1) % 14) (if ct < 14 then ct + 1 else ct) 0 fv (comR a (XI xs (i + 1)) (XI xs (i + 2)) (XI xs (i + 3)) (XI xs (i + 4))) (GCom a G (XI xs (i + 1)) (XI xs (i + 2)) (XI xs (i + 3)) (XI xs (i + 4))) ak Gk As Gs (upN Ah ((ol + ct) % 14).toNat a) (upN Gh ((ol + ct) % 14).toNat G) th (remA a ap ct) asl (vp_updL of 0 (lI (a 96))) tl tc (remN ct) (comR a (XI xs (i + 1)) (XI xs (i + 2)) (XI xs (i + 3)) (XI xs (i + 4))) fv).symm)
        rw [remN_ct hct] at hP hD
        have hP : va_P D vwCl (LW cy u w out tl tc (if ct < 14 then ol else (ol + 1) % 14) (if ct < 14 then ct + 1 else ct) 0 fv (comR a (XI xs (i + 1)) (XI xs (i + 2)) (XI xs (i + 3)) (XI xs (i + 4))) (GCom a G (XI xs (i + 1)) (XI xs (i + 2)) (XI xs (i + 3)) (XI xs (i + 4))) ak Gk As Gs (upN Ah ((ol + ct) % 14).toNat a) (upN Gh ((ol + ct) % 14).toNat G) th (remA a ap ct) asl (vp_updL of 0 (lI (a 96))) tl tc (if ct < 14 then ct + 1 else ct) (comR a (XI xs (i + 1)) (XI xs (i + 2)) (XI xs (i + 3)) (XI xs (i + 4))) fv) H := hP
        have hD : va_D (fun q => s.heap.size ≤ q) (LW cy u w out tl tc (if ct < 14 then ol else (ol + 1) % 14) (if ct < 14 then ct + 1 else ct) 0 fv (comR a (XI xs (i + 1)) (XI xs (i + 2)) (XI xs (i + 3)) (XI xs (i + 4))) (GCom a G (XI xs (i + 1)) (XI xs (i + 2)) (XI xs (i + 3)) (XI xs (i + 4))) ak Gk As Gs (upN Ah ((ol + ct) % 14).toNat a) (upN Gh ((ol + ct) % 14).toNat G) th (remA a ap ct) asl (vp_updL of 0 (lI (a 96))) tl tc (if ct < 14 then ct + 1 else ct) (comR a (XI xs (i + 1)) (XI xs (i + 2)) (XI xs (i + 3)) (XI xs (i + 4))) fv) := hD
        refine lv_istore (lv' := [(6, vI (a 96)), (5, vI 0), (4, vI i), (3, .ref out), (2, .ref (w 0 0)), (1, .ref (u 0 0)), (0, .ref b)]) F.1 F.2.1 dL_law_1213 hl (by decide) rfl (fun ls hl => ?_)
        refine lv_aload_n F.1 F.2.1 dL_law_1215 rfl (lv_at hl 4 rfl) ?_
        refine rr_rdVp (rest := []) F hK (c_X7_thrown l D cy (w 0 0) (w 0 1) (w 0 2) (w 0 3) (w 0 4) (w 0 5) (w 0 6) 0 (if ct < 14 then ct + 1 else ct) tl) hP (pm_m0 cy u w out tl tc (if ct < 14 then ol else (ol + 1) % 14) (if ct < 14 then ct + 1 else ct) 0 fv (comR a (XI xs (i + 1)) (XI xs (i + 2)) (XI xs (i + 3)) (XI xs (i + 4))) (GCom a G (XI xs (i + 1)) (XI xs (i + 2)) (XI xs (i + 3)) (XI xs (i + 4))) ak Gk As Gs (upN Ah ((ol + ct) % 14).toNat a) (upN Gh ((ol + ct) % 14).toNat G) th (remA a ap ct) asl (vp_updL of 0 (lI (a 96))) tl tc (if ct < 14 then ct + 1 else ct) (comR a (XI xs (i + 1)) (XI xs (i + 2)) (XI xs (i + 3)) (XI xs (i + 4))) fv) sf_X7_thrown tw902 7 rfl rfl ⟨Nat.le_of_ble_eq_true rfl, Nat.le_of_ble_eq_true rfl⟩ hl rfl (Nat.le_of_ble_eq_true rfl) dL_law_1216 ⟨by show cells + 1 ≤ 601024; omega, by show slots + 6 ≤ 7293033; omega⟩ ?_
        refine lv_iload F.1 F.2.1 dL_law_1219 (lv_at hl 1 rfl) ?_
        refine rr_icmp_eq F (tgt := 1226) dL_law_1221 (by decide) ⟨by omega, by omega⟩ ⟨by omega, by omega⟩ (fun _ => ?_) (fun z => absurd rfl z)
        refine lv_iload F.1 F.2.1 dL_law_1226 (lv_at hl 1 rfl) ?_
        refine rr_if_ne F (tgt := 1243) dL_law_1228 (by decide) ⟨by omega, by omega⟩ (fun z => absurd rfl z) (fun _ => ?_)
        refine lv_aload_n F.1 F.2.1 dL_law_1231 rfl (lv_at hl 3 rfl) ?_
        refine rr_iconst F dL_law_1232 ?_
        refine rr_lald0 F hK (hP.perm (pm_o cy u w out tl tc (if ct < 14 then ol else (ol + 1) % 14) (if ct < 14 then ct + 1 else ct) 0 fv (comR a (XI xs (i + 1)) (XI xs (i + 2)) (XI xs (i + 3)) (XI xs (i + 4))) (GCom a G (XI xs (i + 1)) (XI xs (i + 2)) (XI xs (i + 3)) (XI xs (i + 4))) ak Gk As Gs (upN Ah ((ol + ct) % 14).toNat a) (upN Gh ((ol + ct) % 14).toNat G) th (remA a ap ct) asl (vp_updL of 0 (lI (a 96))) tl tc (if ct < 14 then ct + 1 else ct) (comR a (XI xs (i + 1)) (XI xs (i + 2)) (XI xs (i + 3)) (XI xs (i + 4))) fv)) 0 rfl dL_law_1233 ?_
        refine lv_iload F.1 F.2.1 dL_law_1234 (lv_at hl 0 rfl) ?_
        refine rr_i2l F dL_law_1236 hvr ?_
        refine rr_lcmp F (a := a 96) (b := a 96) dL_law_1237 (inL_r hvr) (inL_r hvr) ?_
        refine rr_if_eq F (tgt := 1243) dL_law_1238 (by decide) (lcm_r _ _) (fun _ => ?_) (fun z => absurd ((lcm_spec _ _).2.1.mpr rfl) z)
        refine lv_goto (tgt := 2055) F.1 F.2.1 dL_law_1243 (by decide) ?_
        exact kk _ _ _ _ _ _ _ _ _ _ _ _ _ _ _ _ _ _ H locs ls (hI.rem (by omega) (GD_com hI.2.1 (by omega) (by omega) (by omega) (by omega) (by omega) (by omega))) hP hD hS (lv_sub hl [2, 3, 4, 5, 6] rfl)
      · refine rr_twS (rest := []) F hK hX hZ1 (r_addWalker_68 l hnt D cy sa (u 0 0) (u 1 0) (u 3 0) (u 4 0) (u 0 1) (u 0 2) (u 2 0) (u 2 6) (a 96) (a 117) (u 2 1) (u 2 2) (a 0) (G 0) (rq a) (u 2 3) (u 2 4) (u 2 5) (a 25) (G 6) (G 7) (rbl a) (rbc a) (XI xs (i + 1)) (XI xs (i + 2)) (XI xs (i + 3)) (XI xs (i + 4)) out (SB.rg hZ) (SB.bk hZ) hM.wc (XI_r _ _) (XI_r _ _) (XI_r _ _) (XI_r _ _) (by first | assumption | omega | exact ⟨by omega, by omega⟩) (by first | assumption | omega | exact ⟨by omega, by omega⟩) (by first | assumption | omega | exact ⟨by omega, by omega⟩)) hP hS sfw_addWalker tw675 ⟨Nat.le_of_ble_eq_true rfl, Nat.le_of_ble_eq_true rfl⟩ hl rfl (Nat.le_of_ble_eq_true rfl) dL_law_1180 ⟨by show cells + 1 ≤ 601024; omega, by show slots + 6 ≤ 7293033; omega⟩ (pm_cAB cy u w out tl tc ol ct tr fv a G ak Gk As Gs Ah Gh th ap asl of tl tc ct a fv) (fun H locs hP hS _ => ?_)
        refine lv_istore (lv' := [(5, vI 3), (4, vI i), (3, .ref out), (2, .ref (w 0 0)), (1, .ref (u 0 0)), (0, .ref b)]) F.1 F.2.1 dL_law_1183 hl (by decide) rfl (fun ls hl => ?_)
        refine lv_aload_n F.1 F.2.1 dL_law_1185 rfl (lv_at hl 3 rfl) ?_
        refine lv_aload_n F.1 F.2.1 dL_law_1186 rfl (lv_at hl 5 rfl) ?_
        refine lv_iload F.1 F.2.1 dL_law_1187 (lv_at hl 1 rfl) ?_
        refine rr_iconst F dL_law_1189 ?_
        refine rr_iadd F (z := i + 1) dL_law_1190 rfl ?_
        refine rr_sld F (A := fun q => s.heap.size ≤ q) hxs hb hbA hS (by omega) (by omega) hL dL_law_1191 ?_
        refine lv_aload_n F.1 F.2.1 dL_law_1192 rfl (lv_at hl 5 rfl) ?_
        refine lv_iload F.1 F.2.1 dL_law_1193 (lv_at hl 1 rfl) ?_
        refine rr_iconst F dL_law_1195 ?_
        refine rr_iadd F (z := i + 2) dL_law_1196 rfl ?_
        refine rr_sld F (A := fun q => s.heap.size ≤ q) hxs hb hbA hS (by omega) (by omega) hL dL_law_1197 ?_
        refine lv_aload_n F.1 F.2.1 dL_law_1198 rfl (lv_at hl 5 rfl) ?_
        refine lv_iload F.1 F.2.1 dL_law_1199 (lv_at hl 1 rfl) ?_
        refine rr_iconst F dL_law_1201 ?_
        refine rr_iadd F (z := i + 3) dL_law_1202 rfl ?_
        refine rr_sld F (A := fun q => s.heap.size ≤ q) hxs hb hbA hS (by omega) (by omega) hL dL_law_1203 ?_
        refine lv_aload_n F.1 F.2.1 dL_law_1204 rfl (lv_at hl 5 rfl) ?_
        refine lv_iload F.1 F.2.1 dL_law_1205 (lv_at hl 1 rfl) ?_
        refine rr_iconst F dL_law_1207 ?_
        refine rr_iadd F (z := i + 4) dL_law_1208 rfl ?_
        refine rr_sld F (A := fun q => s.heap.size ≤ q) hxs hb hbA hS (by omega) (by omega) hL dL_law_1209 ?_
        have hcode : (if (0 ≤ (XI xs (i + 1)) ∧ (XI xs (i + 1)) < a 0) ∧ (0 ≤ (XI xs (i + 2)) ∧ (XI xs (i + 2)) ≤ 1) then (if (1 ≤ (XI xs (i + 3)) ∧ (XI xs (i + 3)) ≤ 3) ∧ (1 ≤ (XI xs (i + 4)) ∧ (XI xs (i + 4)) ≤ 5) then 3 else 2) else 1 : Int) = 3 := by first | rfl | ((repeat' split) <;> first | rfl | omega)
        refine rr_wrVp (rest := []) F hK (n_X7_addWalker l D cy (w 0 0) (w 0 1) (w 0 2) (w 0 3) (w 0 4) (w 0 5) (w 0 6) tr ct tl a ap (XI xs (i + 1)) (XI xs (i + 2)) (XI xs (i + 3)) (XI xs (i + 4)) hM hct (XI_r _ _) (XI_r _ _) (XI_r _ _) (XI_r _ _) (by first | assumption | omega)) hP hD hS hA sf_X7_addWalker tw1142 7 rfl rfl ⟨Nat.le_of_ble_eq_true rfl, Nat.le_of_ble_eq_true rfl⟩ hl rfl (Nat.le_of_ble_eq_true rfl) dL_law_1210 ⟨by show cells + 1 ≤ 601024; omega, by show slots + 6 ≤ 7293033; omega⟩ (pm_mNP cy u w out tl tc ol ct tr fv a G ak Gk As Gs Ah Gh th ap asl of tl tc ct a fv) rfl (fun H locs hP hD hS _ => ?_)
        have hP : va_P D vwCl (LW cy u w out tl tc ol ct (if (0 ≤ (XI xs (i + 1)) ∧ (XI xs (i + 1)) < a 0) ∧ (0 ≤ (XI xs (i + 2)) ∧ (XI xs (i + 2)) ≤ 1) then (if (1 ≤ (XI xs (i + 3)) ∧ (XI xs (i + 3)) ≤ 3) ∧ (1 ≤ (XI xs (i + 4)) ∧ (XI xs (i + 4)) ≤ 5) then 3 else 2) else 1) fv a G ak Gk As Gs Ah Gh th ap asl of tl tc ct a fv) H := hP.perm ((pm_mNP cy u w out tl tc ol ct (if (0 ≤ (XI xs (i + 1)) ∧ (XI xs (i + 1)) < a 0) ∧ (0 ≤ (XI xs (i + 2)) ∧ (XI xs (i + 2)) ≤ 1) then (if (1 ≤ (XI xs (i + 3)) ∧ (XI xs (i + 3)) ≤ 3) ∧ (1 ≤ (XI xs (i + 4)) ∧ (XI xs (i + 4)) ≤ 5) then 3 else 2) else 1) fv a G ak Gk As Gs Ah Gh th ap asl of tl tc ct a fv).symm)
        have hD : va_D (fun q => s.heap.size ≤ q) (LW cy u w out tl tc ol ct (if (0 ≤ (XI xs (i + 1)) ∧ (XI xs (i + 1)) < a 0) ∧ (0 ≤ (XI xs (i + 2)) ∧ (XI xs (i + 2)) ≤ 1) then (if (1 ≤ (XI xs (i + 3)) ∧ (XI xs (i + 3)) ≤ 3) ∧ (1 ≤ (XI xs (i + 4)) ∧ (XI xs (i + 4)) ≤ 5) then 3 else 2) else 1) fv a G ak Gk As Gs Ah Gh th ap asl of tl tc ct a fv) := hD.perm ((pm_mNP cy u w out tl tc ol ct (if (0 ≤ (XI xs (i + 1)) ∧ (XI xs (i + 1)) < a 0) ∧ (0 ≤ (XI xs (i + 2)) ∧ (XI xs (i + 2)) ≤ 1) then (if (1 ≤ (XI xs (i + 3)) ∧ (XI xs (i + 3)) ≤ 3) ∧ (1 ≤ (XI xs (i + 4)) ∧ (XI xs (i + 4)) ≤ 5) then 3 else 2) else 1) fv a G ak Gk As Gs Ah Gh th ap asl of tl tc ct a fv).symm)
        rw [hcode] at hP hD
        refine lv_istore (lv' := [(6, vI 0), (5, vI 3), (4, vI i), (3, .ref out), (2, .ref (w 0 0)), (1, .ref (u 0 0)), (0, .ref b)]) F.1 F.2.1 dL_law_1213 hl (by decide) rfl (fun ls hl => ?_)
        refine lv_aload_n F.1 F.2.1 dL_law_1215 rfl (lv_at hl 4 rfl) ?_
        refine rr_rdVp (rest := []) F hK (c_X7_thrown l D cy (w 0 0) (w 0 1) (w 0 2) (w 0 3) (w 0 4) (w 0 5) (w 0 6) 3 ct tl) hP (pm_m0 cy u w out tl tc ol ct 3 fv a G ak Gk As Gs Ah Gh th ap asl of tl tc ct a fv) sf_X7_thrown tw902 7 rfl rfl ⟨Nat.le_of_ble_eq_true rfl, Nat.le_of_ble_eq_true rfl⟩ hl rfl (Nat.le_of_ble_eq_true rfl) dL_law_1216 ⟨by show cells + 1 ≤ 601024; omega, by show slots + 6 ≤ 7293033; omega⟩ ?_
        refine lv_iload F.1 F.2.1 dL_law_1219 (lv_at hl 1 rfl) ?_
        refine rr_icmp_eq F (tgt := 1226) dL_law_1221 (by decide) ⟨by omega, by omega⟩ ⟨by omega, by omega⟩ (fun _ => ?_) (fun z => absurd rfl z)
        refine lv_iload F.1 F.2.1 dL_law_1226 (lv_at hl 1 rfl) ?_
        refine rr_if_ne F (tgt := 1243) dL_law_1228 (by decide) ⟨by omega, by omega⟩ (fun _ => ?_) (fun z => by omega)
        refine lv_goto (tgt := 2055) F.1 F.2.1 dL_law_1243 (by decide) ?_
        exact kk _ _ _ _ _ _ _ _ _ _ _ _ _ _ _ _ _ _ H locs ls (hI.mono (by omega)) hP hD hS (lv_sub hl [2, 3, 4, 5, 6] rfl)
    · refine rr_twS (rest := []) F hK hX hZ1 (r_addWalker_46 l hnt D cy sa (u 0 0) (u 1 0) (u 3 0) (u 4 0) (u 0 1) (u 0 2) (u 2 0) (u 2 6) (a 96) (a 117) (u 2 1) (u 2 2) (a 0) (G 0) (rq a) (u 2 3) (u 2 4) (u 2 5) (a 25) (G 6) (G 7) (rbl a) (rbc a) (XI xs (i + 1)) (XI xs (i + 2)) (XI xs (i + 3)) (XI xs (i + 4)) out (SB.rg hZ) (SB.bk hZ) (XI_r _ _) (XI_r _ _) (XI_r _ _) (XI_r _ _) (by first | assumption | omega | exact ⟨by omega, by omega⟩) (by first | assumption | omega | exact ⟨by omega, by omega⟩)) hP hS sfw_addWalker tw675 ⟨Nat.le_of_ble_eq_true rfl, Nat.le_of_ble_eq_true rfl⟩ hl rfl (Nat.le_of_ble_eq_true rfl) dL_law_1180 ⟨by show cells + 1 ≤ 601024; omega, by show slots + 6 ≤ 7293033; omega⟩ (pm_cAB cy u w out tl tc ol ct tr fv a G ak Gk As Gs Ah Gh th ap asl of tl tc ct a fv) (fun H locs hP hS _ => ?_)
      refine lv_istore (lv' := [(5, vI 2), (4, vI i), (3, .ref out), (2, .ref (w 0 0)), (1, .ref (u 0 0)), (0, .ref b)]) F.1 F.2.1 dL_law_1183 hl (by decide) rfl (fun ls hl => ?_)
      refine lv_aload_n F.1 F.2.1 dL_law_1185 rfl (lv_at hl 3 rfl) ?_
      refine lv_aload_n F.1 F.2.1 dL_law_1186 rfl (lv_at hl 5 rfl) ?_
      refine lv_iload F.1 F.2.1 dL_law_1187 (lv_at hl 1 rfl) ?_
      refine rr_iconst F dL_law_1189 ?_
      refine rr_iadd F (z := i + 1) dL_law_1190 rfl ?_
      refine rr_sld F (A := fun q => s.heap.size ≤ q) hxs hb hbA hS (by omega) (by omega) hL dL_law_1191 ?_
      refine lv_aload_n F.1 F.2.1 dL_law_1192 rfl (lv_at hl 5 rfl) ?_
      refine lv_iload F.1 F.2.1 dL_law_1193 (lv_at hl 1 rfl) ?_
      refine rr_iconst F dL_law_1195 ?_
      refine rr_iadd F (z := i + 2) dL_law_1196 rfl ?_
      refine rr_sld F (A := fun q => s.heap.size ≤ q) hxs hb hbA hS (by omega) (by omega) hL dL_law_1197 ?_
      refine lv_aload_n F.1 F.2.1 dL_law_1198 rfl (lv_at hl 5 rfl) ?_
      refine lv_iload F.1 F.2.1 dL_law_1199 (lv_at hl 1 rfl) ?_
      refine rr_iconst F dL_law_1201 ?_
      refine rr_iadd F (z := i + 3) dL_law_1202 rfl ?_
      refine rr_sld F (A := fun q => s.heap.size ≤ q) hxs hb hbA hS (by omega) (by omega) hL dL_law_1203 ?_
      refine lv_aload_n F.1 F.2.1 dL_law_1204 rfl (lv_at hl 5 rfl) ?_
      refine lv_iload F.1 F.2.1 dL_law_1205 (lv_at hl 1 rfl) ?_
      refine rr_iconst F dL_law_1207 ?_
      refine rr_iadd F (z := i + 4) dL_law_1208 rfl ?_
      refine rr_sld F (A := fun q => s.heap.size ≤ q) hxs hb hbA hS (by omega) (by omega) hL dL_law_1209 ?_
      have hcode : (if (0 ≤ (XI xs (i + 1)) ∧ (XI xs (i + 1)) < a 0) ∧ (0 ≤ (XI xs (i + 2)) ∧ (XI xs (i + 2)) ≤ 1) then (if (1 ≤ (XI xs (i + 3)) ∧ (XI xs (i + 3)) ≤ 3) ∧ (1 ≤ (XI xs (i + 4)) ∧ (XI xs (i + 4)) ≤ 5) then 3 else 2) else 1 : Int) = 2 := by first | rfl | ((repeat' split) <;> first | rfl | omega)
      refine rr_wrVp (rest := []) F hK (n_X7_addWalker l D cy (w 0 0) (w 0 1) (w 0 2) (w 0 3) (w 0 4) (w 0 5) (w 0 6) tr ct tl a ap (XI xs (i + 1)) (XI xs (i + 2)) (XI xs (i + 3)) (XI xs (i + 4)) hM hct (XI_r _ _) (XI_r _ _) (XI_r _ _) (XI_r _ _) (by first | assumption | omega)) hP hD hS hA sf_X7_addWalker tw1142 7 rfl rfl ⟨Nat.le_of_ble_eq_true rfl, Nat.le_of_ble_eq_true rfl⟩ hl rfl (Nat.le_of_ble_eq_true rfl) dL_law_1210 ⟨by show cells + 1 ≤ 601024; omega, by show slots + 6 ≤ 7293033; omega⟩ (pm_mNP cy u w out tl tc ol ct tr fv a G ak Gk As Gs Ah Gh th ap asl of tl tc ct a fv) rfl (fun H locs hP hD hS _ => ?_)
      have hP : va_P D vwCl (LW cy u w out tl tc ol ct (if (0 ≤ (XI xs (i + 1)) ∧ (XI xs (i + 1)) < a 0) ∧ (0 ≤ (XI xs (i + 2)) ∧ (XI xs (i + 2)) ≤ 1) then (if (1 ≤ (XI xs (i + 3)) ∧ (XI xs (i + 3)) ≤ 3) ∧ (1 ≤ (XI xs (i + 4)) ∧ (XI xs (i + 4)) ≤ 5) then 3 else 2) else 1) fv a G ak Gk As Gs Ah Gh th ap asl of tl tc ct a fv) H := hP.perm ((pm_mNP cy u w out tl tc ol ct (if (0 ≤ (XI xs (i + 1)) ∧ (XI xs (i + 1)) < a 0) ∧ (0 ≤ (XI xs (i + 2)) ∧ (XI xs (i + 2)) ≤ 1) then (if (1 ≤ (XI xs (i + 3)) ∧ (XI xs (i + 3)) ≤ 3) ∧ (1 ≤ (XI xs (i + 4)) ∧ (XI xs (i + 4)) ≤ 5) then 3 else 2) else 1) fv a G ak Gk As Gs Ah Gh th ap asl of tl tc ct a fv).symm)
      have hD : va_D (fun q => s.heap.size ≤ q) (LW cy u w out tl tc ol ct (if (0 ≤ (XI xs (i + 1)) ∧ (XI xs (i + 1)) < a 0) ∧ (0 ≤ (XI xs (i + 2)) ∧ (XI xs (i + 2)) ≤ 1) then (if (1 ≤ (XI xs (i + 3)) ∧ (XI xs (i + 3)) ≤ 3) ∧ (1 ≤ (XI xs (i + 4)) ∧ (XI xs (i + 4)) ≤ 5) then 3 else 2) else 1) fv a G ak Gk As Gs Ah Gh th ap asl of tl tc ct a fv) := hD.perm ((pm_mNP cy u w out tl tc ol ct (if (0 ≤ (XI xs (i + 1)) ∧ (XI xs (i + 1)) < a 0) ∧ (0 ≤ (XI xs (i + 2)) ∧ (XI xs (i + 2)) ≤ 1) then (if (1 ≤ (XI xs (i + 3)) ∧ (XI xs (i + 3)) ≤ 3) ∧ (1 ≤ (XI xs (i + 4)) ∧ (XI xs (i + 4)) ≤ 5) then 3 else 2) else 1) fv a G ak Gk As Gs Ah Gh th ap asl of tl tc ct a fv).symm)
      rw [hcode] at hP hD
      refine lv_istore (lv' := [(6, vI 0), (5, vI 2), (4, vI i), (3, .ref out), (2, .ref (w 0 0)), (1, .ref (u 0 0)), (0, .ref b)]) F.1 F.2.1 dL_law_1213 hl (by decide) rfl (fun ls hl => ?_)
      refine lv_aload_n F.1 F.2.1 dL_law_1215 rfl (lv_at hl 4 rfl) ?_
      refine rr_rdVp (rest := []) F hK (c_X7_thrown l D cy (w 0 0) (w 0 1) (w 0 2) (w 0 3) (w 0 4) (w 0 5) (w 0 6) 2 ct tl) hP (pm_m0 cy u w out tl tc ol ct 2 fv a G ak Gk As Gs Ah Gh th ap asl of tl tc ct a fv) sf_X7_thrown tw902 7 rfl rfl ⟨Nat.le_of_ble_eq_true rfl, Nat.le_of_ble_eq_true rfl⟩ hl rfl (Nat.le_of_ble_eq_true rfl) dL_law_1216 ⟨by show cells + 1 ≤ 601024; omega, by show slots + 6 ≤ 7293033; omega⟩ ?_
      refine lv_iload F.1 F.2.1 dL_law_1219 (lv_at hl 1 rfl) ?_
      refine rr_icmp_eq F (tgt := 1226) dL_law_1221 (by decide) ⟨by omega, by omega⟩ ⟨by omega, by omega⟩ (fun _ => ?_) (fun z => absurd rfl z)
      refine lv_iload F.1 F.2.1 dL_law_1226 (lv_at hl 1 rfl) ?_
      refine rr_if_ne F (tgt := 1243) dL_law_1228 (by decide) ⟨by omega, by omega⟩ (fun _ => ?_) (fun z => by omega)
      refine lv_goto (tgt := 2055) F.1 F.2.1 dL_law_1243 (by decide) ?_
      exact kk _ _ _ _ _ _ _ _ _ _ _ _ _ _ _ _ _ _ H locs ls (hI.mono (by omega)) hP hD hS (lv_sub hl [2, 3, 4, 5, 6] rfl)
  · refine rr_twS (rest := []) F hK hX hZ1 (r_addWalker_21 l hnt D cy sa (u 0 0) (u 1 0) (u 3 0) (u 4 0) (u 0 1) (u 0 2) (u 2 0) (u 2 6) (a 96) (a 117) (u 2 1) (u 2 2) (a 0) (G 0) (rq a) (u 2 3) (u 2 4) (u 2 5) (a 25) (G 6) (G 7) (rbl a) (rbc a) (XI xs (i + 1)) (XI xs (i + 2)) (XI xs (i + 3)) (XI xs (i + 4)) out (SB.rg hZ) (SB.bk hZ) (XI_r _ _) (XI_r _ _) (XI_r _ _) (XI_r _ _) (by first | assumption | omega | exact ⟨by omega, by omega⟩)) hP hS sfw_addWalker tw675 ⟨Nat.le_of_ble_eq_true rfl, Nat.le_of_ble_eq_true rfl⟩ hl rfl (Nat.le_of_ble_eq_true rfl) dL_law_1180 ⟨by show cells + 1 ≤ 601024; omega, by show slots + 6 ≤ 7293033; omega⟩ (pm_cAB cy u w out tl tc ol ct tr fv a G ak Gk As Gs Ah Gh th ap asl of tl tc ct a fv) (fun H locs hP hS _ => ?_)
    refine lv_istore (lv' := [(5, vI 1), (4, vI i), (3, .ref out), (2, .ref (w 0 0)), (1, .ref (u 0 0)), (0, .ref b)]) F.1 F.2.1 dL_law_1183 hl (by decide) rfl (fun ls hl => ?_)
    refine lv_aload_n F.1 F.2.1 dL_law_1185 rfl (lv_at hl 3 rfl) ?_
    refine lv_aload_n F.1 F.2.1 dL_law_1186 rfl (lv_at hl 5 rfl) ?_
    refine lv_iload F.1 F.2.1 dL_law_1187 (lv_at hl 1 rfl) ?_
    refine rr_iconst F dL_law_1189 ?_
    refine rr_iadd F (z := i + 1) dL_law_1190 rfl ?_
    refine rr_sld F (A := fun q => s.heap.size ≤ q) hxs hb hbA hS (by omega) (by omega) hL dL_law_1191 ?_
    refine lv_aload_n F.1 F.2.1 dL_law_1192 rfl (lv_at hl 5 rfl) ?_
    refine lv_iload F.1 F.2.1 dL_law_1193 (lv_at hl 1 rfl) ?_
    refine rr_iconst F dL_law_1195 ?_
    refine rr_iadd F (z := i + 2) dL_law_1196 rfl ?_
    refine rr_sld F (A := fun q => s.heap.size ≤ q) hxs hb hbA hS (by omega) (by omega) hL dL_law_1197 ?_
    refine lv_aload_n F.1 F.2.1 dL_law_1198 rfl (lv_at hl 5 rfl) ?_
    refine lv_iload F.1 F.2.1 dL_law_1199 (lv_at hl 1 rfl) ?_
    refine rr_iconst F dL_law_1201 ?_
    refine rr_iadd F (z := i + 3) dL_law_1202 rfl ?_
    refine rr_sld F (A := fun q => s.heap.size ≤ q) hxs hb hbA hS (by omega) (by omega) hL dL_law_1203 ?_
    refine lv_aload_n F.1 F.2.1 dL_law_1204 rfl (lv_at hl 5 rfl) ?_
    refine lv_iload F.1 F.2.1 dL_law_1205 (lv_at hl 1 rfl) ?_
    refine rr_iconst F dL_law_1207 ?_
    refine rr_iadd F (z := i + 4) dL_law_1208 rfl ?_
    refine rr_sld F (A := fun q => s.heap.size ≤ q) hxs hb hbA hS (by omega) (by omega) hL dL_law_1209 ?_
    have hcode : (if (0 ≤ (XI xs (i + 1)) ∧ (XI xs (i + 1)) < a 0) ∧ (0 ≤ (XI xs (i + 2)) ∧ (XI xs (i + 2)) ≤ 1) then (if (1 ≤ (XI xs (i + 3)) ∧ (XI xs (i + 3)) ≤ 3) ∧ (1 ≤ (XI xs (i + 4)) ∧ (XI xs (i + 4)) ≤ 5) then 3 else 2) else 1 : Int) = 1 := by first | rfl | ((repeat' split) <;> first | rfl | omega)
    refine rr_wrVp (rest := []) F hK (n_X7_addWalker l D cy (w 0 0) (w 0 1) (w 0 2) (w 0 3) (w 0 4) (w 0 5) (w 0 6) tr ct tl a ap (XI xs (i + 1)) (XI xs (i + 2)) (XI xs (i + 3)) (XI xs (i + 4)) hM hct (XI_r _ _) (XI_r _ _) (XI_r _ _) (XI_r _ _) (by first | assumption | omega)) hP hD hS hA sf_X7_addWalker tw1142 7 rfl rfl ⟨Nat.le_of_ble_eq_true rfl, Nat.le_of_ble_eq_true rfl⟩ hl rfl (Nat.le_of_ble_eq_true rfl) dL_law_1210 ⟨by show cells + 1 ≤ 601024; omega, by show slots + 6 ≤ 7293033; omega⟩ (pm_mNP cy u w out tl tc ol ct tr fv a G ak Gk As Gs Ah Gh th ap asl of tl tc ct a fv) rfl (fun H locs hP hD hS _ => ?_)
    have hP : va_P D vwCl (LW cy u w out tl tc ol ct (if (0 ≤ (XI xs (i + 1)) ∧ (XI xs (i + 1)) < a 0) ∧ (0 ≤ (XI xs (i + 2)) ∧ (XI xs (i + 2)) ≤ 1) then (if (1 ≤ (XI xs (i + 3)) ∧ (XI xs (i + 3)) ≤ 3) ∧ (1 ≤ (XI xs (i + 4)) ∧ (XI xs (i + 4)) ≤ 5) then 3 else 2) else 1) fv a G ak Gk As Gs Ah Gh th ap asl of tl tc ct a fv) H := hP.perm ((pm_mNP cy u w out tl tc ol ct (if (0 ≤ (XI xs (i + 1)) ∧ (XI xs (i + 1)) < a 0) ∧ (0 ≤ (XI xs (i + 2)) ∧ (XI xs (i + 2)) ≤ 1) then (if (1 ≤ (XI xs (i + 3)) ∧ (XI xs (i + 3)) ≤ 3) ∧ (1 ≤ (XI xs (i + 4)) ∧ (XI xs (i + 4)) ≤ 5) then 3 else 2) else 1) fv a G ak Gk As Gs Ah Gh th ap asl of tl tc ct a fv).symm)
    have hD : va_D (fun q => s.heap.size ≤ q) (LW cy u w out tl tc ol ct (if (0 ≤ (XI xs (i + 1)) ∧ (XI xs (i + 1)) < a 0) ∧ (0 ≤ (XI xs (i + 2)) ∧ (XI xs (i + 2)) ≤ 1) then (if (1 ≤ (XI xs (i + 3)) ∧ (XI xs (i + 3)) ≤ 3) ∧ (1 ≤ (XI xs (i + 4)) ∧ (XI xs (i + 4)) ≤ 5) then 3 else 2) else 1) fv a G ak Gk As Gs Ah Gh th ap asl of tl tc ct a fv) := hD.perm ((pm_mNP cy u w out tl tc ol ct (if (0 ≤ (XI xs (i + 1)) ∧ (XI xs (i + 1)) < a 0) ∧ (0 ≤ (XI xs (i + 2)) ∧ (XI xs (i + 2)) ≤ 1) then (if (1 ≤ (XI xs (i + 3)) ∧ (XI xs (i + 3)) ≤ 3) ∧ (1 ≤ (XI xs (i + 4)) ∧ (XI xs (i + 4)) ≤ 5) then 3 else 2) else 1) fv a G ak Gk As Gs Ah Gh th ap asl of tl tc ct a fv).symm)
    rw [hcode] at hP hD
    refine lv_istore (lv' := [(6, vI 0), (5, vI 1), (4, vI i), (3, .ref out), (2, .ref (w 0 0)), (1, .ref (u 0 0)), (0, .ref b)]) F.1 F.2.1 dL_law_1213 hl (by decide) rfl (fun ls hl => ?_)
    refine lv_aload_n F.1 F.2.1 dL_law_1215 rfl (lv_at hl 4 rfl) ?_
    refine rr_rdVp (rest := []) F hK (c_X7_thrown l D cy (w 0 0) (w 0 1) (w 0 2) (w 0 3) (w 0 4) (w 0 5) (w 0 6) 1 ct tl) hP (pm_m0 cy u w out tl tc ol ct 1 fv a G ak Gk As Gs Ah Gh th ap asl of tl tc ct a fv) sf_X7_thrown tw902 7 rfl rfl ⟨Nat.le_of_ble_eq_true rfl, Nat.le_of_ble_eq_true rfl⟩ hl rfl (Nat.le_of_ble_eq_true rfl) dL_law_1216 ⟨by show cells + 1 ≤ 601024; omega, by show slots + 6 ≤ 7293033; omega⟩ ?_
    refine lv_iload F.1 F.2.1 dL_law_1219 (lv_at hl 1 rfl) ?_
    refine rr_icmp_eq F (tgt := 1226) dL_law_1221 (by decide) ⟨by omega, by omega⟩ ⟨by omega, by omega⟩ (fun _ => ?_) (fun z => absurd rfl z)
    refine lv_iload F.1 F.2.1 dL_law_1226 (lv_at hl 1 rfl) ?_
    refine rr_if_ne F (tgt := 1243) dL_law_1228 (by decide) ⟨by omega, by omega⟩ (fun _ => ?_) (fun z => by omega)
    refine lv_goto (tgt := 2055) F.1 F.2.1 dL_law_1243 (by decide) ?_
    exact kk _ _ _ _ _ _ _ _ _ _ _ _ _ _ _ _ _ _ H locs ls (hI.mono (by omega)) hP hD hS (lv_sub hl [2, 3, 4, 5, 6] rfl)
set_option maxRecDepth 100000 in
set_option maxHeartbeats 8000000 in
theorem lc_turn {p : Program} {l : Launch} {e : Env} {s : State} {m : MethodId} {args : Array Value} {below : List Frame} {meth : Method} {c : Code} {Q : State → Prop} {b L : Nat} {xs : Nat → Int32} {D : va_G} {cy : Nat → ClassId} {sa : Nat → Nat} {u w : NU} {out : Nat} (hnt : l.stackTraces = false) (F : FX p m c cL_law 7 s args RL) (hK : KK D cy s) (hX : XK sa s) (hZ0 : ZK (fun q => s.heap.size ≤ q) s s.heap) (hxs : va_X b L xs s s.heap) (hb : b < s.heap.size) (hL : L ≤ 2560) {N : Int} {tl : Int} {tc : Int → Int} {ol : Int} {ct : Int} {tr : Int} {fv : Int → Int} {a : Int → Int} {G : Int → Int → Int} {ak : Int → Int} {Gk : Int → Int → Int} {As : Nat → Int → Int} {Gs : Nat → Int → Int → Int} {Ah : Nat → Int → Int} {Gh : Nat → Int → Int → Int} {th : Int → Int} {ap : Int → Int} {asl : Int → Int} {of : Nat → Int64} (hI : INV N tl tc ol ct fv a G As Gs Ah Gh ap asl) (hN : 0 ≤ N ∧ N ≤ 80000000) {i : Int} (hi : 0 ≤ i ∧ i + 5 ≤ L) {H : Heap} {locs : List Loc} {cells slots : Nat} {ls : Array Slot} (hP : va_P D vwCl (LW cy u w out tl tc ol ct tr fv a G ak Gk As Gs Ah Gh th ap asl of tl tc ct a fv) H) (hD : va_D (fun q => s.heap.size ≤ q) (LW cy u w out tl tc ol ct tr fv a G ak Gk As Gs Ah Gh th ap asl of tl tc ct a fv)) (hS : va_S (fun q => s.heap.size ≤ q) s.heap H locs) (hl : lv_has ls 7 [(4, vI i), (3, .ref out), (2, .ref (w 0 0)), (1, .ref (u 0 0)), (0, .ref b)]) (hc : cells + 1 ≤ 601024 ∧ slots + 6 ≤ 7293033) (kk : LK p l e s m args below meth c D cy u w out b (N + 50) i (cells + 1) (slots + 6) Q) : W p l e room_1 s m args below meth c H locs cells slots Q (F0 m 1246 ls []) := by
  have hT := hI.1
  obtain ⟨hZ, hSV, hsp0, hsp1⟩ := hI.2.1
  have hM := SB.mr hZ
  have hn0 := hM.n
  have hw0 := hM.nw
  have hc0 := hM.wc
  have hol := hI.2.2.1
  have hct := hI.2.2.2.1
  have hbA : ¬ (fun q => s.heap.size ≤ q) b := Nat.not_le.mpr hb
  have hA : ∀ q, s.heap.size ≤ q → (fun q => s.heap.size ≤ q) q := fun q h => h
  have hZ1 : ZK nA s H := (hZ0.kept (fun a h1 h2 => hS.2.1 a h1 h2)).narrow (fun _ h => h.elim)
  refine lv_aload_n F.1 F.2.1 dL_law_1246 rfl (lv_at hl 3 rfl) ?_
  refine lv_aload_n F.1 F.2.1 dL_law_1247 rfl (lv_at hl 4 rfl) ?_
  refine lv_iload F.1 F.2.1 dL_law_1248 (lv_at hl 0 rfl) ?_
  refine rr_iconst F dL_law_1250 ?_
  refine rr_iadd F (z := i + 1) dL_law_1251 rfl ?_
  refine rr_sld F (A := fun q => s.heap.size ≤ q) hxs hb hbA hS (by omega) (by omega) hL dL_law_1252 ?_
  refine lv_aload_n F.1 F.2.1 dL_law_1253 rfl (lv_at hl 1 rfl) ?_
  have hb_1 := XI_b xs (i + 1)
  by_cases hx0 : 0 ≤ (XI xs (i + 1)) ∧ (XI xs (i + 1)) < a 96
  · refine W.widen (k := cells + 1) (n := slots + 6) (by omega) (by omega) ?_
    have hvr : inR (cnt (bit ((GTur a G (XI xs (i + 1))) 5 (XI xs (i + 1)))) 24) := cnt24_r _
    have hrr : ((ol + ct) % 14).toNat < 14 := by omega
    refine rr_wwS (rest := []) F hK (w_turn l D cy (u 0 0) (u 1 0) (u 3 0) (u 0 1) (u 0 2) (u 4 0) (u 4 1) (fun i => u (Int.toNat i + 7) 0) ol ct (u 2 0) (u 2 1) (u 2 2) (u 2 3) (u 2 4) (u 2 5) (u 2 6) (fun i => u 2 (7 + Int.toNat i)) (u (((ol + ct) % 14).toNat + 7) 0) (u (((ol + ct) % 14).toNat + 7) 1) (u (((ol + ct) % 14).toNat + 7) 2) (u (((ol + ct) % 14).toNat + 7) 3) (u (((ol + ct) % 14).toNat + 7) 4) (u (((ol + ct) % 14).toNat + 7) 5) (u (((ol + ct) % 14).toNat + 7) 6) (fun i => u (((ol + ct) % 14).toNat + 7) (7 + Int.toNat i)) a (Ah ((ol + ct) % 14).toNat) G (Gh ((ol + ct) % 14).toNat) (XI xs (i + 1)) out of hol hct rfl hZ (by first | assumption | omega | exact ⟨by omega, by omega⟩) hvr) hP hD hS hA sfw_turn tw706 ⟨Nat.le_of_ble_eq_true rfl, Nat.le_of_ble_eq_true rfl⟩ hl rfl (Nat.le_of_ble_eq_true rfl) dL_law_1254 ⟨by show cells + 1 ≤ 601024; omega, by show slots + 6 ≤ 7293033; omega⟩ (pm_h cy u w out tl tc ol ct tr fv a G ak Gk As Gs Ah Gh th ap asl of tl tc ct a fv ((ol + ct) % 14).toNat hrr) rfl (fun H locs hP hD hS _ => ?_)
    have hP : va_P D vwCl (LW cy u w out tl tc (if ct < 14 then ol else (ol + 1) % 14) (if ct < 14 then ct + 1 else ct) tr fv (turR a (XI xs (i + 1))) (GTur a G (XI xs (i + 1))) ak Gk As Gs (upN Ah ((ol + ct) % 14).toNat a) (upN Gh ((ol + ct) % 14).toNat G) th ap asl (vp_updL of 0 (lI (cnt (bit ((GTur a G (XI xs (i + 1))) 5 (XI xs (i + 1)))) 24))) tl tc ct a fv) H := hP.perm ((po_h cy u w out tl tc (if ct < 14 then ol else (ol + 1) % 14) (if ct < 14 then ct + 1 else ct) tr fv (turR a (XI xs (i + 1))) (GTur a G (XI xs (i + 1))) ak Gk As Gs (upN Ah ((ol + ct) % 14).toNat a) (upN Gh ((ol + ct) % 14).toNat G) th ap asl (vp_updL of 0 (lI (cnt (bit ((GTur a G (XI xs (i + 1))) 5 (XI xs (i + 1)))) 24))) tl tc ct a fv Ah Gh ((ol + ct) % 14).toNat hrr upN_s upN_s (fun j z => ⟨upN_n z, upN_n z⟩)))
    have hD : va_D (fun q => s.heap.size ≤ q) (LW cy u w out tl tc (if ct < 14 then ol else (ol + 1) % 14) (if ct < 14 then ct + 1 else ct) tr fv (turR a (XI xs (i + 1))) (GTur a G (XI xs (i + 1))) ak Gk As Gs (upN Ah ((ol + ct) % 14).toNat a) (upN Gh ((ol + ct) % 14).toNat G) th ap asl (vp_updL of 0 (lI (cnt (bit ((GTur a G (XI xs (i + 1))) 5 (XI xs (i + 1)))) 24))) tl tc ct a fv) := hD.perm ((po_h cy u w out tl tc (if ct < 14 then ol else (ol + 1) % 14) (if ct < 14 then ct + 1 else ct) tr fv (turR a (XI xs (i + 1))) (GTur a G (XI xs (i + 1))) ak Gk As Gs (upN Ah ((ol + ct) % 14).toNat a) (upN Gh ((ol + ct) % 14).toNat G) th ap asl (vp_updL of 0 (lI (cnt (bit ((GTur a G (XI xs (i + 1))) 5 (XI xs (i + 1)))) 24))) tl tc ct a fv Ah Gh ((ol + ct) % 14).toNat hrr upN_s upN_s (fun j z => ⟨upN_n z, upN_n z⟩)))
    refine lv_istore (lv' := [(5, vI 0), (4, vI i), (3, .ref out), (2, .ref (w 0 0)), (1, .ref (u 0 0)), (0, .ref b)]) F.1 F.2.1 dL_law_1257 hl (by decide) rfl (fun ls hl => ?_)
    refine lv_aload_n F.1 F.2.1 dL_law_1259 rfl (lv_at hl 3 rfl) ?_
    refine lv_aload_n F.1 F.2.1 dL_law_1260 rfl (lv_at hl 5 rfl) ?_
    refine lv_iload F.1 F.2.1 dL_law_1261 (lv_at hl 1 rfl) ?_
    refine rr_iconst F dL_law_1263 ?_
    refine rr_iadd F (z := i + 1) dL_law_1264 rfl ?_
    refine rr_sld F (A := fun q => s.heap.size ≤ q) hxs hb hbA hS (by omega) (by omega) hL dL_law_1265 ?_
    refine rr_wrVp (rest := []) F hK (c_X7_turn l D cy (w 0 0) (w 0 1) (w 0 2) (w 0 3) (w 0 4) (w 0 5) (w 0 6) tr ct tl a ap (XI xs (i + 1)) hM hct (XI_r _ _) (by first | assumption | omega | exact ⟨by omega, by omega⟩)) hP hD hS hA sf_X7_turn tw1152 7 rfl rfl ⟨Nat.le_of_ble_eq_true rfl, Nat.le_of_ble_eq_true rfl⟩ hl rfl (Nat.le_of_ble_eq_true rfl) dL_law_1266 ⟨by show cells + 1 ≤ 601024; omega, by show slots + 6 ≤ 7293033; omega⟩ (pm_mNP cy u w out tl tc (if ct < 14 then ol else (ol + 1) % 14) (if ct < 14 then ct + 1 else ct) tr fv (turR a (XI xs (i + 1))) (GTur a G (XI xs (i + 1))) ak Gk As Gs (upN Ah ((ol + ct) % 14).toNat a) (upN Gh ((ol + ct) % 14).toNat G) th ap asl (vp_updL of 0 (lI (cnt (bit ((GTur a G (XI xs (i + 1))) 5 (XI xs (i + 1)))) 24))) tl tc ct a fv) rfl (fun H locs hP hD hS _ => ?_)
    have hP : va_P D vwCl (LW cy u w out tl tc (if ct < 14 then ol else (ol + 1) % 14) (if ct < 14 then ct + 1 else ct) 0 fv (turR a (XI xs (i + 1))) (GTur a G (XI xs (i + 1))) ak Gk As Gs (upN Ah ((ol + ct) % 14).toNat a) (upN Gh ((ol + ct) % 14).toNat G) th (remA a ap ct) asl (vp_updL of 0 (lI (cnt (bit ((GTur a G (XI xs (i + 1))) 5 (XI xs (i + 1)))) 24))) tl tc (remN ct) (turR a (XI xs (i + 1))) fv) H := hP.perm ((pm_mNP cy u w out tl tc (if ct < 14 then ol else (ol + 1) % 14) (if ct < 14 then ct + 1 else ct) 0 fv (turR a (XI xs (i + 1))) (GTur a G (XI xs (i + 1))) ak Gk As Gs (upN Ah ((ol + ct) % 14).toNat a) (upN Gh ((ol + ct) % 14).toNat G) th (remA a ap ct) asl (vp_updL of 0 (lI (cnt (bit ((GTur a G (XI xs (i + 1))) 5 (XI xs (i + 1)))) 24))) tl tc (remN ct) (turR a (XI xs (i + 1))) fv).symm)
    have hD : va_D (fun q => s.heap.size ≤ q) (LW cy u w out tl tc (if ct < 14 then ol else (ol + 1) % 14) (if ct < 14 then ct + 1 else ct) 0 fv (turR a (XI xs (i + 1))) (GTur a G (XI xs (i + 1))) ak Gk As Gs (upN Ah ((ol + ct) % 14).toNat a) (upN Gh ((ol + ct) % 14).toNat G) th (remA a ap ct) asl (vp_updL of 0 (lI (cnt (bit ((GTur a G (XI xs (i + 1))) 5 (XI xs (i + 1)))) 24))) tl tc (remN ct) (turR a (XI xs (i + 1))) fv) := hD.perm ((pm_mNP cy u w out tl tc (if ct < 14 then ol else (ol + 1) % 14) (if ct < 14 then ct + 1 else ct) 0 fv (turR a (XI xs (i + 1))) (GTur a G (XI xs (i + 1))) ak Gk As Gs (upN Ah ((ol + ct) % 14).toNat a) (upN Gh ((ol + ct) % 14).toNat G) th (remA a ap ct) asl (vp_updL of 0 (lI (cnt (bit ((GTur a G (XI xs (i + 1))) 5 (XI xs (i + 1)))) 24))) tl tc (remN ct) (turR a (XI xs (i + 1))) fv).symm)
    rw [remN_ct hct] at hP hD
    have hP : va_P D vwCl (LW cy u w out tl tc (if ct < 14 then ol else (ol + 1) % 14) (if ct < 14 then ct + 1 else ct) 0 fv (turR a (XI xs (i + 1))) (GTur a G (XI xs (i + 1))) ak Gk As Gs (upN Ah ((ol + ct) % 14).toNat a) (upN Gh ((ol + ct) % 14).toNat G) th (remA a ap ct) asl (vp_updL of 0 (lI (cnt (bit ((GTur a G (XI xs (i + 1))) 5 (XI xs (i + 1)))) 24))) tl tc (if ct < 14 then ct + 1 else ct) (turR a (XI xs (i + 1))) fv) H := hP
    have hD : va_D (fun q => s.heap.size ≤ q) (LW cy u w out tl tc (if ct < 14 then ol else (ol + 1) % 14) (if ct < 14 then ct + 1 else ct) 0 fv (turR a (XI xs (i + 1))) (GTur a G (XI xs (i + 1))) ak Gk As Gs (upN Ah ((ol + ct) % 14).toNat a) (upN Gh ((ol + ct) % 14).toNat G) th (remA a ap ct) asl (vp_updL of 0 (lI (cnt (bit ((GTur a G (XI xs (i + 1))) 5 (XI xs (i + 1)))) 24))) tl tc (if ct < 14 then ct + 1 else ct) (turR a (XI xs (i + 1))) fv) := hD
    rw [show (cnt (bit (bor (a (97 + 5 * (XI xs (i + 1)) + 4)) (vw (a 0) (a (97 + 5 * (XI xs (i + 1)) + 0)) (1 - a (97 + 5 * (XI xs (i + 1)) + 1)) (a (97 + 5 * (XI xs (i + 1)) + 3))))) 24 : Int) = (cnt (bit ((GTur a G (XI xs (i + 1))) 5 (XI xs (i + 1)))) 24) from lk_turn hZ (by omega)]
    refine lv_istore (lv' := [(6, vI (cnt (bit ((GTur a G (XI xs (i + 1))) 5 (XI xs (i + 1)))) 24)), (5, vI 0), (4, vI i), (3, .ref out), (2, .ref (w 0 0)), (1, .ref (u 0 0)), (0, .ref b)]) F.1 F.2.1 dL_law_1269 hl (by decide) rfl (fun ls hl => ?_)
    refine lv_aload_n F.1 F.2.1 dL_law_1271 rfl (lv_at hl 4 rfl) ?_
    refine rr_rdVp (rest := []) F hK (c_X7_thrown l D cy (w 0 0) (w 0 1) (w 0 2) (w 0 3) (w 0 4) (w 0 5) (w 0 6) 0 (if ct < 14 then ct + 1 else ct) tl) hP (pm_m0 cy u w out tl tc (if ct < 14 then ol else (ol + 1) % 14) (if ct < 14 then ct + 1 else ct) 0 fv (turR a (XI xs (i + 1))) (GTur a G (XI xs (i + 1))) ak Gk As Gs (upN Ah ((ol + ct) % 14).toNat a) (upN Gh ((ol + ct) % 14).toNat G) th (remA a ap ct) asl (vp_updL of 0 (lI (cnt (bit ((GTur a G (XI xs (i + 1))) 5 (XI xs (i + 1)))) 24))) tl tc (if ct < 14 then ct + 1 else ct) (turR a (XI xs (i + 1))) fv) sf_X7_thrown tw902 7 rfl rfl ⟨Nat.le_of_ble_eq_true rfl, Nat.le_of_ble_eq_true rfl⟩ hl rfl (Nat.le_of_ble_eq_true rfl) dL_law_1272 ⟨by show cells + 1 ≤ 601024; omega, by show slots + 6 ≤ 7293033; omega⟩ ?_
    refine lv_iload F.1 F.2.1 dL_law_1275 (lv_at hl 1 rfl) ?_
    refine rr_icmp_eq F (tgt := 1282) dL_law_1277 (by decide) ⟨by omega, by omega⟩ ⟨by omega, by omega⟩ (fun _ => ?_) (fun z => absurd rfl z)
    refine lv_iload F.1 F.2.1 dL_law_1282 (lv_at hl 1 rfl) ?_
    refine rr_if_ne F (tgt := 1299) dL_law_1284 (by decide) ⟨by omega, by omega⟩ (fun z => absurd rfl z) (fun _ => ?_)
    refine lv_aload_n F.1 F.2.1 dL_law_1287 rfl (lv_at hl 3 rfl) ?_
    refine rr_iconst F dL_law_1288 ?_
    refine rr_lald0 F hK (hP.perm (pm_o cy u w out tl tc (if ct < 14 then ol else (ol + 1) % 14) (if ct < 14 then ct + 1 else ct) 0 fv (turR a (XI xs (i + 1))) (GTur a G (XI xs (i + 1))) ak Gk As Gs (upN Ah ((ol + ct) % 14).toNat a) (upN Gh ((ol + ct) % 14).toNat G) th (remA a ap ct) asl (vp_updL of 0 (lI (cnt (bit ((GTur a G (XI xs (i + 1))) 5 (XI xs (i + 1)))) 24))) tl tc (if ct < 14 then ct + 1 else ct) (turR a (XI xs (i + 1))) fv)) 0 rfl dL_law_1289 ?_
    refine lv_iload F.1 F.2.1 dL_law_1290 (lv_at hl 0 rfl) ?_
    refine rr_i2l F dL_law_1292 hvr ?_
    refine rr_lcmp F (a := cnt (bit ((GTur a G (XI xs (i + 1))) 5 (XI xs (i + 1)))) 24) (b := cnt (bit ((GTur a G (XI xs (i + 1))) 5 (XI xs (i + 1)))) 24) dL_law_1293 (inL_r hvr) (inL_r hvr) ?_
    refine rr_if_eq F (tgt := 1299) dL_law_1294 (by decide) (lcm_r _ _) (fun _ => ?_) (fun z => absurd ((lcm_spec _ _).2.1.mpr rfl) z)
    refine lv_goto (tgt := 2055) F.1 F.2.1 dL_law_1299 (by decide) ?_
    exact kk _ _ _ _ _ _ _ _ _ _ _ _ _ _ _ _ _ _ H locs ls (hI.rem (by omega) (GD_tur hI.2.1 (by omega) (by omega))) hP hD hS (lv_sub hl [2, 3, 4, 5, 6] rfl)
  · refine rr_twS (rest := []) F hK hX hZ1 (r_turn_11 l hnt D cy sa (u 0 0) (u 1 0) (u 2 0) (u 3 0) (u 4 0) (u 0 1) (u 0 2) (u 2 1) (u 2 3) (u 2 6) (a 96) (a 117) (XI xs (i + 1)) out hM.wc (XI_r _ _) (by first | assumption | omega | exact ⟨by omega, by omega⟩)) hP hS sfw_turn tw706 ⟨Nat.le_of_ble_eq_true rfl, Nat.le_of_ble_eq_true rfl⟩ hl rfl (Nat.le_of_ble_eq_true rfl) dL_law_1254 ⟨by show cells + 1 ≤ 601024; omega, by show slots + 6 ≤ 7293033; omega⟩ (pm_cA cy u w out tl tc ol ct tr fv a G ak Gk As Gs Ah Gh th ap asl of tl tc ct a fv) (fun H locs hP hS _ => ?_)
    refine lv_istore (lv' := [(5, vI 1), (4, vI i), (3, .ref out), (2, .ref (w 0 0)), (1, .ref (u 0 0)), (0, .ref b)]) F.1 F.2.1 dL_law_1257 hl (by decide) rfl (fun ls hl => ?_)
    refine lv_aload_n F.1 F.2.1 dL_law_1259 rfl (lv_at hl 3 rfl) ?_
    refine lv_aload_n F.1 F.2.1 dL_law_1260 rfl (lv_at hl 5 rfl) ?_
    refine lv_iload F.1 F.2.1 dL_law_1261 (lv_at hl 1 rfl) ?_
    refine rr_iconst F dL_law_1263 ?_
    refine rr_iadd F (z := i + 1) dL_law_1264 rfl ?_
    refine rr_sld F (A := fun q => s.heap.size ≤ q) hxs hb hbA hS (by omega) (by omega) hL dL_law_1265 ?_
    have hcode : (1 : Int) = 1 := by first | rfl | ((repeat' split) <;> first | rfl | omega)
    refine rr_wrVp (rest := []) F hK (n_X7_turn l D cy (w 0 0) (w 0 1) (w 0 2) (w 0 3) (w 0 4) (w 0 5) (w 0 6) tr ct tl a ap (XI xs (i + 1)) hM hct (XI_r _ _) (by first | assumption | omega)) hP hD hS hA sf_X7_turn tw1152 7 rfl rfl ⟨Nat.le_of_ble_eq_true rfl, Nat.le_of_ble_eq_true rfl⟩ hl rfl (Nat.le_of_ble_eq_true rfl) dL_law_1266 ⟨by show cells + 1 ≤ 601024; omega, by show slots + 6 ≤ 7293033; omega⟩ (pm_mNP cy u w out tl tc ol ct tr fv a G ak Gk As Gs Ah Gh th ap asl of tl tc ct a fv) rfl (fun H locs hP hD hS _ => ?_)
    have hP : va_P D vwCl (LW cy u w out tl tc ol ct 1 fv a G ak Gk As Gs Ah Gh th ap asl of tl tc ct a fv) H := hP.perm ((pm_mNP cy u w out tl tc ol ct 1 fv a G ak Gk As Gs Ah Gh th ap asl of tl tc ct a fv).symm)
    have hD : va_D (fun q => s.heap.size ≤ q) (LW cy u w out tl tc ol ct 1 fv a G ak Gk As Gs Ah Gh th ap asl of tl tc ct a fv) := hD.perm ((pm_mNP cy u w out tl tc ol ct 1 fv a G ak Gk As Gs Ah Gh th ap asl of tl tc ct a fv).symm)
    refine lv_istore (lv' := [(6, vI 0), (5, vI 1), (4, vI i), (3, .ref out), (2, .ref (w 0 0)), (1, .ref (u 0 0)), (0, .ref b)]) F.1 F.2.1 dL_law_1269 hl (by decide) rfl (fun ls hl => ?_)
    refine lv_aload_n F.1 F.2.1 dL_law_1271 rfl (lv_at hl 4 rfl) ?_
    refine rr_rdVp (rest := []) F hK (c_X7_thrown l D cy (w 0 0) (w 0 1) (w 0 2) (w 0 3) (w 0 4) (w 0 5) (w 0 6) 1 ct tl) hP (pm_m0 cy u w out tl tc ol ct 1 fv a G ak Gk As Gs Ah Gh th ap asl of tl tc ct a fv) sf_X7_thrown tw902 7 rfl rfl ⟨Nat.le_of_ble_eq_true rfl, Nat.le_of_ble_eq_true rfl⟩ hl rfl (Nat.le_of_ble_eq_true rfl) dL_law_1272 ⟨by show cells + 1 ≤ 601024; omega, by show slots + 6 ≤ 7293033; omega⟩ ?_
    refine lv_iload F.1 F.2.1 dL_law_1275 (lv_at hl 1 rfl) ?_
    refine rr_icmp_eq F (tgt := 1282) dL_law_1277 (by decide) ⟨by omega, by omega⟩ ⟨by omega, by omega⟩ (fun _ => ?_) (fun z => absurd rfl z)
    refine lv_iload F.1 F.2.1 dL_law_1282 (lv_at hl 1 rfl) ?_
    refine rr_if_ne F (tgt := 1299) dL_law_1284 (by decide) ⟨by omega, by omega⟩ (fun _ => ?_) (fun z => by omega)
    refine lv_goto (tgt := 2055) F.1 F.2.1 dL_law_1299 (by decide) ?_
    exact kk _ _ _ _ _ _ _ _ _ _ _ _ _ _ _ _ _ _ H locs ls (hI.mono (by omega)) hP hD hS (lv_sub hl [2, 3, 4, 5, 6] rfl)
set_option maxRecDepth 100000 in
set_option maxHeartbeats 8000000 in
theorem lc_go {p : Program} {l : Launch} {e : Env} {s : State} {m : MethodId} {args : Array Value} {below : List Frame} {meth : Method} {c : Code} {Q : State → Prop} {b L : Nat} {xs : Nat → Int32} {D : va_G} {cy : Nat → ClassId} {sa : Nat → Nat} {u w : NU} {out : Nat} (hnt : l.stackTraces = false) (F : FX p m c cL_law 7 s args RL) (hK : KK D cy s) (hX : XK sa s) (hZ0 : ZK (fun q => s.heap.size ≤ q) s s.heap) (hxs : va_X b L xs s s.heap) (hb : b < s.heap.size) (hL : L ≤ 2560) {N : Int} {tl : Int} {tc : Int → Int} {ol : Int} {ct : Int} {tr : Int} {fv : Int → Int} {a : Int → Int} {G : Int → Int → Int} {ak : Int → Int} {Gk : Int → Int → Int} {As : Nat → Int → Int} {Gs : Nat → Int → Int → Int} {Ah : Nat → Int → Int} {Gh : Nat → Int → Int → Int} {th : Int → Int} {ap : Int → Int} {asl : Int → Int} {of : Nat → Int64} (hI : INV N tl tc ol ct fv a G As Gs Ah Gh ap asl) (hN : 0 ≤ N ∧ N ≤ 80000000) {i : Int} (hi : 0 ≤ i ∧ i + 5 ≤ L) {H : Heap} {locs : List Loc} {cells slots : Nat} {ls : Array Slot} (hP : va_P D vwCl (LW cy u w out tl tc ol ct tr fv a G ak Gk As Gs Ah Gh th ap asl of tl tc ct a fv) H) (hD : va_D (fun q => s.heap.size ≤ q) (LW cy u w out tl tc ol ct tr fv a G ak Gk As Gs Ah Gh th ap asl of tl tc ct a fv)) (hS : va_S (fun q => s.heap.size ≤ q) s.heap H locs) (hl : lv_has ls 7 [(4, vI i), (3, .ref out), (2, .ref (w 0 0)), (1, .ref (u 0 0)), (0, .ref b)]) (hc : cells + 1 ≤ 601024 ∧ slots + 6 ≤ 7293033) (kk : LK p l e s m args below meth c D cy u w out b (N + 50) i (cells + 1) (slots + 6) Q) : W p l e room_1 s m args below meth c H locs cells slots Q (F0 m 1302 ls []) := by
  have hT := hI.1
  obtain ⟨hZ, hSV, hsp0, hsp1⟩ := hI.2.1
  have hM := SB.mr hZ
  have hn0 := hM.n
  have hw0 := hM.nw
  have hc0 := hM.wc
  have hol := hI.2.2.1
  have hct := hI.2.2.2.1
  have hbA : ¬ (fun q => s.heap.size ≤ q) b := Nat.not_le.mpr hb
  have hA : ∀ q, s.heap.size ≤ q → (fun q => s.heap.size ≤ q) q := fun q h => h
  have hZ1 : ZK nA s H := (hZ0.kept (fun a h1 h2 => hS.2.1 a h1 h2)).narrow (fun _ h => h.elim)
  refine lv_aload_n F.1 F.2.1 dL_law_1302 rfl (lv_at hl 3 rfl) ?_
  refine lv_aload_n F.1 F.2.1 dL_law_1303 rfl (lv_at hl 4 rfl) ?_
  refine lv_iload F.1 F.2.1 dL_law_1304 (lv_at hl 0 rfl) ?_
  refine rr_iconst F dL_law_1306 ?_
  refine rr_iadd F (z := i + 1) dL_law_1307 rfl ?_
  refine rr_sld F (A := fun q => s.heap.size ≤ q) hxs hb hbA hS (by omega) (by omega) hL dL_law_1308 ?_
  refine lv_aload_n F.1 F.2.1 dL_law_1309 rfl (lv_at hl 1 rfl) ?_
  have hb_1 := XI_b xs (i + 1)
  by_cases hx0 : 1 ≤ (XI xs (i + 1)) ∧ (XI xs (i + 1)) ≤ 50
  · refine W.widen (k := cells + 1) (n := slots + 6) (by omega) (by omega) ?_
    have hvr : inR (sm (fun u_w => knb ((goT a (XI xs (i + 1))) 0) (rq (goT a (XI xs (i + 1)))) ((goT a (XI xs (i + 1))) 25) (rbl (goT a (XI xs (i + 1)))) (rbc (goT a (XI xs (i + 1)))) ((GGo a G (XI xs (i + 1))) 2 u_w) ((GGo a G (XI xs (i + 1))) 5 u_w) 0) ((goT a (XI xs (i + 1))) 96)) := go_r hZ
    have hrr : ((ol + ct) % 14).toNat < 14 := by omega
    refine rr_wwS (rest := []) F hK (w_go l D cy (u 0 0) (u 1 0) (u 3 0) (u 0 1) (u 0 2) (u 4 0) (u 4 1) (fun i => u (Int.toNat i + 7) 0) ol ct (u 2 0) (u 2 1) (u 2 2) (u 2 3) (u 2 4) (u 2 5) (u 2 6) (fun i => u 2 (7 + Int.toNat i)) (u (((ol + ct) % 14).toNat + 7) 0) (u (((ol + ct) % 14).toNat + 7) 1) (u (((ol + ct) % 14).toNat + 7) 2) (u (((ol + ct) % 14).toNat + 7) 3) (u (((ol + ct) % 14).toNat + 7) 4) (u (((ol + ct) % 14).toNat + 7) 5) (u (((ol + ct) % 14).toNat + 7) 6) (fun i => u (((ol + ct) % 14).toNat + 7) (7 + Int.toNat i)) a (Ah ((ol + ct) % 14).toNat) G (Gh ((ol + ct) % 14).toNat) (XI xs (i + 1)) out of hol hct rfl hZ (by first | assumption | omega | exact ⟨by omega, by omega⟩) ⟨by omega, by omega⟩ hvr) hP hD hS hA sfw_go tw717 ⟨Nat.le_of_ble_eq_true rfl, Nat.le_of_ble_eq_true rfl⟩ hl rfl (Nat.le_of_ble_eq_true rfl) dL_law_1310 ⟨by show cells + 1 ≤ 601024; omega, by show slots + 6 ≤ 7293033; omega⟩ (pm_h cy u w out tl tc ol ct tr fv a G ak Gk As Gs Ah Gh th ap asl of tl tc ct a fv ((ol + ct) % 14).toNat hrr) rfl (fun H locs hP hD hS _ => ?_)
    have hP : va_P D vwCl (LW cy u w out tl tc (if ct < 14 then ol else (ol + 1) % 14) (if ct < 14 then ct + 1 else ct) tr fv (goT a (XI xs (i + 1))) (GGo a G (XI xs (i + 1))) ak Gk As Gs (upN Ah ((ol + ct) % 14).toNat a) (upN Gh ((ol + ct) % 14).toNat G) th ap asl (vp_updL of 0 (lI (sm (fun u_w => knb ((goT a (XI xs (i + 1))) 0) (rq (goT a (XI xs (i + 1)))) ((goT a (XI xs (i + 1))) 25) (rbl (goT a (XI xs (i + 1)))) (rbc (goT a (XI xs (i + 1)))) ((GGo a G (XI xs (i + 1))) 2 u_w) ((GGo a G (XI xs (i + 1))) 5 u_w) 0) ((goT a (XI xs (i + 1))) 96)))) tl tc ct a fv) H := hP.perm ((po_h cy u w out tl tc (if ct < 14 then ol else (ol + 1) % 14) (if ct < 14 then ct + 1 else ct) tr fv (goT a (XI xs (i + 1))) (GGo a G (XI xs (i + 1))) ak Gk As Gs (upN Ah ((ol + ct) % 14).toNat a) (upN Gh ((ol + ct) % 14).toNat G) th ap asl (vp_updL of 0 (lI (sm (fun u_w => knb ((goT a (XI xs (i + 1))) 0) (rq (goT a (XI xs (i + 1)))) ((goT a (XI xs (i + 1))) 25) (rbl (goT a (XI xs (i + 1)))) (rbc (goT a (XI xs (i + 1)))) ((GGo a G (XI xs (i + 1))) 2 u_w) ((GGo a G (XI xs (i + 1))) 5 u_w) 0) ((goT a (XI xs (i + 1))) 96)))) tl tc ct a fv Ah Gh ((ol + ct) % 14).toNat hrr upN_s upN_s (fun j z => ⟨upN_n z, upN_n z⟩)))
    have hD : va_D (fun q => s.heap.size ≤ q) (LW cy u w out tl tc (if ct < 14 then ol else (ol + 1) % 14) (if ct < 14 then ct + 1 else ct) tr fv (goT a (XI xs (i + 1))) (GGo a G (XI xs (i + 1))) ak Gk As Gs (upN Ah ((ol + ct) % 14).toNat a) (upN Gh ((ol + ct) % 14).toNat G) th ap asl (vp_updL of 0 (lI (sm (fun u_w => knb ((goT a (XI xs (i + 1))) 0) (rq (goT a (XI xs (i + 1)))) ((goT a (XI xs (i + 1))) 25) (rbl (goT a (XI xs (i + 1)))) (rbc (goT a (XI xs (i + 1)))) ((GGo a G (XI xs (i + 1))) 2 u_w) ((GGo a G (XI xs (i + 1))) 5 u_w) 0) ((goT a (XI xs (i + 1))) 96)))) tl tc ct a fv) := hD.perm ((po_h cy u w out tl tc (if ct < 14 then ol else (ol + 1) % 14) (if ct < 14 then ct + 1 else ct) tr fv (goT a (XI xs (i + 1))) (GGo a G (XI xs (i + 1))) ak Gk As Gs (upN Ah ((ol + ct) % 14).toNat a) (upN Gh ((ol + ct) % 14).toNat G) th ap asl (vp_updL of 0 (lI (sm (fun u_w => knb ((goT a (XI xs (i + 1))) 0) (rq (goT a (XI xs (i + 1)))) ((goT a (XI xs (i + 1))) 25) (rbl (goT a (XI xs (i + 1)))) (rbc (goT a (XI xs (i + 1)))) ((GGo a G (XI xs (i + 1))) 2 u_w) ((GGo a G (XI xs (i + 1))) 5 u_w) 0) ((goT a (XI xs (i + 1))) 96)))) tl tc ct a fv Ah Gh ((ol + ct) % 14).toNat hrr upN_s upN_s (fun j z => ⟨upN_n z, upN_n z⟩)))
    refine lv_istore (lv' := [(5, vI 0), (4, vI i), (3, .ref out), (2, .ref (w 0 0)), (1, .ref (u 0 0)), (0, .ref b)]) F.1 F.2.1 dL_law_1313 hl (by decide) rfl (fun ls hl => ?_)
    refine lv_aload_n F.1 F.2.1 dL_law_1315 rfl (lv_at hl 3 rfl) ?_
    refine lv_aload_n F.1 F.2.1 dL_law_1316 rfl (lv_at hl 5 rfl) ?_
    refine lv_iload F.1 F.2.1 dL_law_1317 (lv_at hl 1 rfl) ?_
    refine rr_iconst F dL_law_1319 ?_
    refine rr_iadd F (z := i + 1) dL_law_1320 rfl ?_
    refine rr_sld F (A := fun q => s.heap.size ≤ q) hxs hb hbA hS (by omega) (by omega) hL dL_law_1321 ?_
    refine rr_wrVp (rest := []) F hK (c_X7_go l D cy (w 0 0) (w 0 1) (w 0 2) (w 0 3) (w 0 4) (w 0 5) (w 0 6) tr ct tl a ap (XI xs (i + 1)) hM hct (XI_r _ _) ⟨by omega, by omega⟩ (by first | assumption | omega | exact ⟨by omega, by omega⟩)) hP hD hS hA sf_X7_go tw1159 7 rfl rfl ⟨Nat.le_of_ble_eq_true rfl, Nat.le_of_ble_eq_true rfl⟩ hl rfl (Nat.le_of_ble_eq_true rfl) dL_law_1322 ⟨by show cells + 1 ≤ 601024; omega, by show slots + 6 ≤ 7293033; omega⟩ (pm_mNP cy u w out tl tc (if ct < 14 then ol else (ol + 1) % 14) (if ct < 14 then ct + 1 else ct) tr fv (goT a (XI xs (i + 1))) (GGo a G (XI xs (i + 1))) ak Gk As Gs (upN Ah ((ol + ct) % 14).toNat a) (upN Gh ((ol + ct) % 14).toNat G) th ap asl (vp_updL of 0 (lI (sm (fun u_w => knb ((goT a (XI xs (i + 1))) 0) (rq (goT a (XI xs (i + 1)))) ((goT a (XI xs (i + 1))) 25) (rbl (goT a (XI xs (i + 1)))) (rbc (goT a (XI xs (i + 1)))) ((GGo a G (XI xs (i + 1))) 2 u_w) ((GGo a G (XI xs (i + 1))) 5 u_w) 0) ((goT a (XI xs (i + 1))) 96)))) tl tc ct a fv) rfl (fun H locs hP hD hS _ => ?_)
    have hP : va_P D vwCl (LW cy u w out tl tc (if ct < 14 then ol else (ol + 1) % 14) (if ct < 14 then ct + 1 else ct) 0 fv (goT a (XI xs (i + 1))) (GGo a G (XI xs (i + 1))) ak Gk As Gs (upN Ah ((ol + ct) % 14).toNat a) (upN Gh ((ol + ct) % 14).toNat G) th (remA a ap ct) asl (vp_updL of 0 (lI (sm (fun u_w => knb ((goT a (XI xs (i + 1))) 0) (rq (goT a (XI xs (i + 1)))) ((goT a (XI xs (i + 1))) 25) (rbl (goT a (XI xs (i + 1)))) (rbc (goT a (XI xs (i + 1)))) ((GGo a G (XI xs (i + 1))) 2 u_w) ((GGo a G (XI xs (i + 1))) 5 u_w) 0) ((goT a (XI xs (i + 1))) 96)))) tl tc (remN ct) (goT a (XI xs (i + 1))) fv) H := hP.perm ((pm_mNP cy u w out tl tc (if ct < 14 then ol else (ol + 1) % 14) (if ct < 14 then ct + 1 else ct) 0 fv (goT a (XI xs (i + 1))) (GGo a G (XI xs (i + 1))) ak Gk As Gs (upN Ah ((ol + ct) % 14).toNat a) (upN Gh ((ol + ct) % 14).toNat G) th (remA a ap ct) asl (vp_updL of 0 (lI (sm (fun u_w => knb ((goT a (XI xs (i + 1))) 0) (rq (goT a (XI xs (i + 1)))) ((goT a (XI xs (i + 1))) 25) (rbl (goT a (XI xs (i + 1)))) (rbc (goT a (XI xs (i + 1)))) ((GGo a G (XI xs (i + 1))) 2 u_w) ((GGo a G (XI xs (i + 1))) 5 u_w) 0) ((goT a (XI xs (i + 1))) 96)))) tl tc (remN ct) (goT a (XI xs (i + 1))) fv).symm)
    have hD : va_D (fun q => s.heap.size ≤ q) (LW cy u w out tl tc (if ct < 14 then ol else (ol + 1) % 14) (if ct < 14 then ct + 1 else ct) 0 fv (goT a (XI xs (i + 1))) (GGo a G (XI xs (i + 1))) ak Gk As Gs (upN Ah ((ol + ct) % 14).toNat a) (upN Gh ((ol + ct) % 14).toNat G) th (remA a ap ct) asl (vp_updL of 0 (lI (sm (fun u_w => knb ((goT a (XI xs (i + 1))) 0) (rq (goT a (XI xs (i + 1)))) ((goT a (XI xs (i + 1))) 25) (rbl (goT a (XI xs (i + 1)))) (rbc (goT a (XI xs (i + 1)))) ((GGo a G (XI xs (i + 1))) 2 u_w) ((GGo a G (XI xs (i + 1))) 5 u_w) 0) ((goT a (XI xs (i + 1))) 96)))) tl tc (remN ct) (goT a (XI xs (i + 1))) fv) := hD.perm ((pm_mNP cy u w out tl tc (if ct < 14 then ol else (ol + 1) % 14) (if ct < 14 then ct + 1 else ct) 0 fv (goT a (XI xs (i + 1))) (GGo a G (XI xs (i + 1))) ak Gk As Gs (upN Ah ((ol + ct) % 14).toNat a) (upN Gh ((ol + ct) % 14).toNat G) th (remA a ap ct) asl (vp_updL of 0 (lI (sm (fun u_w => knb ((goT a (XI xs (i + 1))) 0) (rq (goT a (XI xs (i + 1)))) ((goT a (XI xs (i + 1))) 25) (rbl (goT a (XI xs (i + 1)))) (rbc (goT a (XI xs (i + 1)))) ((GGo a G (XI xs (i + 1))) 2 u_w) ((GGo a G (XI xs (i + 1))) 5 u_w) 0) ((goT a (XI xs (i + 1))) 96)))) tl tc (remN ct) (goT a (XI xs (i + 1))) fv).symm)
    rw [remN_ct hct] at hP hD
    have hP : va_P D vwCl (LW cy u w out tl tc (if ct < 14 then ol else (ol + 1) % 14) (if ct < 14 then ct + 1 else ct) 0 fv (goT a (XI xs (i + 1))) (GGo a G (XI xs (i + 1))) ak Gk As Gs (upN Ah ((ol + ct) % 14).toNat a) (upN Gh ((ol + ct) % 14).toNat G) th (remA a ap ct) asl (vp_updL of 0 (lI (sm (fun u_w => knb ((goT a (XI xs (i + 1))) 0) (rq (goT a (XI xs (i + 1)))) ((goT a (XI xs (i + 1))) 25) (rbl (goT a (XI xs (i + 1)))) (rbc (goT a (XI xs (i + 1)))) ((GGo a G (XI xs (i + 1))) 2 u_w) ((GGo a G (XI xs (i + 1))) 5 u_w) 0) ((goT a (XI xs (i + 1))) 96)))) tl tc (if ct < 14 then ct + 1 else ct) (goT a (XI xs (i + 1))) fv) H := hP
    have hD : va_D (fun q => s.heap.size ≤ q) (LW cy u w out tl tc (if ct < 14 then ol else (ol + 1) % 14) (if ct < 14 then ct + 1 else ct) 0 fv (goT a (XI xs (i + 1))) (GGo a G (XI xs (i + 1))) ak Gk As Gs (upN Ah ((ol + ct) % 14).toNat a) (upN Gh ((ol + ct) % 14).toNat G) th (remA a ap ct) asl (vp_updL of 0 (lI (sm (fun u_w => knb ((goT a (XI xs (i + 1))) 0) (rq (goT a (XI xs (i + 1)))) ((goT a (XI xs (i + 1))) 25) (rbl (goT a (XI xs (i + 1)))) (rbc (goT a (XI xs (i + 1)))) ((GGo a G (XI xs (i + 1))) 2 u_w) ((GGo a G (XI xs (i + 1))) 5 u_w) 0) ((goT a (XI xs (i + 1))) 96)))) tl tc (if ct < 14 then ct + 1 else ct) (goT a (XI xs (i + 1))) fv) := hD
    rw [show (sm (fun u_w => knb (a 0) (rq a) (a 25) (rbl a) (rbc a) (a (97 + 5 * u_w + 1)) (goR a 0 (XI xs (i + 1)) (97 + 5 * u_w + 4)) 0) (a 96) : Int) = (sm (fun u_w => knb ((goT a (XI xs (i + 1))) 0) (rq (goT a (XI xs (i + 1)))) ((goT a (XI xs (i + 1))) 25) (rbl (goT a (XI xs (i + 1)))) (rbc (goT a (XI xs (i + 1)))) ((GGo a G (XI xs (i + 1))) 2 u_w) ((GGo a G (XI xs (i + 1))) 5 u_w) 0) ((goT a (XI xs (i + 1))) 96)) from lk_go hZ (by omega)]
    refine lv_istore (lv' := [(6, vI (sm (fun u_w => knb ((goT a (XI xs (i + 1))) 0) (rq (goT a (XI xs (i + 1)))) ((goT a (XI xs (i + 1))) 25) (rbl (goT a (XI xs (i + 1)))) (rbc (goT a (XI xs (i + 1)))) ((GGo a G (XI xs (i + 1))) 2 u_w) ((GGo a G (XI xs (i + 1))) 5 u_w) 0) ((goT a (XI xs (i + 1))) 96))), (5, vI 0), (4, vI i), (3, .ref out), (2, .ref (w 0 0)), (1, .ref (u 0 0)), (0, .ref b)]) F.1 F.2.1 dL_law_1325 hl (by decide) rfl (fun ls hl => ?_)
    refine lv_aload_n F.1 F.2.1 dL_law_1327 rfl (lv_at hl 4 rfl) ?_
    refine rr_rdVp (rest := []) F hK (c_X7_thrown l D cy (w 0 0) (w 0 1) (w 0 2) (w 0 3) (w 0 4) (w 0 5) (w 0 6) 0 (if ct < 14 then ct + 1 else ct) tl) hP (pm_m0 cy u w out tl tc (if ct < 14 then ol else (ol + 1) % 14) (if ct < 14 then ct + 1 else ct) 0 fv (goT a (XI xs (i + 1))) (GGo a G (XI xs (i + 1))) ak Gk As Gs (upN Ah ((ol + ct) % 14).toNat a) (upN Gh ((ol + ct) % 14).toNat G) th (remA a ap ct) asl (vp_updL of 0 (lI (sm (fun u_w => knb ((goT a (XI xs (i + 1))) 0) (rq (goT a (XI xs (i + 1)))) ((goT a (XI xs (i + 1))) 25) (rbl (goT a (XI xs (i + 1)))) (rbc (goT a (XI xs (i + 1)))) ((GGo a G (XI xs (i + 1))) 2 u_w) ((GGo a G (XI xs (i + 1))) 5 u_w) 0) ((goT a (XI xs (i + 1))) 96)))) tl tc (if ct < 14 then ct + 1 else ct) (goT a (XI xs (i + 1))) fv) sf_X7_thrown tw902 7 rfl rfl ⟨Nat.le_of_ble_eq_true rfl, Nat.le_of_ble_eq_true rfl⟩ hl rfl (Nat.le_of_ble_eq_true rfl) dL_law_1328 ⟨by show cells + 1 ≤ 601024; omega, by show slots + 6 ≤ 7293033; omega⟩ ?_
    refine lv_iload F.1 F.2.1 dL_law_1331 (lv_at hl 1 rfl) ?_
    refine rr_icmp_eq F (tgt := 1338) dL_law_1333 (by decide) ⟨by omega, by omega⟩ ⟨by omega, by omega⟩ (fun _ => ?_) (fun z => absurd rfl z)
    refine lv_iload F.1 F.2.1 dL_law_1338 (lv_at hl 1 rfl) ?_
    refine rr_if_ne F (tgt := 1355) dL_law_1340 (by decide) ⟨by omega, by omega⟩ (fun z => absurd rfl z) (fun _ => ?_)
    refine lv_aload_n F.1 F.2.1 dL_law_1343 rfl (lv_at hl 3 rfl) ?_
    refine rr_iconst F dL_law_1344 ?_
    refine rr_lald0 F hK (hP.perm (pm_o cy u w out tl tc (if ct < 14 then ol else (ol + 1) % 14) (if ct < 14 then ct + 1 else ct) 0 fv (goT a (XI xs (i + 1))) (GGo a G (XI xs (i + 1))) ak Gk As Gs (upN Ah ((ol + ct) % 14).toNat a) (upN Gh ((ol + ct) % 14).toNat G) th (remA a ap ct) asl (vp_updL of 0 (lI (sm (fun u_w => knb ((goT a (XI xs (i + 1))) 0) (rq (goT a (XI xs (i + 1)))) ((goT a (XI xs (i + 1))) 25) (rbl (goT a (XI xs (i + 1)))) (rbc (goT a (XI xs (i + 1)))) ((GGo a G (XI xs (i + 1))) 2 u_w) ((GGo a G (XI xs (i + 1))) 5 u_w) 0) ((goT a (XI xs (i + 1))) 96)))) tl tc (if ct < 14 then ct + 1 else ct) (goT a (XI xs (i + 1))) fv)) 0 rfl dL_law_1345 ?_
    refine lv_iload F.1 F.2.1 dL_law_1346 (lv_at hl 0 rfl) ?_
    refine rr_i2l F dL_law_1348 hvr ?_
    refine rr_lcmp F (a := sm (fun u_w => knb ((goT a (XI xs (i + 1))) 0) (rq (goT a (XI xs (i + 1)))) ((goT a (XI xs (i + 1))) 25) (rbl (goT a (XI xs (i + 1)))) (rbc (goT a (XI xs (i + 1)))) ((GGo a G (XI xs (i + 1))) 2 u_w) ((GGo a G (XI xs (i + 1))) 5 u_w) 0) ((goT a (XI xs (i + 1))) 96)) (b := sm (fun u_w => knb ((goT a (XI xs (i + 1))) 0) (rq (goT a (XI xs (i + 1)))) ((goT a (XI xs (i + 1))) 25) (rbl (goT a (XI xs (i + 1)))) (rbc (goT a (XI xs (i + 1)))) ((GGo a G (XI xs (i + 1))) 2 u_w) ((GGo a G (XI xs (i + 1))) 5 u_w) 0) ((goT a (XI xs (i + 1))) 96)) dL_law_1349 (inL_r hvr) (inL_r hvr) ?_
    refine rr_if_eq F (tgt := 1355) dL_law_1350 (by decide) (lcm_r _ _) (fun _ => ?_) (fun z => absurd ((lcm_spec _ _).2.1.mpr rfl) z)
    refine lv_goto (tgt := 2055) F.1 F.2.1 dL_law_1355 (by decide) ?_
    exact kk _ _ _ _ _ _ _ _ _ _ _ _ _ _ _ _ _ _ H locs ls (hI.rem (by omega) (GD_go hI.2.1 (by omega) (by omega))) hP hD hS (lv_sub hl [2, 3, 4, 5, 6] rfl)
  · refine rr_twS (rest := []) F hK hX hZ1 (r_go_7 l hnt D cy sa (u 0 0) (u 1 0) (u 2 0) (u 3 0) (u 4 0) (u 0 1) (u 0 2) (XI xs (i + 1)) out (XI_r _ _) (by first | assumption | omega | exact ⟨by omega, by omega⟩)) hP hS sfw_go tw717 ⟨Nat.le_of_ble_eq_true rfl, Nat.le_of_ble_eq_true rfl⟩ hl rfl (Nat.le_of_ble_eq_true rfl) dL_law_1310 ⟨by show cells + 1 ≤ 601024; omega, by show slots + 6 ≤ 7293033; omega⟩ (pm_c0 cy u w out tl tc ol ct tr fv a G ak Gk As Gs Ah Gh th ap asl of tl tc ct a fv) (fun H locs hP hS _ => ?_)
    refine lv_istore (lv' := [(5, vI 1), (4, vI i), (3, .ref out), (2, .ref (w 0 0)), (1, .ref (u 0 0)), (0, .ref b)]) F.1 F.2.1 dL_law_1313 hl (by decide) rfl (fun ls hl => ?_)
    refine lv_aload_n F.1 F.2.1 dL_law_1315 rfl (lv_at hl 3 rfl) ?_
    refine lv_aload_n F.1 F.2.1 dL_law_1316 rfl (lv_at hl 5 rfl) ?_
    refine lv_iload F.1 F.2.1 dL_law_1317 (lv_at hl 1 rfl) ?_
    refine rr_iconst F dL_law_1319 ?_
    refine rr_iadd F (z := i + 1) dL_law_1320 rfl ?_
    refine rr_sld F (A := fun q => s.heap.size ≤ q) hxs hb hbA hS (by omega) (by omega) hL dL_law_1321 ?_
    have hcode : (1 : Int) = 1 := by first | rfl | ((repeat' split) <;> first | rfl | omega)
    refine rr_wrVp (rest := []) F hK (n_X7_go l D cy (w 0 0) (w 0 1) (w 0 2) (w 0 3) (w 0 4) (w 0 5) (w 0 6) tr ct tl a ap (XI xs (i + 1)) hM hct (XI_r _ _) ⟨by omega, by omega⟩ (by first | assumption | omega)) hP hD hS hA sf_X7_go tw1159 7 rfl rfl ⟨Nat.le_of_ble_eq_true rfl, Nat.le_of_ble_eq_true rfl⟩ hl rfl (Nat.le_of_ble_eq_true rfl) dL_law_1322 ⟨by show cells + 1 ≤ 601024; omega, by show slots + 6 ≤ 7293033; omega⟩ (pm_mNP cy u w out tl tc ol ct tr fv a G ak Gk As Gs Ah Gh th ap asl of tl tc ct a fv) rfl (fun H locs hP hD hS _ => ?_)
    have hP : va_P D vwCl (LW cy u w out tl tc ol ct 1 fv a G ak Gk As Gs Ah Gh th ap asl of tl tc ct a fv) H := hP.perm ((pm_mNP cy u w out tl tc ol ct 1 fv a G ak Gk As Gs Ah Gh th ap asl of tl tc ct a fv).symm)
    have hD : va_D (fun q => s.heap.size ≤ q) (LW cy u w out tl tc ol ct 1 fv a G ak Gk As Gs Ah Gh th ap asl of tl tc ct a fv) := hD.perm ((pm_mNP cy u w out tl tc ol ct 1 fv a G ak Gk As Gs Ah Gh th ap asl of tl tc ct a fv).symm)
    refine lv_istore (lv' := [(6, vI 0), (5, vI 1), (4, vI i), (3, .ref out), (2, .ref (w 0 0)), (1, .ref (u 0 0)), (0, .ref b)]) F.1 F.2.1 dL_law_1325 hl (by decide) rfl (fun ls hl => ?_)
    refine lv_aload_n F.1 F.2.1 dL_law_1327 rfl (lv_at hl 4 rfl) ?_
    refine rr_rdVp (rest := []) F hK (c_X7_thrown l D cy (w 0 0) (w 0 1) (w 0 2) (w 0 3) (w 0 4) (w 0 5) (w 0 6) 1 ct tl) hP (pm_m0 cy u w out tl tc ol ct 1 fv a G ak Gk As Gs Ah Gh th ap asl of tl tc ct a fv) sf_X7_thrown tw902 7 rfl rfl ⟨Nat.le_of_ble_eq_true rfl, Nat.le_of_ble_eq_true rfl⟩ hl rfl (Nat.le_of_ble_eq_true rfl) dL_law_1328 ⟨by show cells + 1 ≤ 601024; omega, by show slots + 6 ≤ 7293033; omega⟩ ?_
    refine lv_iload F.1 F.2.1 dL_law_1331 (lv_at hl 1 rfl) ?_
    refine rr_icmp_eq F (tgt := 1338) dL_law_1333 (by decide) ⟨by omega, by omega⟩ ⟨by omega, by omega⟩ (fun _ => ?_) (fun z => absurd rfl z)
    refine lv_iload F.1 F.2.1 dL_law_1338 (lv_at hl 1 rfl) ?_
    refine rr_if_ne F (tgt := 1355) dL_law_1340 (by decide) ⟨by omega, by omega⟩ (fun _ => ?_) (fun z => by omega)
    refine lv_goto (tgt := 2055) F.1 F.2.1 dL_law_1355 (by decide) ?_
    exact kk _ _ _ _ _ _ _ _ _ _ _ _ _ _ _ _ _ _ H locs ls (hI.mono (by omega)) hP hD hS (lv_sub hl [2, 3, 4, 5, 6] rfl)
set_option maxRecDepth 100000 in
set_option maxHeartbeats 8000000 in
theorem lc_removeWord {p : Program} {l : Launch} {e : Env} {s : State} {m : MethodId} {args : Array Value} {below : List Frame} {meth : Method} {c : Code} {Q : State → Prop} {b L : Nat} {xs : Nat → Int32} {D : va_G} {cy : Nat → ClassId} {sa : Nat → Nat} {u w : NU} {out : Nat} (hnt : l.stackTraces = false) (F : FX p m c cL_law 7 s args RL) (hK : KK D cy s) (hX : XK sa s) (hZ0 : ZK (fun q => s.heap.size ≤ q) s s.heap) (hxs : va_X b L xs s s.heap) (hb : b < s.heap.size) (hL : L ≤ 2560) {N : Int} {tl : Int} {tc : Int → Int} {ol : Int} {ct : Int} {tr : Int} {fv : Int → Int} {a : Int → Int} {G : Int → Int → Int} {ak : Int → Int} {Gk : Int → Int → Int} {As : Nat → Int → Int} {Gs : Nat → Int → Int → Int} {Ah : Nat → Int → Int} {Gh : Nat → Int → Int → Int} {th : Int → Int} {ap : Int → Int} {asl : Int → Int} {of : Nat → Int64} (hI : INV N tl tc ol ct fv a G As Gs Ah Gh ap asl) (hN : 0 ≤ N ∧ N ≤ 80000000) {i : Int} (hi : 0 ≤ i ∧ i + 5 ≤ L) {H : Heap} {locs : List Loc} {cells slots : Nat} {ls : Array Slot} (hP : va_P D vwCl (LW cy u w out tl tc ol ct tr fv a G ak Gk As Gs Ah Gh th ap asl of tl tc ct a fv) H) (hD : va_D (fun q => s.heap.size ≤ q) (LW cy u w out tl tc ol ct tr fv a G ak Gk As Gs Ah Gh th ap asl of tl tc ct a fv)) (hS : va_S (fun q => s.heap.size ≤ q) s.heap H locs) (hl : lv_has ls 7 [(4, vI i), (3, .ref out), (2, .ref (w 0 0)), (1, .ref (u 0 0)), (0, .ref b)]) (hc : cells + 1 ≤ 601024 ∧ slots + 6 ≤ 7293033) (kk : LK p l e s m args below meth c D cy u w out b (N + 50) i (cells + 1) (slots + 6) Q) : W p l e room_1 s m args below meth c H locs cells slots Q (F0 m 850 ls []) := by
  have hT := hI.1
  obtain ⟨hZ, hSV, hsp0, hsp1⟩ := hI.2.1
  have hM := SB.mr hZ
  have hn0 := hM.n
  have hw0 := hM.nw
  have hc0 := hM.wc
  have hol := hI.2.2.1
  have hct := hI.2.2.2.1
  have hbA : ¬ (fun q => s.heap.size ≤ q) b := Nat.not_le.mpr hb
  have hA : ∀ q, s.heap.size ≤ q → (fun q => s.heap.size ≤ q) q := fun q h => h
  have hZ1 : ZK nA s H := (hZ0.kept (fun a h1 h2 => hS.2.1 a h1 h2)).narrow (fun _ h => h.elim)
  refine lv_aload_n F.1 F.2.1 dL_law_850 rfl (lv_at hl 3 rfl) ?_
  refine lv_aload_n F.1 F.2.1 dL_law_851 rfl (lv_at hl 4 rfl) ?_
  refine lv_iload F.1 F.2.1 dL_law_852 (lv_at hl 0 rfl) ?_
  refine rr_iconst F dL_law_854 ?_
  refine rr_iadd F (z := i + 1) dL_law_855 rfl ?_
  refine rr_sld F (A := fun q => s.heap.size ≤ q) hxs hb hbA hS (by omega) (by omega) hL dL_law_856 ?_
  refine lv_aload_n F.1 F.2.1 dL_law_857 rfl (lv_at hl 1 rfl) ?_
  have hb_1 := XI_b xs (i + 1)
  by_cases hx0 : 0 ≤ (XI xs (i + 1)) ∧ (XI xs (i + 1)) < a 25
  · refine W.widen (k := cells + 1) (n := slots + 6) (by omega) (by omega) ?_
    have hvr : inR (a 25 - 1) := ⟨by omega, by omega⟩
    have hrr : ((ol + ct) % 14).toNat < 14 := by omega
    refine rr_wwS (rest := []) F hK (w_removeWord l D cy (u 0 0) (u 1 0) (u 3 0) (u 0 1) (u 0 2) (u 4 0) (u 4 1) (fun i => u (Int.toNat i + 7) 0) ol ct (u 2 0) (u 2 1) (u 2 2) (u 2 3) (u 2 4) (u 2 5) (u 2 6) (fun i => u 2 (7 + Int.toNat i)) (u (((ol + ct) % 14).toNat + 7) 0) (u (((ol + ct) % 14).toNat + 7) 1) (u (((ol + ct) % 14).toNat + 7) 2) (u (((ol + ct) % 14).toNat + 7) 3) (u (((ol + ct) % 14).toNat + 7) 4) (u (((ol + ct) % 14).toNat + 7) 5) (u (((ol + ct) % 14).toNat + 7) 6) (fun i => u (((ol + ct) % 14).toNat + 7) (7 + Int.toNat i)) a (Ah ((ol + ct) % 14).toNat) G (Gh ((ol + ct) % 14).toNat) (XI xs (i + 1)) out of hol hct rfl hZ (by first | assumption | omega | exact ⟨by omega, by omega⟩) hvr) hP hD hS hA sfw_removeWord tw588 ⟨Nat.le_of_ble_eq_true rfl, Nat.le_of_ble_eq_true rfl⟩ hl rfl (Nat.le_of_ble_eq_true rfl) dL_law_858 ⟨by show cells + 1 ≤ 601024; omega, by show slots + 6 ≤ 7293033; omega⟩ (pm_h cy u w out tl tc ol ct tr fv a G ak Gk As Gs Ah Gh th ap asl of tl tc ct a fv ((ol + ct) % 14).toNat hrr) rfl (fun H locs hP hD hS _ => ?_)
    have hP : va_P D vwCl (LW cy u w out tl tc (if ct < 14 then ol else (ol + 1) % 14) (if ct < 14 then ct + 1 else ct) tr fv (rmvR a (XI xs (i + 1))) (GRmv a G (XI xs (i + 1))) ak Gk As Gs (upN Ah ((ol + ct) % 14).toNat a) (upN Gh ((ol + ct) % 14).toNat G) th ap asl (vp_updL of 0 (lI (a 25 - 1))) tl tc ct a fv) H := hP.perm ((po_h cy u w out tl tc (if ct < 14 then ol else (ol + 1) % 14) (if ct < 14 then ct + 1 else ct) tr fv (rmvR a (XI xs (i + 1))) (GRmv a G (XI xs (i + 1))) ak Gk As Gs (upN Ah ((ol + ct) % 14).toNat a) (upN Gh ((ol + ct) % 14).toNat G) th ap asl (vp_updL of 0 (lI (a 25 - 1))) tl tc ct a fv Ah Gh ((ol + ct) % 14).toNat hrr upN_s upN_s (fun j z => ⟨upN_n z, upN_n z⟩)))
    have hD : va_D (fun q => s.heap.size ≤ q) (LW cy u w out tl tc (if ct < 14 then ol else (ol + 1) % 14) (if ct < 14 then ct + 1 else ct) tr fv (rmvR a (XI xs (i + 1))) (GRmv a G (XI xs (i + 1))) ak Gk As Gs (upN Ah ((ol + ct) % 14).toNat a) (upN Gh ((ol + ct) % 14).toNat G) th ap asl (vp_updL of 0 (lI (a 25 - 1))) tl tc ct a fv) := hD.perm ((po_h cy u w out tl tc (if ct < 14 then ol else (ol + 1) % 14) (if ct < 14 then ct + 1 else ct) tr fv (rmvR a (XI xs (i + 1))) (GRmv a G (XI xs (i + 1))) ak Gk As Gs (upN Ah ((ol + ct) % 14).toNat a) (upN Gh ((ol + ct) % 14).toNat G) th ap asl (vp_updL of 0 (lI (a 25 - 1))) tl tc ct a fv Ah Gh ((ol + ct) % 14).toNat hrr upN_s upN_s (fun j z => ⟨upN_n z, upN_n z⟩)))
    refine lv_istore (lv' := [(5, vI 0), (4, vI i), (3, .ref out), (2, .ref (w 0 0)), (1, .ref (u 0 0)), (0, .ref b)]) F.1 F.2.1 dL_law_861 hl (by decide) rfl (fun ls hl => ?_)
    refine lv_aload_n F.1 F.2.1 dL_law_863 rfl (lv_at hl 3 rfl) ?_
    refine lv_aload_n F.1 F.2.1 dL_law_864 rfl (lv_at hl 5 rfl) ?_
    refine lv_iload F.1 F.2.1 dL_law_865 (lv_at hl 1 rfl) ?_
    refine rr_iconst F dL_law_867 ?_
    refine rr_iadd F (z := i + 1) dL_law_868 rfl ?_
    refine rr_sld F (A := fun q => s.heap.size ≤ q) hxs hb hbA hS (by omega) (by omega) hL dL_law_869 ?_
    refine rr_wrVp (rest := []) F hK (c_X7_removeWord l D cy (w 0 0) (w 0 1) (w 0 2) (w 0 3) (w 0 4) (w 0 5) (w 0 6) tr ct tl a ap (XI xs (i + 1)) hM hct (XI_r _ _) (by first | assumption | omega | exact ⟨by omega, by omega⟩)) hP hD hS hA sf_X7_removeWord tw1107 7 rfl rfl ⟨Nat.le_of_ble_eq_true rfl, Nat.le_of_ble_eq_true rfl⟩ hl rfl (Nat.le_of_ble_eq_true rfl) dL_law_870 ⟨by show cells + 1 ≤ 601024; omega, by show slots + 6 ≤ 7293033; omega⟩ (pm_mNP cy u w out tl tc (if ct < 14 then ol else (ol + 1) % 14) (if ct < 14 then ct + 1 else ct) tr fv (rmvR a (XI xs (i + 1))) (GRmv a G (XI xs (i + 1))) ak Gk As Gs (upN Ah ((ol + ct) % 14).toNat a) (upN Gh ((ol + ct) % 14).toNat G) th ap asl (vp_updL of 0 (lI (a 25 - 1))) tl tc ct a fv) rfl (fun H locs hP hD hS _ => ?_)
    have hP : va_P D vwCl (LW cy u w out tl tc (if ct < 14 then ol else (ol + 1) % 14) (if ct < 14 then ct + 1 else ct) 0 fv (rmvR a (XI xs (i + 1))) (GRmv a G (XI xs (i + 1))) ak Gk As Gs (upN Ah ((ol + ct) % 14).toNat a) (upN Gh ((ol + ct) % 14).toNat G) th (remA a ap ct) asl (vp_updL of 0 (lI (a 25 - 1))) tl tc (remN ct) (rmvR a (XI xs (i + 1))) fv) H := hP.perm ((pm_mNP cy u w out tl tc (if ct < 14 then ol else (ol + 1) % 14) (if ct < 14 then ct + 1 else ct) 0 fv (rmvR a (XI xs (i + 1))) (GRmv a G (XI xs (i + 1))) ak Gk As Gs (upN Ah ((ol + ct) % 14).toNat a) (upN Gh ((ol + ct) % 14).toNat G) th (remA a ap ct) asl (vp_updL of 0 (lI (a 25 - 1))) tl tc (remN ct) (rmvR a (XI xs (i + 1))) fv).symm)
    have hD : va_D (fun q => s.heap.size ≤ q) (LW cy u w out tl tc (if ct < 14 then ol else (ol + 1) % 14) (if ct < 14 then ct + 1 else ct) 0 fv (rmvR a (XI xs (i + 1))) (GRmv a G (XI xs (i + 1))) ak Gk As Gs (upN Ah ((ol + ct) % 14).toNat a) (upN Gh ((ol + ct) % 14).toNat G) th (remA a ap ct) asl (vp_updL of 0 (lI (a 25 - 1))) tl tc (remN ct) (rmvR a (XI xs (i + 1))) fv) := hD.perm ((pm_mNP cy u w out tl tc (if ct < 14 then ol else (ol + 1) % 14) (if ct < 14 then ct + 1 else ct) 0 fv (rmvR a (XI xs (i + 1))) (GRmv a G (XI xs (i + 1))) ak Gk As Gs (upN Ah ((ol + ct) % 14).toNat a) (upN Gh ((ol + ct) % 14).toNat G) th (remA a ap ct) asl (vp_updL of 0 (lI (a 25 - 1))) tl tc (remN ct) (rmvR a (XI xs (i + 1))) fv).symm)
    rw [remN_ct hct] at hP hD
    have hP : va_P D vwCl (LW cy u w out tl tc (if ct < 14 then ol else (ol + 1) % 14) (if ct < 14 then ct + 1 else ct) 0 fv (rmvR a (XI xs (i + 1))) (GRmv a G (XI xs (i + 1))) ak Gk As Gs (upN Ah ((ol + ct) % 14).toNat a) (upN Gh ((ol + ct) % 14).toNat G) th (remA a ap ct) asl (vp_updL of 0 (lI (a 25 - 1))) tl tc (if ct < 14 then ct + 1 else ct) (rmvR a (XI xs (i + 1))) fv) H := hP
    have hD : va_D (fun q => s.heap.size ≤ q) (LW cy u w out tl tc (if ct < 14 then ol else (ol + 1) % 14) (if ct < 14 then ct + 1 else ct) 0 fv (rmvR a (XI xs (i + 1))) (GRmv a G (XI xs (i + 1))) ak Gk As Gs (upN Ah ((ol + ct) % 14).toNat a) (upN Gh ((ol + ct) % 14).toNat G) th (remA a ap ct) asl (vp_updL of 0 (lI (a 25 - 1))) tl tc (if ct < 14 then ct + 1 else ct) (rmvR a (XI xs (i + 1))) fv) := hD
    refine lv_istore (lv' := [(6, vI (a 25 - 1)), (5, vI 0), (4, vI i), (3, .ref out), (2, .ref (w 0 0)), (1, .ref (u 0 0)), (0, .ref b)]) F.1 F.2.1 dL_law_873 hl (by decide) rfl (fun ls hl => ?_)
    refine lv_aload_n F.1 F.2.1 dL_law_875 rfl (lv_at hl 4 rfl) ?_
    refine rr_rdVp (rest := []) F hK (c_X7_thrown l D cy (w 0 0) (w 0 1) (w 0 2) (w 0 3) (w 0 4) (w 0 5) (w 0 6) 0 (if ct < 14 then ct + 1 else ct) tl) hP (pm_m0 cy u w out tl tc (if ct < 14 then ol else (ol + 1) % 14) (if ct < 14 then ct + 1 else ct) 0 fv (rmvR a (XI xs (i + 1))) (GRmv a G (XI xs (i + 1))) ak Gk As Gs (upN Ah ((ol + ct) % 14).toNat a) (upN Gh ((ol + ct) % 14).toNat G) th (remA a ap ct) asl (vp_updL of 0 (lI (a 25 - 1))) tl tc (if ct < 14 then ct + 1 else ct) (rmvR a (XI xs (i + 1))) fv) sf_X7_thrown tw902 7 rfl rfl ⟨Nat.le_of_ble_eq_true rfl, Nat.le_of_ble_eq_true rfl⟩ hl rfl (Nat.le_of_ble_eq_true rfl) dL_law_876 ⟨by show cells + 1 ≤ 601024; omega, by show slots + 6 ≤ 7293033; omega⟩ ?_
    refine lv_iload F.1 F.2.1 dL_law_879 (lv_at hl 1 rfl) ?_
    refine rr_icmp_eq F (tgt := 886) dL_law_881 (by decide) ⟨by omega, by omega⟩ ⟨by omega, by omega⟩ (fun _ => ?_) (fun z => absurd rfl z)
    refine lv_iload F.1 F.2.1 dL_law_886 (lv_at hl 1 rfl) ?_
    refine rr_if_ne F (tgt := 903) dL_law_888 (by decide) ⟨by omega, by omega⟩ (fun z => absurd rfl z) (fun _ => ?_)
    refine lv_aload_n F.1 F.2.1 dL_law_891 rfl (lv_at hl 3 rfl) ?_
    refine rr_iconst F dL_law_892 ?_
    refine rr_lald0 F hK (hP.perm (pm_o cy u w out tl tc (if ct < 14 then ol else (ol + 1) % 14) (if ct < 14 then ct + 1 else ct) 0 fv (rmvR a (XI xs (i + 1))) (GRmv a G (XI xs (i + 1))) ak Gk As Gs (upN Ah ((ol + ct) % 14).toNat a) (upN Gh ((ol + ct) % 14).toNat G) th (remA a ap ct) asl (vp_updL of 0 (lI (a 25 - 1))) tl tc (if ct < 14 then ct + 1 else ct) (rmvR a (XI xs (i + 1))) fv)) 0 rfl dL_law_893 ?_
    refine lv_iload F.1 F.2.1 dL_law_894 (lv_at hl 0 rfl) ?_
    refine rr_i2l F dL_law_896 hvr ?_
    refine rr_lcmp F (a := a 25 - 1) (b := a 25 - 1) dL_law_897 (inL_r hvr) (inL_r hvr) ?_
    refine rr_if_eq F (tgt := 903) dL_law_898 (by decide) (lcm_r _ _) (fun _ => ?_) (fun z => absurd ((lcm_spec _ _).2.1.mpr rfl) z)
    refine lv_goto (tgt := 2055) F.1 F.2.1 dL_law_903 (by decide) ?_
    exact kk _ _ _ _ _ _ _ _ _ _ _ _ _ _ _ _ _ _ H locs ls (hI.rem (by omega) (GD_rmv hI.2.1 (by omega) (by omega))) hP hD hS (lv_sub hl [2, 3, 4, 5, 6] rfl)
  · refine rr_twS (rest := []) F hK hX hZ1 (r_removeWord_14 l hnt D cy sa (u 0 0) (u 1 0) (u 3 0) (u 4 0) (u 0 1) (u 0 2) (u 2 0) (u 2 6) (a 96) (a 117) (u 2 1) (u 2 2) (a 0) (G 0) (rq a) (u 2 3) (u 2 4) (u 2 5) (a 25) (G 6) (G 7) (rbl a) (rbc a) (XI xs (i + 1)) out (SB.rg hZ) (SB.bk hZ) (XI_r _ _) (by first | assumption | omega | exact ⟨by omega, by omega⟩)) hP hS sfw_removeWord tw588 ⟨Nat.le_of_ble_eq_true rfl, Nat.le_of_ble_eq_true rfl⟩ hl rfl (Nat.le_of_ble_eq_true rfl) dL_law_858 ⟨by show cells + 1 ≤ 601024; omega, by show slots + 6 ≤ 7293033; omega⟩ (pm_cAB cy u w out tl tc ol ct tr fv a G ak Gk As Gs Ah Gh th ap asl of tl tc ct a fv) (fun H locs hP hS _ => ?_)
    refine lv_istore (lv' := [(5, vI 1), (4, vI i), (3, .ref out), (2, .ref (w 0 0)), (1, .ref (u 0 0)), (0, .ref b)]) F.1 F.2.1 dL_law_861 hl (by decide) rfl (fun ls hl => ?_)
    refine lv_aload_n F.1 F.2.1 dL_law_863 rfl (lv_at hl 3 rfl) ?_
    refine lv_aload_n F.1 F.2.1 dL_law_864 rfl (lv_at hl 5 rfl) ?_
    refine lv_iload F.1 F.2.1 dL_law_865 (lv_at hl 1 rfl) ?_
    refine rr_iconst F dL_law_867 ?_
    refine rr_iadd F (z := i + 1) dL_law_868 rfl ?_
    refine rr_sld F (A := fun q => s.heap.size ≤ q) hxs hb hbA hS (by omega) (by omega) hL dL_law_869 ?_
    have hcode : (1 : Int) = 1 := by first | rfl | ((repeat' split) <;> first | rfl | omega)
    refine rr_wrVp (rest := []) F hK (n_X7_removeWord l D cy (w 0 0) (w 0 1) (w 0 2) (w 0 3) (w 0 4) (w 0 5) (w 0 6) tr ct tl a ap (XI xs (i + 1)) hM hct (XI_r _ _) (by first | assumption | omega)) hP hD hS hA sf_X7_removeWord tw1107 7 rfl rfl ⟨Nat.le_of_ble_eq_true rfl, Nat.le_of_ble_eq_true rfl⟩ hl rfl (Nat.le_of_ble_eq_true rfl) dL_law_870 ⟨by show cells + 1 ≤ 601024; omega, by show slots + 6 ≤ 7293033; omega⟩ (pm_mNP cy u w out tl tc ol ct tr fv a G ak Gk As Gs Ah Gh th ap asl of tl tc ct a fv) rfl (fun H locs hP hD hS _ => ?_)
    have hP : va_P D vwCl (LW cy u w out tl tc ol ct 1 fv a G ak Gk As Gs Ah Gh th ap asl of tl tc ct a fv) H := hP.perm ((pm_mNP cy u w out tl tc ol ct 1 fv a G ak Gk As Gs Ah Gh th ap asl of tl tc ct a fv).symm)
    have hD : va_D (fun q => s.heap.size ≤ q) (LW cy u w out tl tc ol ct 1 fv a G ak Gk As Gs Ah Gh th ap asl of tl tc ct a fv) := hD.perm ((pm_mNP cy u w out tl tc ol ct 1 fv a G ak Gk As Gs Ah Gh th ap asl of tl tc ct a fv).symm)
    refine lv_istore (lv' := [(6, vI 0), (5, vI 1), (4, vI i), (3, .ref out), (2, .ref (w 0 0)), (1, .ref (u 0 0)), (0, .ref b)]) F.1 F.2.1 dL_law_873 hl (by decide) rfl (fun ls hl => ?_)
    refine lv_aload_n F.1 F.2.1 dL_law_875 rfl (lv_at hl 4 rfl) ?_
    refine rr_rdVp (rest := []) F hK (c_X7_thrown l D cy (w 0 0) (w 0 1) (w 0 2) (w 0 3) (w 0 4) (w 0 5) (w 0 6) 1 ct tl) hP (pm_m0 cy u w out tl tc ol ct 1 fv a G ak Gk As Gs Ah Gh th ap asl of tl tc ct a fv) sf_X7_thrown tw902 7 rfl rfl ⟨Nat.le_of_ble_eq_true rfl, Nat.le_of_ble_eq_true rfl⟩ hl rfl (Nat.le_of_ble_eq_true rfl) dL_law_876 ⟨by show cells + 1 ≤ 601024; omega, by show slots + 6 ≤ 7293033; omega⟩ ?_
    refine lv_iload F.1 F.2.1 dL_law_879 (lv_at hl 1 rfl) ?_
    refine rr_icmp_eq F (tgt := 886) dL_law_881 (by decide) ⟨by omega, by omega⟩ ⟨by omega, by omega⟩ (fun _ => ?_) (fun z => absurd rfl z)
    refine lv_iload F.1 F.2.1 dL_law_886 (lv_at hl 1 rfl) ?_
    refine rr_if_ne F (tgt := 903) dL_law_888 (by decide) ⟨by omega, by omega⟩ (fun _ => ?_) (fun z => by omega)
    refine lv_goto (tgt := 2055) F.1 F.2.1 dL_law_903 (by decide) ?_
    exact kk _ _ _ _ _ _ _ _ _ _ _ _ _ _ _ _ _ _ H locs ls (hI.mono (by omega)) hP hD hS (lv_sub hl [2, 3, 4, 5, 6] rfl)
set_option maxRecDepth 100000 in
set_option maxHeartbeats 8000000 in
theorem lc_ring {p : Program} {l : Launch} {e : Env} {s : State} {m : MethodId} {args : Array Value} {below : List Frame} {meth : Method} {c : Code} {Q : State → Prop} {b L : Nat} {xs : Nat → Int32} {D : va_G} {cy : Nat → ClassId} {sa : Nat → Nat} {u w : NU} {out : Nat} (hnt : l.stackTraces = false) (F : FX p m c cL_law 7 s args RL) (hK : KK D cy s) (hX : XK sa s) (hZ0 : ZK (fun q => s.heap.size ≤ q) s s.heap) (hxs : va_X b L xs s s.heap) (hb : b < s.heap.size) (hL : L ≤ 2560) {N : Int} {tl : Int} {tc : Int → Int} {ol : Int} {ct : Int} {tr : Int} {fv : Int → Int} {a : Int → Int} {G : Int → Int → Int} {ak : Int → Int} {Gk : Int → Int → Int} {As : Nat → Int → Int} {Gs : Nat → Int → Int → Int} {Ah : Nat → Int → Int} {Gh : Nat → Int → Int → Int} {th : Int → Int} {ap : Int → Int} {asl : Int → Int} {of : Nat → Int64} (hI : INV N tl tc ol ct fv a G As Gs Ah Gh ap asl) (hN : 0 ≤ N ∧ N ≤ 80000000) {i : Int} (hi : 0 ≤ i ∧ i + 5 ≤ L) {H : Heap} {locs : List Loc} {cells slots : Nat} {ls : Array Slot} (hP : va_P D vwCl (LW cy u w out tl tc ol ct tr fv a G ak Gk As Gs Ah Gh th ap asl of tl tc ct a fv) H) (hD : va_D (fun q => s.heap.size ≤ q) (LW cy u w out tl tc ol ct tr fv a G ak Gk As Gs Ah Gh th ap asl of tl tc ct a fv)) (hS : va_S (fun q => s.heap.size ≤ q) s.heap H locs) (hl : lv_has ls 7 [(4, vI i), (3, .ref out), (2, .ref (w 0 0)), (1, .ref (u 0 0)), (0, .ref b)]) (hc : cells + 1 ≤ 601024 ∧ slots + 6 ≤ 7293033) (kk : LK p l e s m args below meth c D cy u w out b (N + 50) i (cells + 1) (slots + 6) Q) : W p l e room_1 s m args below meth c H locs cells slots Q (F0 m 762 ls []) := by
  have hT := hI.1
  obtain ⟨hZ, hSV, hsp0, hsp1⟩ := hI.2.1
  have hM := SB.mr hZ
  have hn0 := hM.n
  have hw0 := hM.nw
  have hc0 := hM.wc
  have hol := hI.2.2.1
  have hct := hI.2.2.2.1
  have hbA : ¬ (fun q => s.heap.size ≤ q) b := Nat.not_le.mpr hb
  have hA : ∀ q, s.heap.size ≤ q → (fun q => s.heap.size ≤ q) q := fun q h => h
  have hZ1 : ZK nA s H := (hZ0.kept (fun a h1 h2 => hS.2.1 a h1 h2)).narrow (fun _ h => h.elim)
  refine lv_aload_n F.1 F.2.1 dL_law_762 rfl (lv_at hl 3 rfl) ?_
  refine lv_aload_n F.1 F.2.1 dL_law_763 rfl (lv_at hl 1 rfl) ?_
  by_cases hx0 : ferr tl tc 0 = -1
  · refine W.widen (k := cells + 1) (n := slots + 6) (by omega) (by omega) ?_
    have hvr : inR tl := ⟨by omega, by omega⟩
    have hrr : ((ol + ct) % 14).toNat < 14 := by omega
    refine rr_wwS (rest := []) F hK (w_ring l D cy (u 0 0) (u 3 0) (u 0 1) (u 0 2) (u 1 0) (u 1 1) tl tc (u 4 0) (u 4 1) (fun i => u (Int.toNat i + 7) 0) ol ct (u 2 0) (u 2 1) (u 2 2) (u 2 3) (u 2 4) (u 2 5) (u 2 6) (fun i => u 2 (7 + Int.toNat i)) (u (((ol + ct) % 14).toNat + 7) 0) (u (((ol + ct) % 14).toNat + 7) 1) (u (((ol + ct) % 14).toNat + 7) 2) (u (((ol + ct) % 14).toNat + 7) 3) (u (((ol + ct) % 14).toNat + 7) 4) (u (((ol + ct) % 14).toNat + 7) 5) (u (((ol + ct) % 14).toNat + 7) 6) (fun i => u (((ol + ct) % 14).toNat + 7) (7 + Int.toNat i)) a (Ah ((ol + ct) % 14).toNat) G (Gh ((ol + ct) % 14).toNat) out of hol hct rfl hZ hT (by first | assumption | omega | exact ⟨by omega, by omega⟩) hvr) hP hD hS hA sfw_ring tw526 ⟨Nat.le_of_ble_eq_true rfl, Nat.le_of_ble_eq_true rfl⟩ hl rfl (Nat.le_of_ble_eq_true rfl) dL_law_764 ⟨by show cells + 1 ≤ 601024; omega, by show slots + 6 ≤ 7293033; omega⟩ (pm_hT cy u w out tl tc ol ct tr fv a G ak Gk As Gs Ah Gh th ap asl of tl tc ct a fv ((ol + ct) % 14).toNat hrr) rfl (fun H locs hP hD hS _ => ?_)
    have hP : va_P D vwCl (LW cy u w out tl tc (if ct < 14 then ol else (ol + 1) % 14) (if ct < 14 then ct + 1 else ct) tr fv (ringR a tc tl) (GRing G tc tl) ak Gk As Gs (upN Ah ((ol + ct) % 14).toNat a) (upN Gh ((ol + ct) % 14).toNat G) th ap asl (vp_updL of 0 (lI tl)) tl tc ct a fv) H := hP.perm ((po_hT cy u w out tl tc (if ct < 14 then ol else (ol + 1) % 14) (if ct < 14 then ct + 1 else ct) tr fv (ringR a tc tl) (GRing G tc tl) ak Gk As Gs (upN Ah ((ol + ct) % 14).toNat a) (upN Gh ((ol + ct) % 14).toNat G) th ap asl (vp_updL of 0 (lI tl)) tl tc ct a fv Ah Gh ((ol + ct) % 14).toNat hrr upN_s upN_s (fun j z => ⟨upN_n z, upN_n z⟩)))
    have hD : va_D (fun q => s.heap.size ≤ q) (LW cy u w out tl tc (if ct < 14 then ol else (ol + 1) % 14) (if ct < 14 then ct + 1 else ct) tr fv (ringR a tc tl) (GRing G tc tl) ak Gk As Gs (upN Ah ((ol + ct) % 14).toNat a) (upN Gh ((ol + ct) % 14).toNat G) th ap asl (vp_updL of 0 (lI tl)) tl tc ct a fv) := hD.perm ((po_hT cy u w out tl tc (if ct < 14 then ol else (ol + 1) % 14) (if ct < 14 then ct + 1 else ct) tr fv (ringR a tc tl) (GRing G tc tl) ak Gk As Gs (upN Ah ((ol + ct) % 14).toNat a) (upN Gh ((ol + ct) % 14).toNat G) th ap asl (vp_updL of 0 (lI tl)) tl tc ct a fv Ah Gh ((ol + ct) % 14).toNat hrr upN_s upN_s (fun j z => ⟨upN_n z, upN_n z⟩)))
    refine lv_istore (lv' := [(5, vI 0), (4, vI i), (3, .ref out), (2, .ref (w 0 0)), (1, .ref (u 0 0)), (0, .ref b)]) F.1 F.2.1 dL_law_767 hl (by decide) rfl (fun ls hl => ?_)
    refine lv_aload_n F.1 F.2.1 dL_law_769 rfl (lv_at hl 3 rfl) ?_
    refine rr_wrVp (rest := []) F hK (c_X7_ring l D cy (w 0 0) (w 0 1) (w 0 2) (w 0 3) (w 0 4) (w 0 5) (w 0 6) tr ct tl a ap tc hM hct hT (by first | assumption | omega | exact ⟨by omega, by omega⟩)) hP hD hS hA sf_X7_ring tw1088 7 rfl rfl ⟨Nat.le_of_ble_eq_true rfl, Nat.le_of_ble_eq_true rfl⟩ hl rfl (Nat.le_of_ble_eq_true rfl) dL_law_770 ⟨by show cells + 1 ≤ 601024; omega, by show slots + 6 ≤ 7293033; omega⟩ (pm_mNPT cy u w out tl tc (if ct < 14 then ol else (ol + 1) % 14) (if ct < 14 then ct + 1 else ct) tr fv (ringR a tc tl) (GRing G tc tl) ak Gk As Gs (upN Ah ((ol + ct) % 14).toNat a) (upN Gh ((ol + ct) % 14).toNat G) th ap asl (vp_updL of 0 (lI tl)) tl tc ct a fv) rfl (fun H locs hP hD hS _ => ?_)
    have hP : va_P D vwCl (LW cy u w out tl tc (if ct < 14 then ol else (ol + 1) % 14) (if ct < 14 then ct + 1 else ct) 0 fv (ringR a tc tl) (GRing G tc tl) ak Gk As Gs (upN Ah ((ol + ct) % 14).toNat a) (upN Gh ((ol + ct) % 14).toNat G) th (remA a ap ct) asl (vp_updL of 0 (lI tl)) tl tc (remN ct) (zrZ (updZ (rngK a tc tl 24) 0 tl) 96 117) fv) H := hP.perm ((pm_mNPT cy u w out tl tc (if ct < 14 then ol else (ol + 1) % 14) (if ct < 14 then ct + 1 else ct) 0 fv (ringR a tc tl) (GRing G tc tl) ak Gk As Gs (upN Ah ((ol + ct) % 14).toNat a) (upN Gh ((ol + ct) % 14).toNat G) th (remA a ap ct) asl (vp_updL of 0 (lI tl)) tl tc (remN ct) (zrZ (updZ (rngK a tc tl 24) 0 tl) 96 117) fv).symm)
    have hD : va_D (fun q => s.heap.size ≤ q) (LW cy u w out tl tc (if ct < 14 then ol else (ol + 1) % 14) (if ct < 14 then ct + 1 else ct) 0 fv (ringR a tc tl) (GRing G tc tl) ak Gk As Gs (upN Ah ((ol + ct) % 14).toNat a) (upN Gh ((ol + ct) % 14).toNat G) th (remA a ap ct) asl (vp_updL of 0 (lI tl)) tl tc (remN ct) (zrZ (updZ (rngK a tc tl 24) 0 tl) 96 117) fv) := hD.perm ((pm_mNPT cy u w out tl tc (if ct < 14 then ol else (ol + 1) % 14) (if ct < 14 then ct + 1 else ct) 0 fv (ringR a tc tl) (GRing G tc tl) ak Gk As Gs (upN Ah ((ol + ct) % 14).toNat a) (upN Gh ((ol + ct) % 14).toNat G) th (remA a ap ct) asl (vp_updL of 0 (lI tl)) tl tc (remN ct) (zrZ (updZ (rngK a tc tl 24) 0 tl) 96 117) fv).symm)
    rw [remN_ct hct] at hP hD
    have hP : va_P D vwCl (LW cy u w out tl tc (if ct < 14 then ol else (ol + 1) % 14) (if ct < 14 then ct + 1 else ct) 0 fv (ringR a tc tl) (GRing G tc tl) ak Gk As Gs (upN Ah ((ol + ct) % 14).toNat a) (upN Gh ((ol + ct) % 14).toNat G) th (remA a ap ct) asl (vp_updL of 0 (lI tl)) tl tc (if ct < 14 then ct + 1 else ct) (ringR a tc tl) fv) H := hP
    have hD : va_D (fun q => s.heap.size ≤ q) (LW cy u w out tl tc (if ct < 14 then ol else (ol + 1) % 14) (if ct < 14 then ct + 1 else ct) 0 fv (ringR a tc tl) (GRing G tc tl) ak Gk As Gs (upN Ah ((ol + ct) % 14).toNat a) (upN Gh ((ol + ct) % 14).toNat G) th (remA a ap ct) asl (vp_updL of 0 (lI tl)) tl tc (if ct < 14 then ct + 1 else ct) (ringR a tc tl) fv) := hD
    refine lv_istore (lv' := [(6, vI tl), (5, vI 0), (4, vI i), (3, .ref out), (2, .ref (w 0 0)), (1, .ref (u 0 0)), (0, .ref b)]) F.1 F.2.1 dL_law_773 hl (by decide) rfl (fun ls hl => ?_)
    refine lv_aload_n F.1 F.2.1 dL_law_775 rfl (lv_at hl 4 rfl) ?_
    refine rr_rdVp (rest := []) F hK (c_X7_thrown l D cy (w 0 0) (w 0 1) (w 0 2) (w 0 3) (w 0 4) (w 0 5) (w 0 6) 0 (if ct < 14 then ct + 1 else ct) tl) hP (pm_m0 cy u w out tl tc (if ct < 14 then ol else (ol + 1) % 14) (if ct < 14 then ct + 1 else ct) 0 fv (ringR a tc tl) (GRing G tc tl) ak Gk As Gs (upN Ah ((ol + ct) % 14).toNat a) (upN Gh ((ol + ct) % 14).toNat G) th (remA a ap ct) asl (vp_updL of 0 (lI tl)) tl tc (if ct < 14 then ct + 1 else ct) (ringR a tc tl) fv) sf_X7_thrown tw902 7 rfl rfl ⟨Nat.le_of_ble_eq_true rfl, Nat.le_of_ble_eq_true rfl⟩ hl rfl (Nat.le_of_ble_eq_true rfl) dL_law_776 ⟨by show cells + 1 ≤ 601024; omega, by show slots + 6 ≤ 7293033; omega⟩ ?_
    refine lv_iload F.1 F.2.1 dL_law_779 (lv_at hl 1 rfl) ?_
    refine rr_icmp_eq F (tgt := 786) dL_law_781 (by decide) ⟨by omega, by omega⟩ ⟨by omega, by omega⟩ (fun _ => ?_) (fun z => absurd rfl z)
    refine lv_iload F.1 F.2.1 dL_law_786 (lv_at hl 1 rfl) ?_
    refine rr_if_ne F (tgt := 803) dL_law_788 (by decide) ⟨by omega, by omega⟩ (fun z => absurd rfl z) (fun _ => ?_)
    refine lv_aload_n F.1 F.2.1 dL_law_791 rfl (lv_at hl 3 rfl) ?_
    refine rr_iconst F dL_law_792 ?_
    refine rr_lald0 F hK (hP.perm (pm_o cy u w out tl tc (if ct < 14 then ol else (ol + 1) % 14) (if ct < 14 then ct + 1 else ct) 0 fv (ringR a tc tl) (GRing G tc tl) ak Gk As Gs (upN Ah ((ol + ct) % 14).toNat a) (upN Gh ((ol + ct) % 14).toNat G) th (remA a ap ct) asl (vp_updL of 0 (lI tl)) tl tc (if ct < 14 then ct + 1 else ct) (ringR a tc tl) fv)) 0 rfl dL_law_793 ?_
    refine lv_iload F.1 F.2.1 dL_law_794 (lv_at hl 0 rfl) ?_
    refine rr_i2l F dL_law_796 hvr ?_
    refine rr_lcmp F (a := tl) (b := tl) dL_law_797 (inL_r hvr) (inL_r hvr) ?_
    refine rr_if_eq F (tgt := 803) dL_law_798 (by decide) (lcm_r _ _) (fun _ => ?_) (fun z => absurd ((lcm_spec _ _).2.1.mpr rfl) z)
    refine lv_goto (tgt := 2055) F.1 F.2.1 dL_law_803 (by decide) ?_
    exact kk _ _ _ _ _ _ _ _ _ _ _ _ _ _ _ _ _ _ H locs ls (hI.rem (by omega) (GD_ring hI.2.1 hT hx0 (by omega))) hP hD hS (lv_sub hl [2, 3, 4, 5, 6] rfl)
  · refine rr_twS (rest := []) F hK hX hZ1 (r_ring_12 l hnt D cy sa (u 0 0) (u 2 0) (u 3 0) (u 4 0) (u 0 1) (u 0 2) (u 1 0) (u 1 1) tl tc out hT (by first | assumption | omega | exact ⟨by omega, by omega⟩)) hP hS sfw_ring tw526 ⟨Nat.le_of_ble_eq_true rfl, Nat.le_of_ble_eq_true rfl⟩ hl rfl (Nat.le_of_ble_eq_true rfl) dL_law_764 ⟨by show cells + 1 ≤ 601024; omega, by show slots + 6 ≤ 7293033; omega⟩ (pm_cT cy u w out tl tc ol ct tr fv a G ak Gk As Gs Ah Gh th ap asl of tl tc ct a fv) (fun H locs hP hS _ => ?_)
    refine lv_istore (lv' := [(5, vI 1), (4, vI i), (3, .ref out), (2, .ref (w 0 0)), (1, .ref (u 0 0)), (0, .ref b)]) F.1 F.2.1 dL_law_767 hl (by decide) rfl (fun ls hl => ?_)
    refine lv_aload_n F.1 F.2.1 dL_law_769 rfl (lv_at hl 3 rfl) ?_
    have hcode : (1 : Int) = 1 := by first | rfl | ((repeat' split) <;> first | rfl | omega)
    refine rr_wrVp (rest := []) F hK (n_X7_ring l D cy (w 0 0) (w 0 1) (w 0 2) (w 0 3) (w 0 4) (w 0 5) (w 0 6) tr ct tl a ap tc hM hct hT (by first | assumption | omega)) hP hD hS hA sf_X7_ring tw1088 7 rfl rfl ⟨Nat.le_of_ble_eq_true rfl, Nat.le_of_ble_eq_true rfl⟩ hl rfl (Nat.le_of_ble_eq_true rfl) dL_law_770 ⟨by show cells + 1 ≤ 601024; omega, by show slots + 6 ≤ 7293033; omega⟩ (pm_mNPT cy u w out tl tc ol ct tr fv a G ak Gk As Gs Ah Gh th ap asl of tl tc ct a fv) rfl (fun H locs hP hD hS _ => ?_)
    have hP : va_P D vwCl (LW cy u w out tl tc ol ct 1 fv a G ak Gk As Gs Ah Gh th ap asl of tl tc ct a fv) H := hP.perm ((pm_mNPT cy u w out tl tc ol ct 1 fv a G ak Gk As Gs Ah Gh th ap asl of tl tc ct a fv).symm)
    have hD : va_D (fun q => s.heap.size ≤ q) (LW cy u w out tl tc ol ct 1 fv a G ak Gk As Gs Ah Gh th ap asl of tl tc ct a fv) := hD.perm ((pm_mNPT cy u w out tl tc ol ct 1 fv a G ak Gk As Gs Ah Gh th ap asl of tl tc ct a fv).symm)
    refine lv_istore (lv' := [(6, vI 0), (5, vI 1), (4, vI i), (3, .ref out), (2, .ref (w 0 0)), (1, .ref (u 0 0)), (0, .ref b)]) F.1 F.2.1 dL_law_773 hl (by decide) rfl (fun ls hl => ?_)
    refine lv_aload_n F.1 F.2.1 dL_law_775 rfl (lv_at hl 4 rfl) ?_
    refine rr_rdVp (rest := []) F hK (c_X7_thrown l D cy (w 0 0) (w 0 1) (w 0 2) (w 0 3) (w 0 4) (w 0 5) (w 0 6) 1 ct tl) hP (pm_m0 cy u w out tl tc ol ct 1 fv a G ak Gk As Gs Ah Gh th ap asl of tl tc ct a fv) sf_X7_thrown tw902 7 rfl rfl ⟨Nat.le_of_ble_eq_true rfl, Nat.le_of_ble_eq_true rfl⟩ hl rfl (Nat.le_of_ble_eq_true rfl) dL_law_776 ⟨by show cells + 1 ≤ 601024; omega, by show slots + 6 ≤ 7293033; omega⟩ ?_
    refine lv_iload F.1 F.2.1 dL_law_779 (lv_at hl 1 rfl) ?_
    refine rr_icmp_eq F (tgt := 786) dL_law_781 (by decide) ⟨by omega, by omega⟩ ⟨by omega, by omega⟩ (fun _ => ?_) (fun z => absurd rfl z)
    refine lv_iload F.1 F.2.1 dL_law_786 (lv_at hl 1 rfl) ?_
    refine rr_if_ne F (tgt := 803) dL_law_788 (by decide) ⟨by omega, by omega⟩ (fun _ => ?_) (fun z => by omega)
    refine lv_goto (tgt := 2055) F.1 F.2.1 dL_law_803 (by decide) ?_
    exact kk _ _ _ _ _ _ _ _ _ _ _ _ _ _ _ _ _ _ H locs ls (hI.mono (by omega)) hP hD hS (lv_sub hl [2, 3, 4, 5, 6] rfl)
set_option maxRecDepth 100000 in
set_option maxHeartbeats 8000000 in
theorem lc_addWord {p : Program} {l : Launch} {e : Env} {s : State} {m : MethodId} {args : Array Value} {below : List Frame} {meth : Method} {c : Code} {Q : State → Prop} {b L : Nat} {xs : Nat → Int32} {D : va_G} {cy : Nat → ClassId} {sa : Nat → Nat} {u w : NU} {out : Nat} (hnt : l.stackTraces = false) (F : FX p m c cL_law 7 s args RL) (hK : KK D cy s) (hX : XK sa s) (hZ0 : ZK (fun q => s.heap.size ≤ q) s s.heap) (hxs : va_X b L xs s s.heap) (hb : b < s.heap.size) (hL : L ≤ 2560) {N : Int} {tl : Int} {tc : Int → Int} {ol : Int} {ct : Int} {tr : Int} {fv : Int → Int} {a : Int → Int} {G : Int → Int → Int} {ak : Int → Int} {Gk : Int → Int → Int} {As : Nat → Int → Int} {Gs : Nat → Int → Int → Int} {Ah : Nat → Int → Int} {Gh : Nat → Int → Int → Int} {th : Int → Int} {ap : Int → Int} {asl : Int → Int} {of : Nat → Int64} (hI : INV N tl tc ol ct fv a G As Gs Ah Gh ap asl) (hN : 0 ≤ N ∧ N ≤ 80000000) {i : Int} (hi : 0 ≤ i ∧ i + 5 ≤ L) {H : Heap} {locs : List Loc} {cells slots : Nat} {ls : Array Slot} (hP : va_P D vwCl (LW cy u w out tl tc ol ct tr fv a G ak Gk As Gs Ah Gh th ap asl of tl tc ct a fv) H) (hD : va_D (fun q => s.heap.size ≤ q) (LW cy u w out tl tc ol ct tr fv a G ak Gk As Gs Ah Gh th ap asl of tl tc ct a fv)) (hS : va_S (fun q => s.heap.size ≤ q) s.heap H locs) (hl : lv_has ls 7 [(4, vI i), (3, .ref out), (2, .ref (w 0 0)), (1, .ref (u 0 0)), (0, .ref b)]) (hc : cells + 1 ≤ 601024 ∧ slots + 6 ≤ 7293033) (kk : LK p l e s m args below meth c D cy u w out b (N + 50) i (cells + 1) (slots + 6) Q) : W p l e room_1 s m args below meth c H locs cells slots Q (F0 m 806 ls []) := by
  have hT := hI.1
  obtain ⟨hZ, hSV, hsp0, hsp1⟩ := hI.2.1
  have hM := SB.mr hZ
  have hn0 := hM.n
  have hw0 := hM.nw
  have hc0 := hM.wc
  have hol := hI.2.2.1
  have hct := hI.2.2.2.1
  have hbA : ¬ (fun q => s.heap.size ≤ q) b := Nat.not_le.mpr hb
  have hA : ∀ q, s.heap.size ≤ q → (fun q => s.heap.size ≤ q) q := fun q h => h
  have hZ1 : ZK nA s H := (hZ0.kept (fun a h1 h2 => hS.2.1 a h1 h2)).narrow (fun _ h => h.elim)
  refine lv_aload_n F.1 F.2.1 dL_law_806 rfl (lv_at hl 3 rfl) ?_
  refine lv_aload_n F.1 F.2.1 dL_law_807 rfl (lv_at hl 1 rfl) ?_
  by_cases hx0 : ferr tl tc 1 = -1
  · by_cases hx1 : (a 25) < 10
    · refine W.widen (k := cells + 1) (n := slots + 6) (by omega) (by omega) ?_
      have hvr : inR (a 25) := ⟨by omega, by omega⟩
      have hrr : ((ol + ct) % 14).toNat < 14 := by omega
      refine rr_wwS (rest := []) F hK (w_addWord l D cy (u 0 0) (u 3 0) (u 0 1) (u 0 2) (u 1 0) (u 1 1) tl tc (u 4 0) (u 4 1) (fun i => u (Int.toNat i + 7) 0) ol ct (u 2 0) (u 2 1) (u 2 2) (u 2 3) (u 2 4) (u 2 5) (u 2 6) (fun i => u 2 (7 + Int.toNat i)) (u (((ol + ct) % 14).toNat + 7) 0) (u (((ol + ct) % 14).toNat + 7) 1) (u (((ol + ct) % 14).toNat + 7) 2) (u (((ol + ct) % 14).toNat + 7) 3) (u (((ol + ct) % 14).toNat + 7) 4) (u (((ol + ct) % 14).toNat + 7) 5) (u (((ol + ct) % 14).toNat + 7) 6) (fun i => u (((ol + ct) % 14).toNat + 7) (7 + Int.toNat i)) a (Ah ((ol + ct) % 14).toNat) G (Gh ((ol + ct) % 14).toNat) out of hol hct rfl hZ hT (by first | assumption | omega | exact ⟨by omega, by omega⟩) (by first | assumption | omega | exact ⟨by omega, by omega⟩) hvr) hP hD hS hA sfw_addWord tw569 ⟨Nat.le_of_ble_eq_true rfl, Nat.le_of_ble_eq_true rfl⟩ hl rfl (Nat.le_of_ble_eq_true rfl) dL_law_808 ⟨by show cells + 1 ≤ 601024; omega, by show slots + 6 ≤ 7293033; omega⟩ (pm_hT cy u w out tl tc ol ct tr fv a G ak Gk As Gs Ah Gh th ap asl of tl tc ct a fv ((ol + ct) % 14).toNat hrr) rfl (fun H locs hP hD hS _ => ?_)
      have hP : va_P D vwCl (LW cy u w out tl tc (if ct < 14 then ol else (ol + 1) % 14) (if ct < 14 then ct + 1 else ct) tr fv (wrdR a tc tl) (GWrd a G tc tl) ak Gk As Gs (upN Ah ((ol + ct) % 14).toNat a) (upN Gh ((ol + ct) % 14).toNat G) th ap asl (vp_updL of 0 (lI (a 25))) tl tc ct a fv) H := hP.perm ((po_hT cy u w out tl tc (if ct < 14 then ol else (ol + 1) % 14) (if ct < 14 then ct + 1 else ct) tr fv (wrdR a tc tl) (GWrd a G tc tl) ak Gk As Gs (upN Ah ((ol + ct) % 14).toNat a) (upN Gh ((ol + ct) % 14).toNat G) th ap asl (vp_updL of 0 (lI (a 25))) tl tc ct a fv Ah Gh ((ol + ct) % 14).toNat hrr upN_s upN_s (fun j z => ⟨upN_n z, upN_n z⟩)))
      have hD : va_D (fun q => s.heap.size ≤ q) (LW cy u w out tl tc (if ct < 14 then ol else (ol + 1) % 14) (if ct < 14 then ct + 1 else ct) tr fv (wrdR a tc tl) (GWrd a G tc tl) ak Gk As Gs (upN Ah ((ol + ct) % 14).toNat a) (upN Gh ((ol + ct) % 14).toNat G) th ap asl (vp_updL of 0 (lI (a 25))) tl tc ct a fv) := hD.perm ((po_hT cy u w out tl tc (if ct < 14 then ol else (ol + 1) % 14) (if ct < 14 then ct + 1 else ct) tr fv (wrdR a tc tl) (GWrd a G tc tl) ak Gk As Gs (upN Ah ((ol + ct) % 14).toNat a) (upN Gh ((ol + ct) % 14).toNat G) th ap asl (vp_updL of 0 (lI (a 25))) tl tc ct a fv Ah Gh ((ol + ct) % 14).toNat hrr upN_s upN_s (fun j z => ⟨upN_n z, upN_n z⟩)))
      refine lv_istore (lv' := [(5, vI 0), (4, vI i), (3, .ref out), (2, .ref (w 0 0)), (1, .ref (u 0 0)), (0, .ref b)]) F.1 F.2.1 dL_law_811 hl (by decide) rfl (fun ls hl => ?_)
      refine lv_aload_n F.1 F.2.1 dL_law_813 rfl (lv_at hl 3 rfl) ?_
      refine rr_wrVp (rest := []) F hK (c_X7_addWord l D cy (w 0 0) (w 0 1) (w 0 2) (w 0 3) (w 0 4) (w 0 5) (w 0 6) tr ct tl a ap tc hM hct hT (by first | assumption | omega | exact ⟨by omega, by omega⟩) (by first | assumption | omega | exact ⟨by omega, by omega⟩)) hP hD hS hA sf_X7_addWord tw1103 7 rfl rfl ⟨Nat.le_of_ble_eq_true rfl, Nat.le_of_ble_eq_true rfl⟩ hl rfl (Nat.le_of_ble_eq_true rfl) dL_law_814 ⟨by show cells + 1 ≤ 601024; omega, by show slots + 6 ≤ 7293033; omega⟩ (pm_mNPT cy u w out tl tc (if ct < 14 then ol else (ol + 1) % 14) (if ct < 14 then ct + 1 else ct) tr fv (wrdR a tc tl) (GWrd a G tc tl) ak Gk As Gs (upN Ah ((ol + ct) % 14).toNat a) (upN Gh ((ol + ct) % 14).toNat G) th ap asl (vp_updL of 0 (lI (a 25))) tl tc ct a fv) rfl (fun H locs hP hD hS _ => ?_)
      have hP : va_P D vwCl (LW cy u w out tl tc (if ct < 14 then ol else (ol + 1) % 14) (if ct < 14 then ct + 1 else ct) 0 fv (wrdR a tc tl) (GWrd a G tc tl) ak Gk As Gs (upN Ah ((ol + ct) % 14).toNat a) (upN Gh ((ol + ct) % 14).toNat G) th (remA a ap ct) asl (vp_updL of 0 (lI (a 25))) tl tc (remN ct) (updZ (wrdK a tc tl 6) 25 (a 25 + 1)) fv) H := hP.perm ((pm_mNPT cy u w out tl tc (if ct < 14 then ol else (ol + 1) % 14) (if ct < 14 then ct + 1 else ct) 0 fv (wrdR a tc tl) (GWrd a G tc tl) ak Gk As Gs (upN Ah ((ol + ct) % 14).toNat a) (upN Gh ((ol + ct) % 14).toNat G) th (remA a ap ct) asl (vp_updL of 0 (lI (a 25))) tl tc (remN ct) (updZ (wrdK a tc tl 6) 25 (a 25 + 1)) fv).symm)
      have hD : va_D (fun q => s.heap.size ≤ q) (LW cy u w out tl tc (if ct < 14 then ol else (ol + 1) % 14) (if ct < 14 then ct + 1 else ct) 0 fv (wrdR a tc tl) (GWrd a G tc tl) ak Gk As Gs (upN Ah ((ol + ct) % 14).toNat a) (upN Gh ((ol + ct) % 14).toNat G) th (remA a ap ct) asl (vp_updL of 0 (lI (a 25))) tl tc (remN ct) (updZ (wrdK a tc tl 6) 25 (a 25 + 1)) fv) := hD.perm ((pm_mNPT cy u w out tl tc (if ct < 14 then ol else (ol + 1) % 14) (if ct < 14 then ct + 1 else ct) 0 fv (wrdR a tc tl) (GWrd a G tc tl) ak Gk As Gs (upN Ah ((ol + ct) % 14).toNat a) (upN Gh ((ol + ct) % 14).toNat G) th (remA a ap ct) asl (vp_updL of 0 (lI (a 25))) tl tc (remN ct) (updZ (wrdK a tc tl 6) 25 (a 25 + 1)) fv).symm)
      rw [remN_ct hct] at hP hD
      have hP : va_P D vwCl (LW cy u w out tl tc (if ct < 14 then ol else (ol + 1) % 14) (if ct < 14 then ct + 1 else ct) 0 fv (wrdR a tc tl) (GWrd a G tc tl) ak Gk As Gs (upN Ah ((ol + ct) % 14).toNat a) (upN Gh ((ol + ct) % 14).toNat G) th (remA a ap ct) asl (vp_updL of 0 (lI (a 25))) tl tc (if ct < 14 then ct + 1 else ct) (wrdR a tc tl) fv) H := hP
      have hD : va_D (fun q => s.heap.size ≤ q) (LW cy u w out tl tc (if ct < 14 then ol else (ol + 1) % 14) (if ct < 14 then ct + 1 else ct) 0 fv (wrdR a tc tl) (GWrd a G tc tl) ak Gk As Gs (upN Ah ((ol + ct) % 14).toNat a) (upN Gh ((ol + ct) % 14).toNat G) th (remA a ap ct) asl (vp_updL of 0 (lI (a 25))) tl tc (if ct < 14 then ct + 1 else ct) (wrdR a tc tl) fv) := hD
      refine lv_istore (lv' := [(6, vI (a 25)), (5, vI 0), (4, vI i), (3, .ref out), (2, .ref (w 0 0)), (1, .ref (u 0 0)), (0, .ref b)]) F.1 F.2.1 dL_law_817 hl (by decide) rfl (fun ls hl => ?_)
      refine lv_aload_n F.1 F.2.1 dL_law_819 rfl (lv_at hl 4 rfl) ?_
      refine rr_rdVp (rest := []) F hK (c_X7_thrown l D cy (w 0 0) (w 0 1) (w 0 2) (w 0 3) (w 0 4) (w 0 5) (w 0 6) 0 (if ct < 14 then ct + 1 else ct) tl) hP (pm_m0 cy u w out tl tc (if ct < 14 then ol else (ol + 1) % 14) (if ct < 14 then ct + 1 else ct) 0 fv (wrdR a tc tl) (GWrd a G tc tl) ak Gk As Gs (upN Ah ((ol + ct) % 14).toNat a) (upN Gh ((ol + ct) % 14).toNat G) th (remA a ap ct) asl (vp_updL of 0 (lI (a 25))) tl tc (if ct < 14 then ct + 1 else ct) (wrdR a tc tl) fv) sf_X7_thrown tw902 7 rfl rfl ⟨Nat.le_of_ble_eq_true rfl, Nat.le_of_ble_eq_true rfl⟩ hl rfl (Nat.le_of_ble_eq_true rfl) dL_law_820 ⟨by show cells + 1 ≤ 601024; omega, by show slots + 6 ≤ 7293033; omega⟩ ?_
      refine lv_iload F.1 F.2.1 dL_law_823 (lv_at hl 1 rfl) ?_
      refine rr_icmp_eq F (tgt := 830) dL_law_825 (by decide) ⟨by omega, by omega⟩ ⟨by omega, by omega⟩ (fun _ => ?_) (fun z => absurd rfl z)
      refine lv_iload F.1 F.2.1 dL_law_830 (lv_at hl 1 rfl) ?_
      refine rr_if_ne F (tgt := 847) dL_law_832 (by decide) ⟨by omega, by omega⟩ (fun z => absurd rfl z) (fun _ => ?_)
      refine lv_aload_n F.1 F.2.1 dL_law_835 rfl (lv_at hl 3 rfl) ?_
      refine rr_iconst F dL_law_836 ?_
      refine rr_lald0 F hK (hP.perm (pm_o cy u w out tl tc (if ct < 14 then ol else (ol + 1) % 14) (if ct < 14 then ct + 1 else ct) 0 fv (wrdR a tc tl) (GWrd a G tc tl) ak Gk As Gs (upN Ah ((ol + ct) % 14).toNat a) (upN Gh ((ol + ct) % 14).toNat G) th (remA a ap ct) asl (vp_updL of 0 (lI (a 25))) tl tc (if ct < 14 then ct + 1 else ct) (wrdR a tc tl) fv)) 0 rfl dL_law_837 ?_
      refine lv_iload F.1 F.2.1 dL_law_838 (lv_at hl 0 rfl) ?_
      refine rr_i2l F dL_law_840 hvr ?_
      refine rr_lcmp F (a := a 25) (b := a 25) dL_law_841 (inL_r hvr) (inL_r hvr) ?_
      refine rr_if_eq F (tgt := 847) dL_law_842 (by decide) (lcm_r _ _) (fun _ => ?_) (fun z => absurd ((lcm_spec _ _).2.1.mpr rfl) z)
      refine lv_goto (tgt := 2055) F.1 F.2.1 dL_law_847 (by decide) ?_
      exact kk _ _ _ _ _ _ _ _ _ _ _ _ _ _ _ _ _ _ H locs ls (hI.rem (by omega) (GD_wrd hI.2.1 hT hx0 (by omega) (by omega))) hP hD hS (lv_sub hl [2, 3, 4, 5, 6] rfl)
    · refine rr_twS (rest := []) F hK hX hZ1 (r_addWord_35 l hnt D cy sa (u 0 0) (u 3 0) (u 4 0) (u 0 1) (u 0 2) (u 2 0) (u 2 6) (a 96) (a 117) (u 2 1) (u 2 2) (a 0) (G 0) (rq a) (u 2 3) (u 2 4) (u 2 5) (a 25) (G 6) (G 7) (rbl a) (rbc a) (u 1 0) (u 1 1) tl tc out (SB.rg hZ) (SB.bk hZ) hT (by first | assumption | omega | exact ⟨by omega, by omega⟩) (by first | assumption | omega | exact ⟨by omega, by omega⟩)) hP hS sfw_addWord tw569 ⟨Nat.le_of_ble_eq_true rfl, Nat.le_of_ble_eq_true rfl⟩ hl rfl (Nat.le_of_ble_eq_true rfl) dL_law_808 ⟨by show cells + 1 ≤ 601024; omega, by show slots + 6 ≤ 7293033; omega⟩ (pm_cTAB cy u w out tl tc ol ct tr fv a G ak Gk As Gs Ah Gh th ap asl of tl tc ct a fv) (fun H locs hP hS _ => ?_)
      refine lv_istore (lv' := [(5, vI 1), (4, vI i), (3, .ref out), (2, .ref (w 0 0)), (1, .ref (u 0 0)), (0, .ref b)]) F.1 F.2.1 dL_law_811 hl (by decide) rfl (fun ls hl => ?_)
      refine lv_aload_n F.1 F.2.1 dL_law_813 rfl (lv_at hl 3 rfl) ?_
      have hcode : (1 : Int) = 1 := by first | rfl | ((repeat' split) <;> first | rfl | omega)
      refine rr_wrVp (rest := []) F hK (n_X7_addWord l D cy (w 0 0) (w 0 1) (w 0 2) (w 0 3) (w 0 4) (w 0 5) (w 0 6) tr ct tl a ap tc hM hct hT (by first | assumption | omega)) hP hD hS hA sf_X7_addWord tw1103 7 rfl rfl ⟨Nat.le_of_ble_eq_true rfl, Nat.le_of_ble_eq_true rfl⟩ hl rfl (Nat.le_of_ble_eq_true rfl) dL_law_814 ⟨by show cells + 1 ≤ 601024; omega, by show slots + 6 ≤ 7293033; omega⟩ (pm_mNPT cy u w out tl tc ol ct tr fv a G ak Gk As Gs Ah Gh th ap asl of tl tc ct a fv) rfl (fun H locs hP hD hS _ => ?_)
      have hP : va_P D vwCl (LW cy u w out tl tc ol ct 1 fv a G ak Gk As Gs Ah Gh th ap asl of tl tc ct a fv) H := hP.perm ((pm_mNPT cy u w out tl tc ol ct 1 fv a G ak Gk As Gs Ah Gh th ap asl of tl tc ct a fv).symm)
      have hD : va_D (fun q => s.heap.size ≤ q) (LW cy u w out tl tc ol ct 1 fv a G ak Gk As Gs Ah Gh th ap asl of tl tc ct a fv) := hD.perm ((pm_mNPT cy u w out tl tc ol ct 1 fv a G ak Gk As Gs Ah Gh th ap asl of tl tc ct a fv).symm)
      refine lv_istore (lv' := [(6, vI 0), (5, vI 1), (4, vI i), (3, .ref out), (2, .ref (w 0 0)), (1, .ref (u 0 0)), (0, .ref b)]) F.1 F.2.1 dL_law_817 hl (by decide) rfl (fun ls hl => ?_)
      refine lv_aload_n F.1 F.2.1 dL_law_819 rfl (lv_at hl 4 rfl) ?_
      refine rr_rdVp (rest := []) F hK (c_X7_thrown l D cy (w 0 0) (w 0 1) (w 0 2) (w 0 3) (w 0 4) (w 0 5) (w 0 6) 1 ct tl) hP (pm_m0 cy u w out tl tc ol ct 1 fv a G ak Gk As Gs Ah Gh th ap asl of tl tc ct a fv) sf_X7_thrown tw902 7 rfl rfl ⟨Nat.le_of_ble_eq_true rfl, Nat.le_of_ble_eq_true rfl⟩ hl rfl (Nat.le_of_ble_eq_true rfl) dL_law_820 ⟨by show cells + 1 ≤ 601024; omega, by show slots + 6 ≤ 7293033; omega⟩ ?_
      refine lv_iload F.1 F.2.1 dL_law_823 (lv_at hl 1 rfl) ?_
      refine rr_icmp_eq F (tgt := 830) dL_law_825 (by decide) ⟨by omega, by omega⟩ ⟨by omega, by omega⟩ (fun _ => ?_) (fun z => absurd rfl z)
      refine lv_iload F.1 F.2.1 dL_law_830 (lv_at hl 1 rfl) ?_
      refine rr_if_ne F (tgt := 847) dL_law_832 (by decide) ⟨by omega, by omega⟩ (fun _ => ?_) (fun z => by omega)
      refine lv_goto (tgt := 2055) F.1 F.2.1 dL_law_847 (by decide) ?_
      exact kk _ _ _ _ _ _ _ _ _ _ _ _ _ _ _ _ _ _ H locs ls (hI.mono (by omega)) hP hD hS (lv_sub hl [2, 3, 4, 5, 6] rfl)
  · refine rr_twS (rest := []) F hK hX hZ1 (r_addWord_12 l hnt D cy sa (u 0 0) (u 2 0) (u 3 0) (u 4 0) (u 0 1) (u 0 2) (u 1 0) (u 1 1) tl tc out hT (by first | assumption | omega | exact ⟨by omega, by omega⟩)) hP hS sfw_addWord tw569 ⟨Nat.le_of_ble_eq_true rfl, Nat.le_of_ble_eq_true rfl⟩ hl rfl (Nat.le_of_ble_eq_true rfl) dL_law_808 ⟨by show cells + 1 ≤ 601024; omega, by show slots + 6 ≤ 7293033; omega⟩ (pm_cT cy u w out tl tc ol ct tr fv a G ak Gk As Gs Ah Gh th ap asl of tl tc ct a fv) (fun H locs hP hS _ => ?_)
    refine lv_istore (lv' := [(5, vI 1), (4, vI i), (3, .ref out), (2, .ref (w 0 0)), (1, .ref (u 0 0)), (0, .ref b)]) F.1 F.2.1 dL_law_811 hl (by decide) rfl (fun ls hl => ?_)
    refine lv_aload_n F.1 F.2.1 dL_law_813 rfl (lv_at hl 3 rfl) ?_
    have hcode : (1 : Int) = 1 := by first | rfl | ((repeat' split) <;> first | rfl | omega)
    refine rr_wrVp (rest := []) F hK (n_X7_addWord l D cy (w 0 0) (w 0 1) (w 0 2) (w 0 3) (w 0 4) (w 0 5) (w 0 6) tr ct tl a ap tc hM hct hT (by first | assumption | omega)) hP hD hS hA sf_X7_addWord tw1103 7 rfl rfl ⟨Nat.le_of_ble_eq_true rfl, Nat.le_of_ble_eq_true rfl⟩ hl rfl (Nat.le_of_ble_eq_true rfl) dL_law_814 ⟨by show cells + 1 ≤ 601024; omega, by show slots + 6 ≤ 7293033; omega⟩ (pm_mNPT cy u w out tl tc ol ct tr fv a G ak Gk As Gs Ah Gh th ap asl of tl tc ct a fv) rfl (fun H locs hP hD hS _ => ?_)
    have hP : va_P D vwCl (LW cy u w out tl tc ol ct 1 fv a G ak Gk As Gs Ah Gh th ap asl of tl tc ct a fv) H := hP.perm ((pm_mNPT cy u w out tl tc ol ct 1 fv a G ak Gk As Gs Ah Gh th ap asl of tl tc ct a fv).symm)
    have hD : va_D (fun q => s.heap.size ≤ q) (LW cy u w out tl tc ol ct 1 fv a G ak Gk As Gs Ah Gh th ap asl of tl tc ct a fv) := hD.perm ((pm_mNPT cy u w out tl tc ol ct 1 fv a G ak Gk As Gs Ah Gh th ap asl of tl tc ct a fv).symm)
    refine lv_istore (lv' := [(6, vI 0), (5, vI 1), (4, vI i), (3, .ref out), (2, .ref (w 0 0)), (1, .ref (u 0 0)), (0, .ref b)]) F.1 F.2.1 dL_law_817 hl (by decide) rfl (fun ls hl => ?_)
    refine lv_aload_n F.1 F.2.1 dL_law_819 rfl (lv_at hl 4 rfl) ?_
    refine rr_rdVp (rest := []) F hK (c_X7_thrown l D cy (w 0 0) (w 0 1) (w 0 2) (w 0 3) (w 0 4) (w 0 5) (w 0 6) 1 ct tl) hP (pm_m0 cy u w out tl tc ol ct 1 fv a G ak Gk As Gs Ah Gh th ap asl of tl tc ct a fv) sf_X7_thrown tw902 7 rfl rfl ⟨Nat.le_of_ble_eq_true rfl, Nat.le_of_ble_eq_true rfl⟩ hl rfl (Nat.le_of_ble_eq_true rfl) dL_law_820 ⟨by show cells + 1 ≤ 601024; omega, by show slots + 6 ≤ 7293033; omega⟩ ?_
    refine lv_iload F.1 F.2.1 dL_law_823 (lv_at hl 1 rfl) ?_
    refine rr_icmp_eq F (tgt := 830) dL_law_825 (by decide) ⟨by omega, by omega⟩ ⟨by omega, by omega⟩ (fun _ => ?_) (fun z => absurd rfl z)
    refine lv_iload F.1 F.2.1 dL_law_830 (lv_at hl 1 rfl) ?_
    refine rr_if_ne F (tgt := 847) dL_law_832 (by decide) ⟨by omega, by omega⟩ (fun _ => ?_) (fun z => by omega)
    refine lv_goto (tgt := 2055) F.1 F.2.1 dL_law_847 (by decide) ?_
    exact kk _ _ _ _ _ _ _ _ _ _ _ _ _ _ _ _ _ _ H locs ls (hI.mono (by omega)) hP hD hS (lv_sub hl [2, 3, 4, 5, 6] rfl)
set_option maxRecDepth 100000 in
set_option maxHeartbeats 8000000 in
theorem lc_undo {p : Program} {l : Launch} {e : Env} {s : State} {m : MethodId} {args : Array Value} {below : List Frame} {meth : Method} {c : Code} {Q : State → Prop} {b L : Nat} {xs : Nat → Int32} {D : va_G} {cy : Nat → ClassId} {sa : Nat → Nat} {u w : NU} {out : Nat} (hnt : l.stackTraces = false) (F : FX p m c cL_law 7 s args RL) (hK : KK D cy s) (hX : XK sa s) (hZ0 : ZK (fun q => s.heap.size ≤ q) s s.heap) (hxs : va_X b L xs s s.heap) (hb : b < s.heap.size) (hL : L ≤ 2560) {N : Int} {tl : Int} {tc : Int → Int} {ol : Int} {ct : Int} {tr : Int} {fv : Int → Int} {a : Int → Int} {G : Int → Int → Int} {ak : Int → Int} {Gk : Int → Int → Int} {As : Nat → Int → Int} {Gs : Nat → Int → Int → Int} {Ah : Nat → Int → Int} {Gh : Nat → Int → Int → Int} {th : Int → Int} {ap : Int → Int} {asl : Int → Int} {of : Nat → Int64} (hI : INV N tl tc ol ct fv a G As Gs Ah Gh ap asl) (hN : 0 ≤ N ∧ N ≤ 80000000) {i : Int} (hi : 0 ≤ i ∧ i + 5 ≤ L) {H : Heap} {locs : List Loc} {cells slots : Nat} {ls : Array Slot} (hP : va_P D vwCl (LW cy u w out tl tc ol ct tr fv a G ak Gk As Gs Ah Gh th ap asl of tl tc ct a fv) H) (hD : va_D (fun q => s.heap.size ≤ q) (LW cy u w out tl tc ol ct tr fv a G ak Gk As Gs Ah Gh th ap asl of tl tc ct a fv)) (hS : va_S (fun q => s.heap.size ≤ q) s.heap H locs) (hl : lv_has ls 7 [(4, vI i), (3, .ref out), (2, .ref (w 0 0)), (1, .ref (u 0 0)), (0, .ref b)]) (hc : cells + 1 ≤ 601024 ∧ slots + 6 ≤ 7293033) (kk : LK p l e s m args below meth c D cy u w out b (N + 50) i (cells + 1) (slots + 6) Q) : W p l e room_1 s m args below meth c H locs cells slots Q (F0 m 1358 ls []) := by
  have hT := hI.1
  obtain ⟨hZ, hSV, hsp0, hsp1⟩ := hI.2.1
  have hM := SB.mr hZ
  have hn0 := hM.n
  have hw0 := hM.nw
  have hc0 := hM.wc
  have hol := hI.2.2.1
  have hct := hI.2.2.2.1
  have hbA : ¬ (fun q => s.heap.size ≤ q) b := Nat.not_le.mpr hb
  have hA : ∀ q, s.heap.size ≤ q → (fun q => s.heap.size ≤ q) q := fun q h => h
  have hZ1 : ZK nA s H := (hZ0.kept (fun a h1 h2 => hS.2.1 a h1 h2)).narrow (fun _ h => h.elim)
  refine lv_aload_n F.1 F.2.1 dL_law_1358 rfl (lv_at hl 3 rfl) ?_
  refine lv_aload_n F.1 F.2.1 dL_law_1359 rfl (lv_at hl 1 rfl) ?_
  by_cases hx0 : 0 < ct
  · refine W.widen (k := cells + 1) (n := slots + 6) (by omega) (by omega) ?_
    have hvr : inR (ct - 1) := ⟨by omega, by omega⟩
    have hrr : ((ol + (ct - 1)) % 14).toNat < 14 := by omega
    refine rr_wwS (rest := []) F hK (w_undo l D cy (u 0 0) (u 1 0) (u 3 0) (u 0 1) (u 0 2) (u 4 0) (u 4 1) (fun i => u (Int.toNat i + 7) 0) ol ct (u 2 0) (u 2 1) (u 2 2) (u 2 3) (u 2 4) (u 2 5) (u 2 6) (fun i => u 2 (7 + Int.toNat i)) (u (((ol + (ct - 1)) % 14).toNat + 7) 0) (u (((ol + (ct - 1)) % 14).toNat + 7) 1) (u (((ol + (ct - 1)) % 14).toNat + 7) 2) (u (((ol + (ct - 1)) % 14).toNat + 7) 3) (u (((ol + (ct - 1)) % 14).toNat + 7) 4) (u (((ol + (ct - 1)) % 14).toNat + 7) 5) (u (((ol + (ct - 1)) % 14).toNat + 7) 6) (fun i => u (((ol + (ct - 1)) % 14).toNat + 7) (7 + Int.toNat i)) a (Ah ((ol + (ct - 1)) % 14).toNat) G (Gh ((ol + (ct - 1)) % 14).toNat) out of hol hct rfl hx0 (hI.2.2.2.2.1 (ct - 1) (by omega) (by omega)).1.1 hvr) hP hD hS hA sfw_undo tw746 ⟨Nat.le_of_ble_eq_true rfl, Nat.le_of_ble_eq_true rfl⟩ hl rfl (Nat.le_of_ble_eq_true rfl) dL_law_1360 ⟨by show cells + 1 ≤ 601024; omega, by show slots + 6 ≤ 7293033; omega⟩ (pm_h cy u w out tl tc ol ct tr fv a G ak Gk As Gs Ah Gh th ap asl of tl tc ct a fv ((ol + (ct - 1)) % 14).toNat hrr) rfl (fun H locs hP hD hS _ => ?_)
    have hP : va_P D vwCl (LW cy u w out tl tc ol (ct - 1) tr fv (Ah ((ol + (ct - 1)) % 14).toNat) (Gh ((ol + (ct - 1)) % 14).toNat) ak Gk As Gs Ah Gh th ap asl (vp_updL of 0 (lI (ct - 1))) tl tc ct a fv) H := hP.perm ((po_h cy u w out tl tc ol (ct - 1) tr fv (Ah ((ol + (ct - 1)) % 14).toNat) (Gh ((ol + (ct - 1)) % 14).toNat) ak Gk As Gs Ah Gh th ap asl (vp_updL of 0 (lI (ct - 1))) tl tc ct a fv Ah Gh ((ol + (ct - 1)) % 14).toNat hrr rfl rfl (fun j _ => ⟨rfl, rfl⟩)))
    have hD : va_D (fun q => s.heap.size ≤ q) (LW cy u w out tl tc ol (ct - 1) tr fv (Ah ((ol + (ct - 1)) % 14).toNat) (Gh ((ol + (ct - 1)) % 14).toNat) ak Gk As Gs Ah Gh th ap asl (vp_updL of 0 (lI (ct - 1))) tl tc ct a fv) := hD.perm ((po_h cy u w out tl tc ol (ct - 1) tr fv (Ah ((ol + (ct - 1)) % 14).toNat) (Gh ((ol + (ct - 1)) % 14).toNat) ak Gk As Gs Ah Gh th ap asl (vp_updL of 0 (lI (ct - 1))) tl tc ct a fv Ah Gh ((ol + (ct - 1)) % 14).toNat hrr rfl rfl (fun j _ => ⟨rfl, rfl⟩)))
    refine lv_istore (lv' := [(5, vI 0), (4, vI i), (3, .ref out), (2, .ref (w 0 0)), (1, .ref (u 0 0)), (0, .ref b)]) F.1 F.2.1 dL_law_1363 hl (by decide) rfl (fun ls hl => ?_)
    refine lv_aload_n F.1 F.2.1 dL_law_1365 rfl (lv_at hl 3 rfl) ?_
    refine rr_wrVp (rest := []) F hK (c_X7_undo l D cy (w 0 0) (w 0 1) (w 0 2) (w 0 3) (w 0 4) (w 0 5) (w 0 6) tr ct tl a ap hM hct (by first | assumption | omega | exact ⟨by omega, by omega⟩)) hP hD hS hA sf_X7_undo tw906 7 rfl rfl ⟨Nat.le_of_ble_eq_true rfl, Nat.le_of_ble_eq_true rfl⟩ hl rfl (Nat.le_of_ble_eq_true rfl) dL_law_1366 ⟨by show cells + 1 ≤ 601024; omega, by show slots + 6 ≤ 7293033; omega⟩ (pm_mNP cy u w out tl tc ol (ct - 1) tr fv (Ah ((ol + (ct - 1)) % 14).toNat) (Gh ((ol + (ct - 1)) % 14).toNat) ak Gk As Gs Ah Gh th ap asl (vp_updL of 0 (lI (ct - 1))) tl tc ct a fv) rfl (fun H locs hP hD hS _ => ?_)
    have hP : va_P D vwCl (LW cy u w out tl tc ol (ct - 1) 0 fv (Ah ((ol + (ct - 1)) % 14).toNat) (Gh ((ol + (ct - 1)) % 14).toNat) ak Gk As Gs Ah Gh th ap asl (vp_updL of 0 (lI (ct - 1))) tl tc (ct - 1) (cpZ ap a (118 * (ct - 1)) 0 118) fv) H := hP.perm ((pm_mNP cy u w out tl tc ol (ct - 1) 0 fv (Ah ((ol + (ct - 1)) % 14).toNat) (Gh ((ol + (ct - 1)) % 14).toNat) ak Gk As Gs Ah Gh th ap asl (vp_updL of 0 (lI (ct - 1))) tl tc (ct - 1) (cpZ ap a (118 * (ct - 1)) 0 118) fv).symm)
    have hD : va_D (fun q => s.heap.size ≤ q) (LW cy u w out tl tc ol (ct - 1) 0 fv (Ah ((ol + (ct - 1)) % 14).toNat) (Gh ((ol + (ct - 1)) % 14).toNat) ak Gk As Gs Ah Gh th ap asl (vp_updL of 0 (lI (ct - 1))) tl tc (ct - 1) (cpZ ap a (118 * (ct - 1)) 0 118) fv) := hD.perm ((pm_mNP cy u w out tl tc ol (ct - 1) 0 fv (Ah ((ol + (ct - 1)) % 14).toNat) (Gh ((ol + (ct - 1)) % 14).toNat) ak Gk As Gs Ah Gh th ap asl (vp_updL of 0 (lI (ct - 1))) tl tc (ct - 1) (cpZ ap a (118 * (ct - 1)) 0 118) fv).symm)
    obtain ⟨hP, hD⟩ := LW_row D cy u w out tl tc ol (ct - 1) 0 fv (Ah ((ol + (ct - 1)) % 14).toNat) (Gh ((ol + (ct - 1)) % 14).toNat) ak Gk As Gs Ah Gh th ap asl (vp_updL of 0 (lI (ct - 1))) tl tc (ct - 1) (cpZ ap a (118 * (ct - 1)) 0 118) fv (an2 := Ah ((ol + (ct - 1)) % 14).toNat) (fun j y0 y1 => by rw [cpZ_in (by omega) (by omega), show 118 * (ct - 1) + (j - 0) = 118 * (ct - 1) + j by omega]; exact (hI.2.2.2.2.1 (ct - 1) (by omega) (by omega)).2 j y0 y1) hP hD
    have hP : va_P D vwCl (LW cy u w out tl tc ol (ct - 1) 0 fv (Ah ((ol + (ct - 1)) % 14).toNat) (Gh ((ol + (ct - 1)) % 14).toNat) ak Gk As Gs Ah Gh th ap asl (vp_updL of 0 (lI (ct - 1))) tl tc (ct - 1) (Ah ((ol + (ct - 1)) % 14).toNat) fv) H := hP
    have hD : va_D (fun q => s.heap.size ≤ q) (LW cy u w out tl tc ol (ct - 1) 0 fv (Ah ((ol + (ct - 1)) % 14).toNat) (Gh ((ol + (ct - 1)) % 14).toNat) ak Gk As Gs Ah Gh th ap asl (vp_updL of 0 (lI (ct - 1))) tl tc (ct - 1) (Ah ((ol + (ct - 1)) % 14).toNat) fv) := hD
    refine lv_istore (lv' := [(6, vI (ct - 1)), (5, vI 0), (4, vI i), (3, .ref out), (2, .ref (w 0 0)), (1, .ref (u 0 0)), (0, .ref b)]) F.1 F.2.1 dL_law_1369 hl (by decide) rfl (fun ls hl => ?_)
    refine lv_aload_n F.1 F.2.1 dL_law_1371 rfl (lv_at hl 4 rfl) ?_
    refine rr_rdVp (rest := []) F hK (c_X7_thrown l D cy (w 0 0) (w 0 1) (w 0 2) (w 0 3) (w 0 4) (w 0 5) (w 0 6) 0 (ct - 1) tl) hP (pm_m0 cy u w out tl tc ol (ct - 1) 0 fv (Ah ((ol + (ct - 1)) % 14).toNat) (Gh ((ol + (ct - 1)) % 14).toNat) ak Gk As Gs Ah Gh th ap asl (vp_updL of 0 (lI (ct - 1))) tl tc (ct - 1) (Ah ((ol + (ct - 1)) % 14).toNat) fv) sf_X7_thrown tw902 7 rfl rfl ⟨Nat.le_of_ble_eq_true rfl, Nat.le_of_ble_eq_true rfl⟩ hl rfl (Nat.le_of_ble_eq_true rfl) dL_law_1372 ⟨by show cells + 1 ≤ 601024; omega, by show slots + 6 ≤ 7293033; omega⟩ ?_
    refine lv_iload F.1 F.2.1 dL_law_1375 (lv_at hl 1 rfl) ?_
    refine rr_icmp_eq F (tgt := 1382) dL_law_1377 (by decide) ⟨by omega, by omega⟩ ⟨by omega, by omega⟩ (fun _ => ?_) (fun z => absurd rfl z)
    refine lv_iload F.1 F.2.1 dL_law_1382 (lv_at hl 1 rfl) ?_
    refine rr_if_ne F (tgt := 1399) dL_law_1384 (by decide) ⟨by omega, by omega⟩ (fun z => absurd rfl z) (fun _ => ?_)
    refine lv_aload_n F.1 F.2.1 dL_law_1387 rfl (lv_at hl 3 rfl) ?_
    refine rr_iconst F dL_law_1388 ?_
    refine rr_lald0 F hK (hP.perm (pm_o cy u w out tl tc ol (ct - 1) 0 fv (Ah ((ol + (ct - 1)) % 14).toNat) (Gh ((ol + (ct - 1)) % 14).toNat) ak Gk As Gs Ah Gh th ap asl (vp_updL of 0 (lI (ct - 1))) tl tc (ct - 1) (Ah ((ol + (ct - 1)) % 14).toNat) fv)) 0 rfl dL_law_1389 ?_
    refine lv_iload F.1 F.2.1 dL_law_1390 (lv_at hl 0 rfl) ?_
    refine rr_i2l F dL_law_1392 hvr ?_
    refine rr_lcmp F (a := ct - 1) (b := ct - 1) dL_law_1393 (inL_r hvr) (inL_r hvr) ?_
    refine rr_if_eq F (tgt := 1399) dL_law_1394 (by decide) (lcm_r _ _) (fun _ => ?_) (fun z => absurd ((lcm_spec _ _).2.1.mpr rfl) z)
    refine lv_goto (tgt := 2055) F.1 F.2.1 dL_law_1399 (by decide) ?_
    exact kk _ _ _ _ _ _ _ _ _ _ _ _ _ _ _ _ _ _ H locs ls ((INV.back hx0 hI).mono (by omega)) hP hD hS (lv_sub hl [2, 3, 4, 5, 6] rfl)
  · refine rr_twS (rest := []) F hK hX hZ1 (r_undo_10 l hnt D cy sa (u 0 0) (u 1 0) (u 2 0) (u 3 0) (u 0 1) (u 0 2) (u 4 0) (u 4 1) (fun i => u (Int.toNat i + 7) 0) ol ct out hol hct (by first | assumption | omega | exact ⟨by omega, by omega⟩)) hP hS sfw_undo tw746 ⟨Nat.le_of_ble_eq_true rfl, Nat.le_of_ble_eq_true rfl⟩ hl rfl (Nat.le_of_ble_eq_true rfl) dL_law_1360 ⟨by show cells + 1 ≤ 601024; omega, by show slots + 6 ≤ 7293033; omega⟩ (pm_cH cy u w out tl tc ol ct tr fv a G ak Gk As Gs Ah Gh th ap asl of tl tc ct a fv) (fun H locs hP hS _ => ?_)
    refine lv_istore (lv' := [(5, vI 1), (4, vI i), (3, .ref out), (2, .ref (w 0 0)), (1, .ref (u 0 0)), (0, .ref b)]) F.1 F.2.1 dL_law_1363 hl (by decide) rfl (fun ls hl => ?_)
    refine lv_aload_n F.1 F.2.1 dL_law_1365 rfl (lv_at hl 3 rfl) ?_
    have hcode : (1 : Int) = 1 := by first | rfl | ((repeat' split) <;> first | rfl | omega)
    refine rr_wrVp (rest := []) F hK (n_X7_undo l D cy (w 0 0) (w 0 1) (w 0 2) (w 0 3) (w 0 4) (w 0 5) (w 0 6) tr ct tl a ap hM hct (by first | assumption | omega)) hP hD hS hA sf_X7_undo tw906 7 rfl rfl ⟨Nat.le_of_ble_eq_true rfl, Nat.le_of_ble_eq_true rfl⟩ hl rfl (Nat.le_of_ble_eq_true rfl) dL_law_1366 ⟨by show cells + 1 ≤ 601024; omega, by show slots + 6 ≤ 7293033; omega⟩ (pm_mNP cy u w out tl tc ol ct tr fv a G ak Gk As Gs Ah Gh th ap asl of tl tc ct a fv) rfl (fun H locs hP hD hS _ => ?_)
    have hP : va_P D vwCl (LW cy u w out tl tc ol ct 1 fv a G ak Gk As Gs Ah Gh th ap asl of tl tc ct a fv) H := hP.perm ((pm_mNP cy u w out tl tc ol ct 1 fv a G ak Gk As Gs Ah Gh th ap asl of tl tc ct a fv).symm)
    have hD : va_D (fun q => s.heap.size ≤ q) (LW cy u w out tl tc ol ct 1 fv a G ak Gk As Gs Ah Gh th ap asl of tl tc ct a fv) := hD.perm ((pm_mNP cy u w out tl tc ol ct 1 fv a G ak Gk As Gs Ah Gh th ap asl of tl tc ct a fv).symm)
    refine lv_istore (lv' := [(6, vI 0), (5, vI 1), (4, vI i), (3, .ref out), (2, .ref (w 0 0)), (1, .ref (u 0 0)), (0, .ref b)]) F.1 F.2.1 dL_law_1369 hl (by decide) rfl (fun ls hl => ?_)
    refine lv_aload_n F.1 F.2.1 dL_law_1371 rfl (lv_at hl 4 rfl) ?_
    refine rr_rdVp (rest := []) F hK (c_X7_thrown l D cy (w 0 0) (w 0 1) (w 0 2) (w 0 3) (w 0 4) (w 0 5) (w 0 6) 1 ct tl) hP (pm_m0 cy u w out tl tc ol ct 1 fv a G ak Gk As Gs Ah Gh th ap asl of tl tc ct a fv) sf_X7_thrown tw902 7 rfl rfl ⟨Nat.le_of_ble_eq_true rfl, Nat.le_of_ble_eq_true rfl⟩ hl rfl (Nat.le_of_ble_eq_true rfl) dL_law_1372 ⟨by show cells + 1 ≤ 601024; omega, by show slots + 6 ≤ 7293033; omega⟩ ?_
    refine lv_iload F.1 F.2.1 dL_law_1375 (lv_at hl 1 rfl) ?_
    refine rr_icmp_eq F (tgt := 1382) dL_law_1377 (by decide) ⟨by omega, by omega⟩ ⟨by omega, by omega⟩ (fun _ => ?_) (fun z => absurd rfl z)
    refine lv_iload F.1 F.2.1 dL_law_1382 (lv_at hl 1 rfl) ?_
    refine rr_if_ne F (tgt := 1399) dL_law_1384 (by decide) ⟨by omega, by omega⟩ (fun _ => ?_) (fun z => by omega)
    refine lv_goto (tgt := 2055) F.1 F.2.1 dL_law_1399 (by decide) ?_
    exact kk _ _ _ _ _ _ _ _ _ _ _ _ _ _ _ _ _ _ H locs ls (hI.mono (by omega)) hP hD hS (lv_sub hl [2, 3, 4, 5, 6] rfl)
set_option maxRecDepth 100000 in
set_option maxHeartbeats 8000000 in
theorem lc_save {p : Program} {l : Launch} {e : Env} {s : State} {m : MethodId} {args : Array Value} {below : List Frame} {meth : Method} {c : Code} {Q : State → Prop} {b L : Nat} {xs : Nat → Int32} {D : va_G} {cy : Nat → ClassId} {sa : Nat → Nat} {u w : NU} {out : Nat} (hnt : l.stackTraces = false) (F : FX p m c cL_law 7 s args RL) (hK : KK D cy s) (hX : XK sa s) (hZ0 : ZK (fun q => s.heap.size ≤ q) s s.heap) (hxs : va_X b L xs s s.heap) (hb : b < s.heap.size) (hL : L ≤ 2560) {N : Int} {tl : Int} {tc : Int → Int} {ol : Int} {ct : Int} {tr : Int} {fv : Int → Int} {a : Int → Int} {G : Int → Int → Int} {ak : Int → Int} {Gk : Int → Int → Int} {As : Nat → Int → Int} {Gs : Nat → Int → Int → Int} {Ah : Nat → Int → Int} {Gh : Nat → Int → Int → Int} {th : Int → Int} {ap : Int → Int} {asl : Int → Int} {of : Nat → Int64} (hI : INV N tl tc ol ct fv a G As Gs Ah Gh ap asl) (hN : 0 ≤ N ∧ N ≤ 80000000) {i : Int} (hi : 0 ≤ i ∧ i + 5 ≤ L) {H : Heap} {locs : List Loc} {cells slots : Nat} {ls : Array Slot} (hP : va_P D vwCl (LW cy u w out tl tc ol ct tr fv a G ak Gk As Gs Ah Gh th ap asl of tl tc ct a fv) H) (hD : va_D (fun q => s.heap.size ≤ q) (LW cy u w out tl tc ol ct tr fv a G ak Gk As Gs Ah Gh th ap asl of tl tc ct a fv)) (hS : va_S (fun q => s.heap.size ≤ q) s.heap H locs) (hl : lv_has ls 7 [(4, vI i), (3, .ref out), (2, .ref (w 0 0)), (1, .ref (u 0 0)), (0, .ref b)]) (hc : cells + 1 ≤ 601024 ∧ slots + 6 ≤ 7293033) (kk : LK p l e s m args below meth c D cy u w out b (N + 50) i (cells + 1) (slots + 6) Q) : W p l e room_1 s m args below meth c H locs cells slots Q (F0 m 1943 ls []) := by
  have hT := hI.1
  obtain ⟨hZ, hSV, hsp0, hsp1⟩ := hI.2.1
  have hM := SB.mr hZ
  have hn0 := hM.n
  have hw0 := hM.nw
  have hc0 := hM.wc
  have hol := hI.2.2.1
  have hct := hI.2.2.2.1
  have hbA : ¬ (fun q => s.heap.size ≤ q) b := Nat.not_le.mpr hb
  have hA : ∀ q, s.heap.size ≤ q → (fun q => s.heap.size ≤ q) q := fun q h => h
  have hZ1 : ZK nA s H := (hZ0.kept (fun a h1 h2 => hS.2.1 a h1 h2)).narrow (fun _ h => h.elim)
  refine lv_aload_n F.1 F.2.1 dL_law_1943 rfl (lv_at hl 3 rfl) ?_
  refine lv_aload_n F.1 F.2.1 dL_law_1944 rfl (lv_at hl 4 rfl) ?_
  refine lv_iload F.1 F.2.1 dL_law_1945 (lv_at hl 0 rfl) ?_
  refine rr_iconst F dL_law_1947 ?_
  refine rr_iadd F (z := i + 1) dL_law_1948 rfl ?_
  refine rr_sld F (A := fun q => s.heap.size ≤ q) hxs hb hbA hS (by omega) (by omega) hL dL_law_1949 ?_
  refine lv_aload_n F.1 F.2.1 dL_law_1950 rfl (lv_at hl 1 rfl) ?_
  have hb_1 := XI_b xs (i + 1)
  by_cases hx0 : 0 ≤ (XI xs (i + 1)) ∧ (XI xs (i + 1)) ≤ 1
  · rcases (show (XI xs (i + 1)) = 0 ∨ (XI xs (i + 1)) = 1 by omega) with hk | hk
    · have hkn : ((XI xs (i + 1))).toNat = 0 := by rw [hk]; rfl
      refine W.widen (k := cells + 1) (n := slots + 6) (by omega) (by omega) ?_
      have hvr : inR (a 0) := ⟨by omega, by omega⟩
      refine rr_wwS (rest := []) F hK (w_save l D cy (u 0 0) (u 1 0) (u 3 0) (u 0 1) (u 0 2) (u 4 0) (fun i => u (Int.toNat i + 5) 0) fv (u 2 0) (u 2 1) (u 2 2) (u 2 3) (u 2 4) (u 2 5) (u 2 6) (fun i => u 2 (7 + Int.toNat i)) (u 5 0) (u 5 1) (u 5 2) (u 5 3) (u 5 4) (u 5 5) (u 5 6) (fun i => u 5 (7 + Int.toNat i)) a (As 0) G (Gs 0) (XI xs (i + 1)) out of (by first | assumption | omega | exact ⟨by omega, by omega⟩) (by show u (Int.toNat (XI xs (i + 1)) + 5) 0 = u (0 + 5) 0; rw [hkn]) hZ hvr) hP hD hS hA sfw_save tw848 ⟨Nat.le_of_ble_eq_true rfl, Nat.le_of_ble_eq_true rfl⟩ hl rfl (Nat.le_of_ble_eq_true rfl) dL_law_1951 ⟨by show cells + 1 ≤ 601024; omega, by show slots + 6 ≤ 7293033; omega⟩ (pm_cS0 cy u w out tl tc ol ct tr fv a G ak Gk As Gs Ah Gh th ap asl of tl tc ct a fv) rfl (fun H locs hP hD hS _ => ?_)
      have hP : va_P D vwCl (LW cy u w out tl tc ol ct tr (updZ fv (XI xs (i + 1)) 1) a G ak Gk (upN As 0 a) (upN Gs 0 G) Ah Gh th ap asl (vp_updL of 0 (lI (a 0))) tl tc ct a fv) H := hP.perm ((pm_cS0 cy u w out tl tc ol ct tr (updZ fv (XI xs (i + 1)) 1) a G ak Gk (upN As 0 a) (upN Gs 0 G) Ah Gh th ap asl (vp_updL of 0 (lI (a 0))) tl tc ct a fv).symm)
      have hD : va_D (fun q => s.heap.size ≤ q) (LW cy u w out tl tc ol ct tr (updZ fv (XI xs (i + 1)) 1) a G ak Gk (upN As 0 a) (upN Gs 0 G) Ah Gh th ap asl (vp_updL of 0 (lI (a 0))) tl tc ct a fv) := hD.perm ((pm_cS0 cy u w out tl tc ol ct tr (updZ fv (XI xs (i + 1)) 1) a G ak Gk (upN As 0 a) (upN Gs 0 G) Ah Gh th ap asl (vp_updL of 0 (lI (a 0))) tl tc ct a fv).symm)
      refine lv_istore (lv' := [(5, vI 0), (4, vI i), (3, .ref out), (2, .ref (w 0 0)), (1, .ref (u 0 0)), (0, .ref b)]) F.1 F.2.1 dL_law_1954 hl (by decide) rfl (fun ls hl => ?_)
      refine lv_aload_n F.1 F.2.1 dL_law_1956 rfl (lv_at hl 3 rfl) ?_
      refine lv_aload_n F.1 F.2.1 dL_law_1957 rfl (lv_at hl 5 rfl) ?_
      refine lv_iload F.1 F.2.1 dL_law_1958 (lv_at hl 1 rfl) ?_
      refine rr_iconst F dL_law_1960 ?_
      refine rr_iadd F (z := i + 1) dL_law_1961 rfl ?_
      refine rr_sld F (A := fun q => s.heap.size ≤ q) hxs hb hbA hS (by omega) (by omega) hL dL_law_1962 ?_
      refine rr_wrVp (rest := []) F hK (c_X7_save l D cy (w 0 0) (w 0 1) (w 0 2) (w 0 3) (w 0 4) (w 0 5) (w 0 6) tr ct tl a asl fv (XI xs (i + 1)) hM (XI_r _ _) (by first | assumption | omega | exact ⟨by omega, by omega⟩)) hP hD hS hA sf_X7_save tw1244 7 rfl rfl ⟨Nat.le_of_ble_eq_true rfl, Nat.le_of_ble_eq_true rfl⟩ hl rfl (Nat.le_of_ble_eq_true rfl) dL_law_1963 ⟨by show cells + 1 ≤ 601024; omega, by show slots + 6 ≤ 7293033; omega⟩ (pm_mS cy u w out tl tc ol ct tr (updZ fv (XI xs (i + 1)) 1) a G ak Gk (upN As 0 a) (upN Gs 0 G) Ah Gh th ap asl (vp_updL of 0 (lI (a 0))) tl tc ct a fv) rfl (fun H locs hP hD hS _ => ?_)
      have hP : va_P D vwCl (LW cy u w out tl tc ol ct 0 (updZ fv (XI xs (i + 1)) 1) a G ak Gk (upN As 0 a) (upN Gs 0 G) Ah Gh th ap (cpZ a asl 0 (118 * (XI xs (i + 1))) 118) (vp_updL of 0 (lI (a 0))) tl tc ct a (updZ fv (XI xs (i + 1)) 1)) H := hP.perm ((pm_mS cy u w out tl tc ol ct 0 (updZ fv (XI xs (i + 1)) 1) a G ak Gk (upN As 0 a) (upN Gs 0 G) Ah Gh th ap (cpZ a asl 0 (118 * (XI xs (i + 1))) 118) (vp_updL of 0 (lI (a 0))) tl tc ct a (updZ fv (XI xs (i + 1)) 1)).symm)
      have hD : va_D (fun q => s.heap.size ≤ q) (LW cy u w out tl tc ol ct 0 (updZ fv (XI xs (i + 1)) 1) a G ak Gk (upN As 0 a) (upN Gs 0 G) Ah Gh th ap (cpZ a asl 0 (118 * (XI xs (i + 1))) 118) (vp_updL of 0 (lI (a 0))) tl tc ct a (updZ fv (XI xs (i + 1)) 1)) := hD.perm ((pm_mS cy u w out tl tc ol ct 0 (updZ fv (XI xs (i + 1)) 1) a G ak Gk (upN As 0 a) (upN Gs 0 G) Ah Gh th ap (cpZ a asl 0 (118 * (XI xs (i + 1))) 118) (vp_updL of 0 (lI (a 0))) tl tc ct a (updZ fv (XI xs (i + 1)) 1)).symm)
      have hP : va_P D vwCl (LW cy u w out tl tc ol ct 0 (updZ fv (XI xs (i + 1)) 1) a G ak Gk (upN As 0 a) (upN Gs 0 G) Ah Gh th ap (cpZ a asl 0 (118 * (XI xs (i + 1))) 118) (vp_updL of 0 (lI (a 0))) tl tc ct a (updZ fv (XI xs (i + 1)) 1)) H := hP
      have hD : va_D (fun q => s.heap.size ≤ q) (LW cy u w out tl tc ol ct 0 (updZ fv (XI xs (i + 1)) 1) a G ak Gk (upN As 0 a) (upN Gs 0 G) Ah Gh th ap (cpZ a asl 0 (118 * (XI xs (i + 1))) 118) (vp_updL of 0 (lI (a 0))) tl tc ct a (updZ fv (XI xs (i + 1)) 1)) := hD
      refine lv_istore (lv' := [(6, vI (a 0)), (5, vI 0), (4, vI i), (3, .ref out), (2, .ref (w 0 0)), (1, .ref (u 0 0)), (0, .ref b)]) F.1 F.2.1 dL_law_1966 hl (by decide) rfl (fun ls hl => ?_)
      refine lv_aload_n F.1 F.2.1 dL_law_1968 rfl (lv_at hl 4 rfl) ?_
      refine rr_rdVp (rest := []) F hK (c_X7_thrown l D cy (w 0 0) (w 0 1) (w 0 2) (w 0 3) (w 0 4) (w 0 5) (w 0 6) 0 ct tl) hP (pm_m0 cy u w out tl tc ol ct 0 (updZ fv (XI xs (i + 1)) 1) a G ak Gk (upN As 0 a) (upN Gs 0 G) Ah Gh th ap (cpZ a asl 0 (118 * (XI xs (i + 1))) 118) (vp_updL of 0 (lI (a 0))) tl tc ct a (updZ fv (XI xs (i + 1)) 1)) sf_X7_thrown tw902 7 rfl rfl ⟨Nat.le_of_ble_eq_true rfl, Nat.le_of_ble_eq_true rfl⟩ hl rfl (Nat.le_of_ble_eq_true rfl) dL_law_1969 ⟨by show cells + 1 ≤ 601024; omega, by show slots + 6 ≤ 7293033; omega⟩ ?_
      refine lv_iload F.1 F.2.1 dL_law_1972 (lv_at hl 1 rfl) ?_
      refine rr_icmp_eq F (tgt := 1979) dL_law_1974 (by decide) ⟨by omega, by omega⟩ ⟨by omega, by omega⟩ (fun _ => ?_) (fun z => absurd rfl z)
      refine lv_iload F.1 F.2.1 dL_law_1979 (lv_at hl 1 rfl) ?_
      refine rr_if_ne F (tgt := 1996) dL_law_1981 (by decide) ⟨by omega, by omega⟩ (fun z => absurd rfl z) (fun _ => ?_)
      refine lv_aload_n F.1 F.2.1 dL_law_1984 rfl (lv_at hl 3 rfl) ?_
      refine rr_iconst F dL_law_1985 ?_
      refine rr_lald0 F hK (hP.perm (pm_o cy u w out tl tc ol ct 0 (updZ fv (XI xs (i + 1)) 1) a G ak Gk (upN As 0 a) (upN Gs 0 G) Ah Gh th ap (cpZ a asl 0 (118 * (XI xs (i + 1))) 118) (vp_updL of 0 (lI (a 0))) tl tc ct a (updZ fv (XI xs (i + 1)) 1))) 0 rfl dL_law_1986 ?_
      refine lv_iload F.1 F.2.1 dL_law_1987 (lv_at hl 0 rfl) ?_
      refine rr_i2l F dL_law_1989 hvr ?_
      refine rr_lcmp F (a := a 0) (b := a 0) dL_law_1990 (inL_r hvr) (inL_r hvr) ?_
      refine rr_if_eq F (tgt := 1996) dL_law_1991 (by decide) (lcm_r _ _) (fun _ => ?_) (fun z => absurd ((lcm_spec _ _).2.1.mpr rfl) z)
      refine lv_goto (tgt := 2055) F.1 F.2.1 dL_law_1996 (by decide) ?_
      exact kk _ _ _ _ _ _ _ _ _ _ _ _ _ _ _ _ _ _ H locs ls (by have h := (INV.save (k0 := (XI xs (i + 1))) (by omega) hI).mono (M := N + 50) (by omega); rw [hkn] at h; exact h) hP hD hS (lv_sub hl [2, 3, 4, 5, 6] rfl)
    · have hkn : ((XI xs (i + 1))).toNat = 1 := by rw [hk]; rfl
      refine W.widen (k := cells + 1) (n := slots + 6) (by omega) (by omega) ?_
      have hvr : inR (a 0) := ⟨by omega, by omega⟩
      refine rr_wwS (rest := []) F hK (w_save l D cy (u 0 0) (u 1 0) (u 3 0) (u 0 1) (u 0 2) (u 4 0) (fun i => u (Int.toNat i + 5) 0) fv (u 2 0) (u 2 1) (u 2 2) (u 2 3) (u 2 4) (u 2 5) (u 2 6) (fun i => u 2 (7 + Int.toNat i)) (u 6 0) (u 6 1) (u 6 2) (u 6 3) (u 6 4) (u 6 5) (u 6 6) (fun i => u 6 (7 + Int.toNat i)) a (As 1) G (Gs 1) (XI xs (i + 1)) out of (by first | assumption | omega | exact ⟨by omega, by omega⟩) (by show u (Int.toNat (XI xs (i + 1)) + 5) 0 = u (1 + 5) 0; rw [hkn]) hZ hvr) hP hD hS hA sfw_save tw848 ⟨Nat.le_of_ble_eq_true rfl, Nat.le_of_ble_eq_true rfl⟩ hl rfl (Nat.le_of_ble_eq_true rfl) dL_law_1951 ⟨by show cells + 1 ≤ 601024; omega, by show slots + 6 ≤ 7293033; omega⟩ (pm_cS1 cy u w out tl tc ol ct tr fv a G ak Gk As Gs Ah Gh th ap asl of tl tc ct a fv) rfl (fun H locs hP hD hS _ => ?_)
      have hP : va_P D vwCl (LW cy u w out tl tc ol ct tr (updZ fv (XI xs (i + 1)) 1) a G ak Gk (upN As 1 a) (upN Gs 1 G) Ah Gh th ap asl (vp_updL of 0 (lI (a 0))) tl tc ct a fv) H := hP.perm ((pm_cS1 cy u w out tl tc ol ct tr (updZ fv (XI xs (i + 1)) 1) a G ak Gk (upN As 1 a) (upN Gs 1 G) Ah Gh th ap asl (vp_updL of 0 (lI (a 0))) tl tc ct a fv).symm)
      have hD : va_D (fun q => s.heap.size ≤ q) (LW cy u w out tl tc ol ct tr (updZ fv (XI xs (i + 1)) 1) a G ak Gk (upN As 1 a) (upN Gs 1 G) Ah Gh th ap asl (vp_updL of 0 (lI (a 0))) tl tc ct a fv) := hD.perm ((pm_cS1 cy u w out tl tc ol ct tr (updZ fv (XI xs (i + 1)) 1) a G ak Gk (upN As 1 a) (upN Gs 1 G) Ah Gh th ap asl (vp_updL of 0 (lI (a 0))) tl tc ct a fv).symm)
      refine lv_istore (lv' := [(5, vI 0), (4, vI i), (3, .ref out), (2, .ref (w 0 0)), (1, .ref (u 0 0)), (0, .ref b)]) F.1 F.2.1 dL_law_1954 hl (by decide) rfl (fun ls hl => ?_)
      refine lv_aload_n F.1 F.2.1 dL_law_1956 rfl (lv_at hl 3 rfl) ?_
      refine lv_aload_n F.1 F.2.1 dL_law_1957 rfl (lv_at hl 5 rfl) ?_
      refine lv_iload F.1 F.2.1 dL_law_1958 (lv_at hl 1 rfl) ?_
      refine rr_iconst F dL_law_1960 ?_
      refine rr_iadd F (z := i + 1) dL_law_1961 rfl ?_
      refine rr_sld F (A := fun q => s.heap.size ≤ q) hxs hb hbA hS (by omega) (by omega) hL dL_law_1962 ?_
      refine rr_wrVp (rest := []) F hK (c_X7_save l D cy (w 0 0) (w 0 1) (w 0 2) (w 0 3) (w 0 4) (w 0 5) (w 0 6) tr ct tl a asl fv (XI xs (i + 1)) hM (XI_r _ _) (by first | assumption | omega | exact ⟨by omega, by omega⟩)) hP hD hS hA sf_X7_save tw1244 7 rfl rfl ⟨Nat.le_of_ble_eq_true rfl, Nat.le_of_ble_eq_true rfl⟩ hl rfl (Nat.le_of_ble_eq_true rfl) dL_law_1963 ⟨by show cells + 1 ≤ 601024; omega, by show slots + 6 ≤ 7293033; omega⟩ (pm_mS cy u w out tl tc ol ct tr (updZ fv (XI xs (i + 1)) 1) a G ak Gk (upN As 1 a) (upN Gs 1 G) Ah Gh th ap asl (vp_updL of 0 (lI (a 0))) tl tc ct a fv) rfl (fun H locs hP hD hS _ => ?_)
      have hP : va_P D vwCl (LW cy u w out tl tc ol ct 0 (updZ fv (XI xs (i + 1)) 1) a G ak Gk (upN As 1 a) (upN Gs 1 G) Ah Gh th ap (cpZ a asl 0 (118 * (XI xs (i + 1))) 118) (vp_updL of 0 (lI (a 0))) tl tc ct a (updZ fv (XI xs (i + 1)) 1)) H := hP.perm ((pm_mS cy u w out tl tc ol ct 0 (updZ fv (XI xs (i + 1)) 1) a G ak Gk (upN As 1 a) (upN Gs 1 G) Ah Gh th ap (cpZ a asl 0 (118 * (XI xs (i + 1))) 118) (vp_updL of 0 (lI (a 0))) tl tc ct a (updZ fv (XI xs (i + 1)) 1)).symm)
      have hD : va_D (fun q => s.heap.size ≤ q) (LW cy u w out tl tc ol ct 0 (updZ fv (XI xs (i + 1)) 1) a G ak Gk (upN As 1 a) (upN Gs 1 G) Ah Gh th ap (cpZ a asl 0 (118 * (XI xs (i + 1))) 118) (vp_updL of 0 (lI (a 0))) tl tc ct a (updZ fv (XI xs (i + 1)) 1)) := hD.perm ((pm_mS cy u w out tl tc ol ct 0 (updZ fv (XI xs (i + 1)) 1) a G ak Gk (upN As 1 a) (upN Gs 1 G) Ah Gh th ap (cpZ a asl 0 (118 * (XI xs (i + 1))) 118) (vp_updL of 0 (lI (a 0))) tl tc ct a (updZ fv (XI xs (i + 1)) 1)).symm)
      have hP : va_P D vwCl (LW cy u w out tl tc ol ct 0 (updZ fv (XI xs (i + 1)) 1) a G ak Gk (upN As 1 a) (upN Gs 1 G) Ah Gh th ap (cpZ a asl 0 (118 * (XI xs (i + 1))) 118) (vp_updL of 0 (lI (a 0))) tl tc ct a (updZ fv (XI xs (i + 1)) 1)) H := hP
      have hD : va_D (fun q => s.heap.size ≤ q) (LW cy u w out tl tc ol ct 0 (updZ fv (XI xs (i + 1)) 1) a G ak Gk (upN As 1 a) (upN Gs 1 G) Ah Gh th ap (cpZ a asl 0 (118 * (XI xs (i + 1))) 118) (vp_updL of 0 (lI (a 0))) tl tc ct a (updZ fv (XI xs (i + 1)) 1)) := hD
      refine lv_istore (lv' := [(6, vI (a 0)), (5, vI 0), (4, vI i), (3, .ref out), (2, .ref (w 0 0)), (1, .ref (u 0 0)), (0, .ref b)]) F.1 F.2.1 dL_law_1966 hl (by decide) rfl (fun ls hl => ?_)
      refine lv_aload_n F.1 F.2.1 dL_law_1968 rfl (lv_at hl 4 rfl) ?_
      refine rr_rdVp (rest := []) F hK (c_X7_thrown l D cy (w 0 0) (w 0 1) (w 0 2) (w 0 3) (w 0 4) (w 0 5) (w 0 6) 0 ct tl) hP (pm_m0 cy u w out tl tc ol ct 0 (updZ fv (XI xs (i + 1)) 1) a G ak Gk (upN As 1 a) (upN Gs 1 G) Ah Gh th ap (cpZ a asl 0 (118 * (XI xs (i + 1))) 118) (vp_updL of 0 (lI (a 0))) tl tc ct a (updZ fv (XI xs (i + 1)) 1)) sf_X7_thrown tw902 7 rfl rfl ⟨Nat.le_of_ble_eq_true rfl, Nat.le_of_ble_eq_true rfl⟩ hl rfl (Nat.le_of_ble_eq_true rfl) dL_law_1969 ⟨by show cells + 1 ≤ 601024; omega, by show slots + 6 ≤ 7293033; omega⟩ ?_
      refine lv_iload F.1 F.2.1 dL_law_1972 (lv_at hl 1 rfl) ?_
      refine rr_icmp_eq F (tgt := 1979) dL_law_1974 (by decide) ⟨by omega, by omega⟩ ⟨by omega, by omega⟩ (fun _ => ?_) (fun z => absurd rfl z)
      refine lv_iload F.1 F.2.1 dL_law_1979 (lv_at hl 1 rfl) ?_
      refine rr_if_ne F (tgt := 1996) dL_law_1981 (by decide) ⟨by omega, by omega⟩ (fun z => absurd rfl z) (fun _ => ?_)
      refine lv_aload_n F.1 F.2.1 dL_law_1984 rfl (lv_at hl 3 rfl) ?_
      refine rr_iconst F dL_law_1985 ?_
      refine rr_lald0 F hK (hP.perm (pm_o cy u w out tl tc ol ct 0 (updZ fv (XI xs (i + 1)) 1) a G ak Gk (upN As 1 a) (upN Gs 1 G) Ah Gh th ap (cpZ a asl 0 (118 * (XI xs (i + 1))) 118) (vp_updL of 0 (lI (a 0))) tl tc ct a (updZ fv (XI xs (i + 1)) 1))) 0 rfl dL_law_1986 ?_
      refine lv_iload F.1 F.2.1 dL_law_1987 (lv_at hl 0 rfl) ?_
      refine rr_i2l F dL_law_1989 hvr ?_
      refine rr_lcmp F (a := a 0) (b := a 0) dL_law_1990 (inL_r hvr) (inL_r hvr) ?_
      refine rr_if_eq F (tgt := 1996) dL_law_1991 (by decide) (lcm_r _ _) (fun _ => ?_) (fun z => absurd ((lcm_spec _ _).2.1.mpr rfl) z)
      refine lv_goto (tgt := 2055) F.1 F.2.1 dL_law_1996 (by decide) ?_
      exact kk _ _ _ _ _ _ _ _ _ _ _ _ _ _ _ _ _ _ H locs ls (by have h := (INV.save (k0 := (XI xs (i + 1))) (by omega) hI).mono (M := N + 50) (by omega); rw [hkn] at h; exact h) hP hD hS (lv_sub hl [2, 3, 4, 5, 6] rfl)
  · refine rr_twS (rest := []) F hK hX hZ1 (r_save_9 l hnt D cy sa (u 0 0) (u 1 0) (u 2 0) (u 3 0) (u 4 0) (u 0 1) (u 0 2) (XI xs (i + 1)) out (XI_r _ _) (by first | assumption | omega | exact ⟨by omega, by omega⟩)) hP hS sfw_save tw848 ⟨Nat.le_of_ble_eq_true rfl, Nat.le_of_ble_eq_true rfl⟩ hl rfl (Nat.le_of_ble_eq_true rfl) dL_law_1951 ⟨by show cells + 1 ≤ 601024; omega, by show slots + 6 ≤ 7293033; omega⟩ (pm_c0 cy u w out tl tc ol ct tr fv a G ak Gk As Gs Ah Gh th ap asl of tl tc ct a fv) (fun H locs hP hS _ => ?_)
    refine lv_istore (lv' := [(5, vI 1), (4, vI i), (3, .ref out), (2, .ref (w 0 0)), (1, .ref (u 0 0)), (0, .ref b)]) F.1 F.2.1 dL_law_1954 hl (by decide) rfl (fun ls hl => ?_)
    refine lv_aload_n F.1 F.2.1 dL_law_1956 rfl (lv_at hl 3 rfl) ?_
    refine lv_aload_n F.1 F.2.1 dL_law_1957 rfl (lv_at hl 5 rfl) ?_
    refine lv_iload F.1 F.2.1 dL_law_1958 (lv_at hl 1 rfl) ?_
    refine rr_iconst F dL_law_1960 ?_
    refine rr_iadd F (z := i + 1) dL_law_1961 rfl ?_
    refine rr_sld F (A := fun q => s.heap.size ≤ q) hxs hb hbA hS (by omega) (by omega) hL dL_law_1962 ?_
    have hcode : (1 : Int) = 1 := by first | rfl | ((repeat' split) <;> first | rfl | omega)
    refine rr_wrVp (rest := []) F hK (n_X7_save l D cy (w 0 0) (w 0 1) (w 0 2) (w 0 3) (w 0 4) (w 0 5) (w 0 6) tr ct tl a asl fv (XI xs (i + 1)) hM (XI_r _ _) (by first | assumption | omega)) hP hD hS hA sf_X7_save tw1244 7 rfl rfl ⟨Nat.le_of_ble_eq_true rfl, Nat.le_of_ble_eq_true rfl⟩ hl rfl (Nat.le_of_ble_eq_true rfl) dL_law_1963 ⟨by show cells + 1 ≤ 601024; omega, by show slots + 6 ≤ 7293033; omega⟩ (pm_mS cy u w out tl tc ol ct tr fv a G ak Gk As Gs Ah Gh th ap asl of tl tc ct a fv) rfl (fun H locs hP hD hS _ => ?_)
    have hP : va_P D vwCl (LW cy u w out tl tc ol ct 1 fv a G ak Gk As Gs Ah Gh th ap asl of tl tc ct a fv) H := hP.perm ((pm_mS cy u w out tl tc ol ct 1 fv a G ak Gk As Gs Ah Gh th ap asl of tl tc ct a fv).symm)
    have hD : va_D (fun q => s.heap.size ≤ q) (LW cy u w out tl tc ol ct 1 fv a G ak Gk As Gs Ah Gh th ap asl of tl tc ct a fv) := hD.perm ((pm_mS cy u w out tl tc ol ct 1 fv a G ak Gk As Gs Ah Gh th ap asl of tl tc ct a fv).symm)
    refine lv_istore (lv' := [(6, vI 0), (5, vI 1), (4, vI i), (3, .ref out), (2, .ref (w 0 0)), (1, .ref (u 0 0)), (0, .ref b)]) F.1 F.2.1 dL_law_1966 hl (by decide) rfl (fun ls hl => ?_)
    refine lv_aload_n F.1 F.2.1 dL_law_1968 rfl (lv_at hl 4 rfl) ?_
    refine rr_rdVp (rest := []) F hK (c_X7_thrown l D cy (w 0 0) (w 0 1) (w 0 2) (w 0 3) (w 0 4) (w 0 5) (w 0 6) 1 ct tl) hP (pm_m0 cy u w out tl tc ol ct 1 fv a G ak Gk As Gs Ah Gh th ap asl of tl tc ct a fv) sf_X7_thrown tw902 7 rfl rfl ⟨Nat.le_of_ble_eq_true rfl, Nat.le_of_ble_eq_true rfl⟩ hl rfl (Nat.le_of_ble_eq_true rfl) dL_law_1969 ⟨by show cells + 1 ≤ 601024; omega, by show slots + 6 ≤ 7293033; omega⟩ ?_
    refine lv_iload F.1 F.2.1 dL_law_1972 (lv_at hl 1 rfl) ?_
    refine rr_icmp_eq F (tgt := 1979) dL_law_1974 (by decide) ⟨by omega, by omega⟩ ⟨by omega, by omega⟩ (fun _ => ?_) (fun z => absurd rfl z)
    refine lv_iload F.1 F.2.1 dL_law_1979 (lv_at hl 1 rfl) ?_
    refine rr_if_ne F (tgt := 1996) dL_law_1981 (by decide) ⟨by omega, by omega⟩ (fun _ => ?_) (fun z => by omega)
    refine lv_goto (tgt := 2055) F.1 F.2.1 dL_law_1996 (by decide) ?_
    exact kk _ _ _ _ _ _ _ _ _ _ _ _ _ _ _ _ _ _ H locs ls (hI.mono (by omega)) hP hD hS (lv_sub hl [2, 3, 4, 5, 6] rfl)
set_option maxRecDepth 100000 in
set_option maxHeartbeats 8000000 in
theorem lc_restore {p : Program} {l : Launch} {e : Env} {s : State} {m : MethodId} {args : Array Value} {below : List Frame} {meth : Method} {c : Code} {Q : State → Prop} {b L : Nat} {xs : Nat → Int32} {D : va_G} {cy : Nat → ClassId} {sa : Nat → Nat} {u w : NU} {out : Nat} (hnt : l.stackTraces = false) (F : FX p m c cL_law 7 s args RL) (hK : KK D cy s) (hX : XK sa s) (hZ0 : ZK (fun q => s.heap.size ≤ q) s s.heap) (hxs : va_X b L xs s s.heap) (hb : b < s.heap.size) (hL : L ≤ 2560) {N : Int} {tl : Int} {tc : Int → Int} {ol : Int} {ct : Int} {tr : Int} {fv : Int → Int} {a : Int → Int} {G : Int → Int → Int} {ak : Int → Int} {Gk : Int → Int → Int} {As : Nat → Int → Int} {Gs : Nat → Int → Int → Int} {Ah : Nat → Int → Int} {Gh : Nat → Int → Int → Int} {th : Int → Int} {ap : Int → Int} {asl : Int → Int} {of : Nat → Int64} (hI : INV N tl tc ol ct fv a G As Gs Ah Gh ap asl) (hN : 0 ≤ N ∧ N ≤ 80000000) {i : Int} (hi : 0 ≤ i ∧ i + 5 ≤ L) {H : Heap} {locs : List Loc} {cells slots : Nat} {ls : Array Slot} (hP : va_P D vwCl (LW cy u w out tl tc ol ct tr fv a G ak Gk As Gs Ah Gh th ap asl of tl tc ct a fv) H) (hD : va_D (fun q => s.heap.size ≤ q) (LW cy u w out tl tc ol ct tr fv a G ak Gk As Gs Ah Gh th ap asl of tl tc ct a fv)) (hS : va_S (fun q => s.heap.size ≤ q) s.heap H locs) (hl : lv_has ls 7 [(4, vI i), (3, .ref out), (2, .ref (w 0 0)), (1, .ref (u 0 0)), (0, .ref b)]) (hc : cells + 1 ≤ 601024 ∧ slots + 6 ≤ 7293033) (kk : LK p l e s m args below meth c D cy u w out b (N + 50) i (cells + 1) (slots + 6) Q) : W p l e room_1 s m args below meth c H locs cells slots Q (F0 m 1999 ls []) := by
  have hT := hI.1
  obtain ⟨hZ, hSV, hsp0, hsp1⟩ := hI.2.1
  have hM := SB.mr hZ
  have hn0 := hM.n
  have hw0 := hM.nw
  have hc0 := hM.wc
  have hol := hI.2.2.1
  have hct := hI.2.2.2.1
  have hbA : ¬ (fun q => s.heap.size ≤ q) b := Nat.not_le.mpr hb
  have hA : ∀ q, s.heap.size ≤ q → (fun q => s.heap.size ≤ q) q := fun q h => h
  have hZ1 : ZK nA s H := (hZ0.kept (fun a h1 h2 => hS.2.1 a h1 h2)).narrow (fun _ h => h.elim)
  refine lv_aload_n F.1 F.2.1 dL_law_1999 rfl (lv_at hl 3 rfl) ?_
  refine lv_aload_n F.1 F.2.1 dL_law_2000 rfl (lv_at hl 4 rfl) ?_
  refine lv_iload F.1 F.2.1 dL_law_2001 (lv_at hl 0 rfl) ?_
  refine rr_iconst F dL_law_2003 ?_
  refine rr_iadd F (z := i + 1) dL_law_2004 rfl ?_
  refine rr_sld F (A := fun q => s.heap.size ≤ q) hxs hb hbA hS (by omega) (by omega) hL dL_law_2005 ?_
  refine lv_aload_n F.1 F.2.1 dL_law_2006 rfl (lv_at hl 1 rfl) ?_
  have hb_1 := XI_b xs (i + 1)
  by_cases hx0 : 0 ≤ (XI xs (i + 1)) ∧ (XI xs (i + 1)) ≤ 1
  · have hfv := (hI.2.2.2.2.2 (XI xs (i + 1)) (by omega) (by omega)).1
    by_cases hx1 : fv (XI xs (i + 1)) = 1
    · rcases (show (XI xs (i + 1)) = 0 ∨ (XI xs (i + 1)) = 1 by omega) with hk | hk
      · have hkn : ((XI xs (i + 1))).toNat = 0 := by rw [hk]; rfl
        refine W.widen (k := cells + 1) (n := slots + 6) (by omega) (by omega) ?_
        have hvr : inR ((As 0) 0) := (by have h := (hI.2.2.2.2.2 (XI xs (i + 1)) (by omega) (by omega)).2 hx1; rw [hkn] at h; have h2 := (SB.mr h.1.1).n; exact ⟨by omega, by omega⟩)
        refine rr_wwS (rest := []) F hK (w_restore l D cy (u 0 0) (u 1 0) (u 3 0) (u 0 1) (u 0 2) (u 4 0) (u 4 1) (fun i => u (Int.toNat i + 7) 0) ol ct (fun i => u (Int.toNat i + 5) 0) fv (u 2 0) (u 2 1) (u 2 2) (u 2 3) (u 2 4) (u 2 5) (u 2 6) (fun i => u 2 (7 + Int.toNat i)) (u 5 0) (u 5 1) (u 5 2) (u 5 3) (u 5 4) (u 5 5) (u 5 6) (fun i => u 5 (7 + Int.toNat i)) a (As 0) G (Gs 0) (XI xs (i + 1)) out of hol hct (by first | assumption | omega | exact ⟨by omega, by omega⟩) hx1 (by have h := (hI.2.2.2.2.2 (XI xs (i + 1)) (by omega) (by omega)).2 hx1; rw [hkn] at h; exact h.1.1) (by show u (Int.toNat (XI xs (i + 1)) + 5) 0 = u (0 + 5) 0; rw [hkn]) hvr) hP hD hS hA sfw_restore tw856 ⟨Nat.le_of_ble_eq_true rfl, Nat.le_of_ble_eq_true rfl⟩ hl rfl (Nat.le_of_ble_eq_true rfl) dL_law_2007 ⟨by show cells + 1 ≤ 601024; omega, by show slots + 6 ≤ 7293033; omega⟩ (pm_cS0H cy u w out tl tc ol ct tr fv a G ak Gk As Gs Ah Gh th ap asl of tl tc ct a fv) rfl (fun H locs hP hD hS _ => ?_)
        have hP : va_P D vwCl (LW cy u w out tl tc ol 0 tr fv (As 0) (Gs 0) ak Gk As Gs Ah Gh th ap asl (vp_updL of 0 (lI ((As 0) 0))) tl tc ct a fv) H := hP.perm ((pm_cS0H cy u w out tl tc ol 0 tr fv (As 0) (Gs 0) ak Gk As Gs Ah Gh th ap asl (vp_updL of 0 (lI ((As 0) 0))) tl tc ct a fv).symm)
        have hD : va_D (fun q => s.heap.size ≤ q) (LW cy u w out tl tc ol 0 tr fv (As 0) (Gs 0) ak Gk As Gs Ah Gh th ap asl (vp_updL of 0 (lI ((As 0) 0))) tl tc ct a fv) := hD.perm ((pm_cS0H cy u w out tl tc ol 0 tr fv (As 0) (Gs 0) ak Gk As Gs Ah Gh th ap asl (vp_updL of 0 (lI ((As 0) 0))) tl tc ct a fv).symm)
        refine lv_istore (lv' := [(5, vI 0), (4, vI i), (3, .ref out), (2, .ref (w 0 0)), (1, .ref (u 0 0)), (0, .ref b)]) F.1 F.2.1 dL_law_2010 hl (by decide) rfl (fun ls hl => ?_)
        refine lv_aload_n F.1 F.2.1 dL_law_2012 rfl (lv_at hl 3 rfl) ?_
        refine lv_aload_n F.1 F.2.1 dL_law_2013 rfl (lv_at hl 5 rfl) ?_
        refine lv_iload F.1 F.2.1 dL_law_2014 (lv_at hl 1 rfl) ?_
        refine rr_iconst F dL_law_2016 ?_
        refine rr_iadd F (z := i + 1) dL_law_2017 rfl ?_
        refine rr_sld F (A := fun q => s.heap.size ≤ q) hxs hb hbA hS (by omega) (by omega) hL dL_law_2018 ?_
        refine rr_wrVp (rest := []) F hK (c_X7_restore l D cy (w 0 0) (w 0 1) (w 0 2) (w 0 3) (w 0 4) (w 0 5) (w 0 6) tr ct tl a asl fv (XI xs (i + 1)) hM (XI_r _ _) (fun j x y => (hI.2.2.2.2.2 j x y).1) (by first | assumption | omega | exact ⟨by omega, by omega⟩) (by first | assumption | omega | exact ⟨by omega, by omega⟩)) hP hD hS hA sf_X7_restore tw1248 7 rfl rfl ⟨Nat.le_of_ble_eq_true rfl, Nat.le_of_ble_eq_true rfl⟩ hl rfl (Nat.le_of_ble_eq_true rfl) dL_law_2019 ⟨by show cells + 1 ≤ 601024; omega, by show slots + 6 ≤ 7293033; omega⟩ (pm_mS cy u w out tl tc ol 0 tr fv (As 0) (Gs 0) ak Gk As Gs Ah Gh th ap asl (vp_updL of 0 (lI ((As 0) 0))) tl tc ct a fv) rfl (fun H locs hP hD hS _ => ?_)
        have hP : va_P D vwCl (LW cy u w out tl tc ol 0 0 fv (As 0) (Gs 0) ak Gk As Gs Ah Gh th ap asl (vp_updL of 0 (lI ((As 0) 0))) tl tc 0 (cpZ asl a (118 * (XI xs (i + 1))) 0 118) fv) H := hP.perm ((pm_mS cy u w out tl tc ol 0 0 fv (As 0) (Gs 0) ak Gk As Gs Ah Gh th ap asl (vp_updL of 0 (lI ((As 0) 0))) tl tc 0 (cpZ asl a (118 * (XI xs (i + 1))) 0 118) fv).symm)
        have hD : va_D (fun q => s.heap.size ≤ q) (LW cy u w out tl tc ol 0 0 fv (As 0) (Gs 0) ak Gk As Gs Ah Gh th ap asl (vp_updL of 0 (lI ((As 0) 0))) tl tc 0 (cpZ asl a (118 * (XI xs (i + 1))) 0 118) fv) := hD.perm ((pm_mS cy u w out tl tc ol 0 0 fv (As 0) (Gs 0) ak Gk As Gs Ah Gh th ap asl (vp_updL of 0 (lI ((As 0) 0))) tl tc 0 (cpZ asl a (118 * (XI xs (i + 1))) 0 118) fv).symm)
        have hr5 := (hI.2.2.2.2.2 (XI xs (i + 1)) (by omega) (by omega)).2 hx1
        rw [hkn] at hr5
        obtain ⟨hP, hD⟩ := LW_row D cy u w out tl tc ol 0 0 fv (As 0) (Gs 0) ak Gk As Gs Ah Gh th ap asl (vp_updL of 0 (lI ((As 0) 0))) tl tc 0 (cpZ asl a (118 * (XI xs (i + 1))) 0 118) fv (an2 := As 0) (fun j y0 y1 => by rw [cpZ_in (by omega) (by omega), show 118 * (XI xs (i + 1)) + (j - 0) = 118 * (XI xs (i + 1)) + j by omega]; exact hr5.2 j y0 y1) hP hD
        have hP : va_P D vwCl (LW cy u w out tl tc ol 0 0 fv (As 0) (Gs 0) ak Gk As Gs Ah Gh th ap asl (vp_updL of 0 (lI ((As 0) 0))) tl tc 0 (As 0) fv) H := hP
        have hD : va_D (fun q => s.heap.size ≤ q) (LW cy u w out tl tc ol 0 0 fv (As 0) (Gs 0) ak Gk As Gs Ah Gh th ap asl (vp_updL of 0 (lI ((As 0) 0))) tl tc 0 (As 0) fv) := hD
        rw [show (asl (118 * (XI xs (i + 1))) : Int) = ((As 0) 0) from (by have h := hr5.2 0 (by omega) (by omega); rw [show 118 * (XI xs (i + 1)) + 0 = 118 * (XI xs (i + 1)) by omega] at h; exact h)]
        refine lv_istore (lv' := [(6, vI ((As 0) 0)), (5, vI 0), (4, vI i), (3, .ref out), (2, .ref (w 0 0)), (1, .ref (u 0 0)), (0, .ref b)]) F.1 F.2.1 dL_law_2022 hl (by decide) rfl (fun ls hl => ?_)
        refine lv_aload_n F.1 F.2.1 dL_law_2024 rfl (lv_at hl 4 rfl) ?_
        refine rr_rdVp (rest := []) F hK (c_X7_thrown l D cy (w 0 0) (w 0 1) (w 0 2) (w 0 3) (w 0 4) (w 0 5) (w 0 6) 0 0 tl) hP (pm_m0 cy u w out tl tc ol 0 0 fv (As 0) (Gs 0) ak Gk As Gs Ah Gh th ap asl (vp_updL of 0 (lI ((As 0) 0))) tl tc 0 (As 0) fv) sf_X7_thrown tw902 7 rfl rfl ⟨Nat.le_of_ble_eq_true rfl, Nat.le_of_ble_eq_true rfl⟩ hl rfl (Nat.le_of_ble_eq_true rfl) dL_law_2025 ⟨by show cells + 1 ≤ 601024; omega, by show slots + 6 ≤ 7293033; omega⟩ ?_
        refine lv_iload F.1 F.2.1 dL_law_2028 (lv_at hl 1 rfl) ?_
        refine rr_icmp_eq F (tgt := 2035) dL_law_2030 (by decide) ⟨by omega, by omega⟩ ⟨by omega, by omega⟩ (fun _ => ?_) (fun z => absurd rfl z)
        refine lv_iload F.1 F.2.1 dL_law_2035 (lv_at hl 1 rfl) ?_
        refine rr_if_ne F (tgt := 2052) dL_law_2037 (by decide) ⟨by omega, by omega⟩ (fun z => absurd rfl z) (fun _ => ?_)
        refine lv_aload_n F.1 F.2.1 dL_law_2040 rfl (lv_at hl 3 rfl) ?_
        refine rr_iconst F dL_law_2041 ?_
        refine rr_lald0 F hK (hP.perm (pm_o cy u w out tl tc ol 0 0 fv (As 0) (Gs 0) ak Gk As Gs Ah Gh th ap asl (vp_updL of 0 (lI ((As 0) 0))) tl tc 0 (As 0) fv)) 0 rfl dL_law_2042 ?_
        refine lv_iload F.1 F.2.1 dL_law_2043 (lv_at hl 0 rfl) ?_
        refine rr_i2l F dL_law_2045 hvr ?_
        refine rr_lcmp F (a := (As 0) 0) (b := (As 0) 0) dL_law_2046 (inL_r hvr) (inL_r hvr) ?_
        refine rr_if_eq F (tgt := 2052) dL_law_2047 (by decide) (lcm_r _ _) (fun _ => ?_) (fun z => absurd ((lcm_spec _ _).2.1.mpr rfl) z)
        refine lv_goto (tgt := 2055) F.1 F.2.1 dL_law_2052 (by decide) ?_
        exact kk _ _ _ _ _ _ _ _ _ _ _ _ _ _ _ _ _ _ H locs ls (by have h := (INV.rest (k0 := (XI xs (i + 1))) (by omega) hx1 hI).mono (M := N + 50) (by omega); rw [hkn] at h; exact h) hP hD hS (lv_sub hl [2, 3, 4, 5, 6] rfl)
      · have hkn : ((XI xs (i + 1))).toNat = 1 := by rw [hk]; rfl
        refine W.widen (k := cells + 1) (n := slots + 6) (by omega) (by omega) ?_
        have hvr : inR ((As 1) 0) := (by have h := (hI.2.2.2.2.2 (XI xs (i + 1)) (by omega) (by omega)).2 hx1; rw [hkn] at h; have h2 := (SB.mr h.1.1).n; exact ⟨by omega, by omega⟩)
        refine rr_wwS (rest := []) F hK (w_restore l D cy (u 0 0) (u 1 0) (u 3 0) (u 0 1) (u 0 2) (u 4 0) (u 4 1) (fun i => u (Int.toNat i + 7) 0) ol ct (fun i => u (Int.toNat i + 5) 0) fv (u 2 0) (u 2 1) (u 2 2) (u 2 3) (u 2 4) (u 2 5) (u 2 6) (fun i => u 2 (7 + Int.toNat i)) (u 6 0) (u 6 1) (u 6 2) (u 6 3) (u 6 4) (u 6 5) (u 6 6) (fun i => u 6 (7 + Int.toNat i)) a (As 1) G (Gs 1) (XI xs (i + 1)) out of hol hct (by first | assumption | omega | exact ⟨by omega, by omega⟩) hx1 (by have h := (hI.2.2.2.2.2 (XI xs (i + 1)) (by omega) (by omega)).2 hx1; rw [hkn] at h; exact h.1.1) (by show u (Int.toNat (XI xs (i + 1)) + 5) 0 = u (1 + 5) 0; rw [hkn]) hvr) hP hD hS hA sfw_restore tw856 ⟨Nat.le_of_ble_eq_true rfl, Nat.le_of_ble_eq_true rfl⟩ hl rfl (Nat.le_of_ble_eq_true rfl) dL_law_2007 ⟨by show cells + 1 ≤ 601024; omega, by show slots + 6 ≤ 7293033; omega⟩ (pm_cS1H cy u w out tl tc ol ct tr fv a G ak Gk As Gs Ah Gh th ap asl of tl tc ct a fv) rfl (fun H locs hP hD hS _ => ?_)
        have hP : va_P D vwCl (LW cy u w out tl tc ol 0 tr fv (As 1) (Gs 1) ak Gk As Gs Ah Gh th ap asl (vp_updL of 0 (lI ((As 1) 0))) tl tc ct a fv) H := hP.perm ((pm_cS1H cy u w out tl tc ol 0 tr fv (As 1) (Gs 1) ak Gk As Gs Ah Gh th ap asl (vp_updL of 0 (lI ((As 1) 0))) tl tc ct a fv).symm)
        have hD : va_D (fun q => s.heap.size ≤ q) (LW cy u w out tl tc ol 0 tr fv (As 1) (Gs 1) ak Gk As Gs Ah Gh th ap asl (vp_updL of 0 (lI ((As 1) 0))) tl tc ct a fv) := hD.perm ((pm_cS1H cy u w out tl tc ol 0 tr fv (As 1) (Gs 1) ak Gk As Gs Ah Gh th ap asl (vp_updL of 0 (lI ((As 1) 0))) tl tc ct a fv).symm)
        refine lv_istore (lv' := [(5, vI 0), (4, vI i), (3, .ref out), (2, .ref (w 0 0)), (1, .ref (u 0 0)), (0, .ref b)]) F.1 F.2.1 dL_law_2010 hl (by decide) rfl (fun ls hl => ?_)
        refine lv_aload_n F.1 F.2.1 dL_law_2012 rfl (lv_at hl 3 rfl) ?_
        refine lv_aload_n F.1 F.2.1 dL_law_2013 rfl (lv_at hl 5 rfl) ?_
        refine lv_iload F.1 F.2.1 dL_law_2014 (lv_at hl 1 rfl) ?_
        refine rr_iconst F dL_law_2016 ?_
        refine rr_iadd F (z := i + 1) dL_law_2017 rfl ?_
        refine rr_sld F (A := fun q => s.heap.size ≤ q) hxs hb hbA hS (by omega) (by omega) hL dL_law_2018 ?_
        refine rr_wrVp (rest := []) F hK (c_X7_restore l D cy (w 0 0) (w 0 1) (w 0 2) (w 0 3) (w 0 4) (w 0 5) (w 0 6) tr ct tl a asl fv (XI xs (i + 1)) hM (XI_r _ _) (fun j x y => (hI.2.2.2.2.2 j x y).1) (by first | assumption | omega | exact ⟨by omega, by omega⟩) (by first | assumption | omega | exact ⟨by omega, by omega⟩)) hP hD hS hA sf_X7_restore tw1248 7 rfl rfl ⟨Nat.le_of_ble_eq_true rfl, Nat.le_of_ble_eq_true rfl⟩ hl rfl (Nat.le_of_ble_eq_true rfl) dL_law_2019 ⟨by show cells + 1 ≤ 601024; omega, by show slots + 6 ≤ 7293033; omega⟩ (pm_mS cy u w out tl tc ol 0 tr fv (As 1) (Gs 1) ak Gk As Gs Ah Gh th ap asl (vp_updL of 0 (lI ((As 1) 0))) tl tc ct a fv) rfl (fun H locs hP hD hS _ => ?_)
        have hP : va_P D vwCl (LW cy u w out tl tc ol 0 0 fv (As 1) (Gs 1) ak Gk As Gs Ah Gh th ap asl (vp_updL of 0 (lI ((As 1) 0))) tl tc 0 (cpZ asl a (118 * (XI xs (i + 1))) 0 118) fv) H := hP.perm ((pm_mS cy u w out tl tc ol 0 0 fv (As 1) (Gs 1) ak Gk As Gs Ah Gh th ap asl (vp_updL of 0 (lI ((As 1) 0))) tl tc 0 (cpZ asl a (118 * (XI xs (i + 1))) 0 118) fv).symm)
        have hD : va_D (fun q => s.heap.size ≤ q) (LW cy u w out tl tc ol 0 0 fv (As 1) (Gs 1) ak Gk As Gs Ah Gh th ap asl (vp_updL of 0 (lI ((As 1) 0))) tl tc 0 (cpZ asl a (118 * (XI xs (i + 1))) 0 118) fv) := hD.perm ((pm_mS cy u w out tl tc ol 0 0 fv (As 1) (Gs 1) ak Gk As Gs Ah Gh th ap asl (vp_updL of 0 (lI ((As 1) 0))) tl tc 0 (cpZ asl a (118 * (XI xs (i + 1))) 0 118) fv).symm)
        have hr5 := (hI.2.2.2.2.2 (XI xs (i + 1)) (by omega) (by omega)).2 hx1
        rw [hkn] at hr5
        obtain ⟨hP, hD⟩ := LW_row D cy u w out tl tc ol 0 0 fv (As 1) (Gs 1) ak Gk As Gs Ah Gh th ap asl (vp_updL of 0 (lI ((As 1) 0))) tl tc 0 (cpZ asl a (118 * (XI xs (i + 1))) 0 118) fv (an2 := As 1) (fun j y0 y1 => by rw [cpZ_in (by omega) (by omega), show 118 * (XI xs (i + 1)) + (j - 0) = 118 * (XI xs (i + 1)) + j by omega]; exact hr5.2 j y0 y1) hP hD
        have hP : va_P D vwCl (LW cy u w out tl tc ol 0 0 fv (As 1) (Gs 1) ak Gk As Gs Ah Gh th ap asl (vp_updL of 0 (lI ((As 1) 0))) tl tc 0 (As 1) fv) H := hP
        have hD : va_D (fun q => s.heap.size ≤ q) (LW cy u w out tl tc ol 0 0 fv (As 1) (Gs 1) ak Gk As Gs Ah Gh th ap asl (vp_updL of 0 (lI ((As 1) 0))) tl tc 0 (As 1) fv) := hD
        rw [show (asl (118 * (XI xs (i + 1))) : Int) = ((As 1) 0) from (by have h := hr5.2 0 (by omega) (by omega); rw [show 118 * (XI xs (i + 1)) + 0 = 118 * (XI xs (i + 1)) by omega] at h; exact h)]
        refine lv_istore (lv' := [(6, vI ((As 1) 0)), (5, vI 0), (4, vI i), (3, .ref out), (2, .ref (w 0 0)), (1, .ref (u 0 0)), (0, .ref b)]) F.1 F.2.1 dL_law_2022 hl (by decide) rfl (fun ls hl => ?_)
        refine lv_aload_n F.1 F.2.1 dL_law_2024 rfl (lv_at hl 4 rfl) ?_
        refine rr_rdVp (rest := []) F hK (c_X7_thrown l D cy (w 0 0) (w 0 1) (w 0 2) (w 0 3) (w 0 4) (w 0 5) (w 0 6) 0 0 tl) hP (pm_m0 cy u w out tl tc ol 0 0 fv (As 1) (Gs 1) ak Gk As Gs Ah Gh th ap asl (vp_updL of 0 (lI ((As 1) 0))) tl tc 0 (As 1) fv) sf_X7_thrown tw902 7 rfl rfl ⟨Nat.le_of_ble_eq_true rfl, Nat.le_of_ble_eq_true rfl⟩ hl rfl (Nat.le_of_ble_eq_true rfl) dL_law_2025 ⟨by show cells + 1 ≤ 601024; omega, by show slots + 6 ≤ 7293033; omega⟩ ?_
        refine lv_iload F.1 F.2.1 dL_law_2028 (lv_at hl 1 rfl) ?_
        refine rr_icmp_eq F (tgt := 2035) dL_law_2030 (by decide) ⟨by omega, by omega⟩ ⟨by omega, by omega⟩ (fun _ => ?_) (fun z => absurd rfl z)
        refine lv_iload F.1 F.2.1 dL_law_2035 (lv_at hl 1 rfl) ?_
        refine rr_if_ne F (tgt := 2052) dL_law_2037 (by decide) ⟨by omega, by omega⟩ (fun z => absurd rfl z) (fun _ => ?_)
        refine lv_aload_n F.1 F.2.1 dL_law_2040 rfl (lv_at hl 3 rfl) ?_
        refine rr_iconst F dL_law_2041 ?_
        refine rr_lald0 F hK (hP.perm (pm_o cy u w out tl tc ol 0 0 fv (As 1) (Gs 1) ak Gk As Gs Ah Gh th ap asl (vp_updL of 0 (lI ((As 1) 0))) tl tc 0 (As 1) fv)) 0 rfl dL_law_2042 ?_
        refine lv_iload F.1 F.2.1 dL_law_2043 (lv_at hl 0 rfl) ?_
        refine rr_i2l F dL_law_2045 hvr ?_
        refine rr_lcmp F (a := (As 1) 0) (b := (As 1) 0) dL_law_2046 (inL_r hvr) (inL_r hvr) ?_
        refine rr_if_eq F (tgt := 2052) dL_law_2047 (by decide) (lcm_r _ _) (fun _ => ?_) (fun z => absurd ((lcm_spec _ _).2.1.mpr rfl) z)
        refine lv_goto (tgt := 2055) F.1 F.2.1 dL_law_2052 (by decide) ?_
        exact kk _ _ _ _ _ _ _ _ _ _ _ _ _ _ _ _ _ _ H locs ls (by have h := (INV.rest (k0 := (XI xs (i + 1))) (by omega) hx1 hI).mono (M := N + 50) (by omega); rw [hkn] at h; exact h) hP hD hS (lv_sub hl [2, 3, 4, 5, 6] rfl)
    · refine rr_twS (rest := []) F hK hX hZ1 (r_restore_29 l hnt D cy sa (u 0 0) (u 1 0) (u 2 0) (u 3 0) (u 4 0) (u 0 1) (u 0 2) fv (XI xs (i + 1)) out (XI_r _ _) (by first | assumption | omega | exact ⟨by omega, by omega⟩) (by first | assumption | omega | exact ⟨by omega, by omega⟩)) hP hS sfw_restore tw856 ⟨Nat.le_of_ble_eq_true rfl, Nat.le_of_ble_eq_true rfl⟩ hl rfl (Nat.le_of_ble_eq_true rfl) dL_law_2007 ⟨by show cells + 1 ≤ 601024; omega, by show slots + 6 ≤ 7293033; omega⟩ (pm_cF cy u w out tl tc ol ct tr fv a G ak Gk As Gs Ah Gh th ap asl of tl tc ct a fv) (fun H locs hP hS _ => ?_)
      refine lv_istore (lv' := [(5, vI 2), (4, vI i), (3, .ref out), (2, .ref (w 0 0)), (1, .ref (u 0 0)), (0, .ref b)]) F.1 F.2.1 dL_law_2010 hl (by decide) rfl (fun ls hl => ?_)
      refine lv_aload_n F.1 F.2.1 dL_law_2012 rfl (lv_at hl 3 rfl) ?_
      refine lv_aload_n F.1 F.2.1 dL_law_2013 rfl (lv_at hl 5 rfl) ?_
      refine lv_iload F.1 F.2.1 dL_law_2014 (lv_at hl 1 rfl) ?_
      refine rr_iconst F dL_law_2016 ?_
      refine rr_iadd F (z := i + 1) dL_law_2017 rfl ?_
      refine rr_sld F (A := fun q => s.heap.size ≤ q) hxs hb hbA hS (by omega) (by omega) hL dL_law_2018 ?_
      have hcode : (if 0 ≤ (XI xs (i + 1)) ∧ (XI xs (i + 1)) ≤ 1 then 2 else 1 : Int) = 2 := by first | rfl | ((repeat' split) <;> first | rfl | omega)
      refine rr_wrVp (rest := []) F hK (n_X7_restore l D cy (w 0 0) (w 0 1) (w 0 2) (w 0 3) (w 0 4) (w 0 5) (w 0 6) tr ct tl a asl fv (XI xs (i + 1)) hM (XI_r _ _) (fun j x y => (hI.2.2.2.2.2 j x y).1) (by first | assumption | omega)) hP hD hS hA sf_X7_restore tw1248 7 rfl rfl ⟨Nat.le_of_ble_eq_true rfl, Nat.le_of_ble_eq_true rfl⟩ hl rfl (Nat.le_of_ble_eq_true rfl) dL_law_2019 ⟨by show cells + 1 ≤ 601024; omega, by show slots + 6 ≤ 7293033; omega⟩ (pm_mS cy u w out tl tc ol ct tr fv a G ak Gk As Gs Ah Gh th ap asl of tl tc ct a fv) rfl (fun H locs hP hD hS _ => ?_)
      have hP : va_P D vwCl (LW cy u w out tl tc ol ct (if 0 ≤ (XI xs (i + 1)) ∧ (XI xs (i + 1)) ≤ 1 then 2 else 1) fv a G ak Gk As Gs Ah Gh th ap asl of tl tc ct a fv) H := hP.perm ((pm_mS cy u w out tl tc ol ct (if 0 ≤ (XI xs (i + 1)) ∧ (XI xs (i + 1)) ≤ 1 then 2 else 1) fv a G ak Gk As Gs Ah Gh th ap asl of tl tc ct a fv).symm)
      have hD : va_D (fun q => s.heap.size ≤ q) (LW cy u w out tl tc ol ct (if 0 ≤ (XI xs (i + 1)) ∧ (XI xs (i + 1)) ≤ 1 then 2 else 1) fv a G ak Gk As Gs Ah Gh th ap asl of tl tc ct a fv) := hD.perm ((pm_mS cy u w out tl tc ol ct (if 0 ≤ (XI xs (i + 1)) ∧ (XI xs (i + 1)) ≤ 1 then 2 else 1) fv a G ak Gk As Gs Ah Gh th ap asl of tl tc ct a fv).symm)
      rw [hcode] at hP hD
      refine lv_istore (lv' := [(6, vI 0), (5, vI 2), (4, vI i), (3, .ref out), (2, .ref (w 0 0)), (1, .ref (u 0 0)), (0, .ref b)]) F.1 F.2.1 dL_law_2022 hl (by decide) rfl (fun ls hl => ?_)
      refine lv_aload_n F.1 F.2.1 dL_law_2024 rfl (lv_at hl 4 rfl) ?_
      refine rr_rdVp (rest := []) F hK (c_X7_thrown l D cy (w 0 0) (w 0 1) (w 0 2) (w 0 3) (w 0 4) (w 0 5) (w 0 6) 2 ct tl) hP (pm_m0 cy u w out tl tc ol ct 2 fv a G ak Gk As Gs Ah Gh th ap asl of tl tc ct a fv) sf_X7_thrown tw902 7 rfl rfl ⟨Nat.le_of_ble_eq_true rfl, Nat.le_of_ble_eq_true rfl⟩ hl rfl (Nat.le_of_ble_eq_true rfl) dL_law_2025 ⟨by show cells + 1 ≤ 601024; omega, by show slots + 6 ≤ 7293033; omega⟩ ?_
      refine lv_iload F.1 F.2.1 dL_law_2028 (lv_at hl 1 rfl) ?_
      refine rr_icmp_eq F (tgt := 2035) dL_law_2030 (by decide) ⟨by omega, by omega⟩ ⟨by omega, by omega⟩ (fun _ => ?_) (fun z => absurd rfl z)
      refine lv_iload F.1 F.2.1 dL_law_2035 (lv_at hl 1 rfl) ?_
      refine rr_if_ne F (tgt := 2052) dL_law_2037 (by decide) ⟨by omega, by omega⟩ (fun _ => ?_) (fun z => by omega)
      refine lv_goto (tgt := 2055) F.1 F.2.1 dL_law_2052 (by decide) ?_
      exact kk _ _ _ _ _ _ _ _ _ _ _ _ _ _ _ _ _ _ H locs ls (hI.mono (by omega)) hP hD hS (lv_sub hl [2, 3, 4, 5, 6] rfl)
  · refine rr_twS (rest := []) F hK hX hZ1 (r_restore_9 l hnt D cy sa (u 0 0) (u 1 0) (u 2 0) (u 3 0) (u 4 0) (u 0 1) (u 0 2) (XI xs (i + 1)) out (XI_r _ _) (by first | assumption | omega | exact ⟨by omega, by omega⟩)) hP hS sfw_restore tw856 ⟨Nat.le_of_ble_eq_true rfl, Nat.le_of_ble_eq_true rfl⟩ hl rfl (Nat.le_of_ble_eq_true rfl) dL_law_2007 ⟨by show cells + 1 ≤ 601024; omega, by show slots + 6 ≤ 7293033; omega⟩ (pm_c0 cy u w out tl tc ol ct tr fv a G ak Gk As Gs Ah Gh th ap asl of tl tc ct a fv) (fun H locs hP hS _ => ?_)
    refine lv_istore (lv' := [(5, vI 1), (4, vI i), (3, .ref out), (2, .ref (w 0 0)), (1, .ref (u 0 0)), (0, .ref b)]) F.1 F.2.1 dL_law_2010 hl (by decide) rfl (fun ls hl => ?_)
    refine lv_aload_n F.1 F.2.1 dL_law_2012 rfl (lv_at hl 3 rfl) ?_
    refine lv_aload_n F.1 F.2.1 dL_law_2013 rfl (lv_at hl 5 rfl) ?_
    refine lv_iload F.1 F.2.1 dL_law_2014 (lv_at hl 1 rfl) ?_
    refine rr_iconst F dL_law_2016 ?_
    refine rr_iadd F (z := i + 1) dL_law_2017 rfl ?_
    refine rr_sld F (A := fun q => s.heap.size ≤ q) hxs hb hbA hS (by omega) (by omega) hL dL_law_2018 ?_
    have hcode : (if 0 ≤ (XI xs (i + 1)) ∧ (XI xs (i + 1)) ≤ 1 then 2 else 1 : Int) = 1 := by first | rfl | ((repeat' split) <;> first | rfl | omega)
    refine rr_wrVp (rest := []) F hK (n_X7_restore l D cy (w 0 0) (w 0 1) (w 0 2) (w 0 3) (w 0 4) (w 0 5) (w 0 6) tr ct tl a asl fv (XI xs (i + 1)) hM (XI_r _ _) (fun j x y => (hI.2.2.2.2.2 j x y).1) (by first | assumption | omega)) hP hD hS hA sf_X7_restore tw1248 7 rfl rfl ⟨Nat.le_of_ble_eq_true rfl, Nat.le_of_ble_eq_true rfl⟩ hl rfl (Nat.le_of_ble_eq_true rfl) dL_law_2019 ⟨by show cells + 1 ≤ 601024; omega, by show slots + 6 ≤ 7293033; omega⟩ (pm_mS cy u w out tl tc ol ct tr fv a G ak Gk As Gs Ah Gh th ap asl of tl tc ct a fv) rfl (fun H locs hP hD hS _ => ?_)
    have hP : va_P D vwCl (LW cy u w out tl tc ol ct (if 0 ≤ (XI xs (i + 1)) ∧ (XI xs (i + 1)) ≤ 1 then 2 else 1) fv a G ak Gk As Gs Ah Gh th ap asl of tl tc ct a fv) H := hP.perm ((pm_mS cy u w out tl tc ol ct (if 0 ≤ (XI xs (i + 1)) ∧ (XI xs (i + 1)) ≤ 1 then 2 else 1) fv a G ak Gk As Gs Ah Gh th ap asl of tl tc ct a fv).symm)
    have hD : va_D (fun q => s.heap.size ≤ q) (LW cy u w out tl tc ol ct (if 0 ≤ (XI xs (i + 1)) ∧ (XI xs (i + 1)) ≤ 1 then 2 else 1) fv a G ak Gk As Gs Ah Gh th ap asl of tl tc ct a fv) := hD.perm ((pm_mS cy u w out tl tc ol ct (if 0 ≤ (XI xs (i + 1)) ∧ (XI xs (i + 1)) ≤ 1 then 2 else 1) fv a G ak Gk As Gs Ah Gh th ap asl of tl tc ct a fv).symm)
    rw [hcode] at hP hD
    refine lv_istore (lv' := [(6, vI 0), (5, vI 1), (4, vI i), (3, .ref out), (2, .ref (w 0 0)), (1, .ref (u 0 0)), (0, .ref b)]) F.1 F.2.1 dL_law_2022 hl (by decide) rfl (fun ls hl => ?_)
    refine lv_aload_n F.1 F.2.1 dL_law_2024 rfl (lv_at hl 4 rfl) ?_
    refine rr_rdVp (rest := []) F hK (c_X7_thrown l D cy (w 0 0) (w 0 1) (w 0 2) (w 0 3) (w 0 4) (w 0 5) (w 0 6) 1 ct tl) hP (pm_m0 cy u w out tl tc ol ct 1 fv a G ak Gk As Gs Ah Gh th ap asl of tl tc ct a fv) sf_X7_thrown tw902 7 rfl rfl ⟨Nat.le_of_ble_eq_true rfl, Nat.le_of_ble_eq_true rfl⟩ hl rfl (Nat.le_of_ble_eq_true rfl) dL_law_2025 ⟨by show cells + 1 ≤ 601024; omega, by show slots + 6 ≤ 7293033; omega⟩ ?_
    refine lv_iload F.1 F.2.1 dL_law_2028 (lv_at hl 1 rfl) ?_
    refine rr_icmp_eq F (tgt := 2035) dL_law_2030 (by decide) ⟨by omega, by omega⟩ ⟨by omega, by omega⟩ (fun _ => ?_) (fun z => absurd rfl z)
    refine lv_iload F.1 F.2.1 dL_law_2035 (lv_at hl 1 rfl) ?_
    refine rr_if_ne F (tgt := 2052) dL_law_2037 (by decide) ⟨by omega, by omega⟩ (fun _ => ?_) (fun z => by omega)
    refine lv_goto (tgt := 2055) F.1 F.2.1 dL_law_2052 (by decide) ?_
    exact kk _ _ _ _ _ _ _ _ _ _ _ _ _ _ _ _ _ _ H locs ls (hI.mono (by omega)) hP hD hS (lv_sub hl [2, 3, 4, 5, 6] rfl)
