-- the law's loop: laid by law2.py
theorem and31 (x : Int32) : 0 ≤ (x &&& 31).toInt ∧ (x &&& 31).toInt ≤ 31 := by
  have h : (x &&& 31).toBitVec.toNat ≤ 31 := by
    rw [Int32.toBitVec_and, BitVec.toNat_and]
    exact Nat.and_le_right
  have e : (x &&& 31).toInt = ((x &&& 31).toBitVec.toNat : Int) := by
    show (x &&& 31).toBitVec.toInt = _
    rw [BitVec.toInt_eq_toNat_of_lt (by omega)]
  omega
set_option maxRecDepth 100000 in
set_option maxHeartbeats 8000000 in
theorem law_loop {p : Program} {l : Launch} {e : Env} {s : State} {m : MethodId} {args : Array Value} {below : List Frame} {meth : Method} {c : Code} {Q : State → Prop} {b L : Nat} {xs : Nat → Int32} {D : va_G} {cy : Nat → ClassId} {sa : Nat → Nat} {u w : NU} {out : Nat} (hnt : l.stackTraces = false) (F : FX p m c cL_law 7 s args RL) (hK : KK D cy s) (hX : XK sa s) (hZ0 : ZK (fun q => s.heap.size ≤ q) s s.heap) (hxs : va_X b L xs s s.heap) (hb : b < s.heap.size) (hL : L ≤ 2560) (kend : ∀ (H : Heap) (locs : List Loc) (ls : Array Slot) (cells slots : Nat), va_S (fun q => s.heap.size ≤ q) s.heap H locs → cells ≤ 601024 → slots ≤ 7293033 → W p l e room_1 s m args below meth c H locs cells slots Q (F0 m 2061 ls [])) :
    ∀ (n k : Nat), (L : Int) ≤ 5 * (k : Int) + 5 * (n : Int) + 4 → (5 * (k : Int) ≤ L ∨ k = 0) → ∀ (tl : Int) (tc : Int → Int) (ol : Int) (ct : Int) (tr : Int) (fv : Int → Int) (a : Int → Int) (G : Int → Int → Int) (ak : Int → Int) (Gk : Int → Int → Int) (As : Nat → Int → Int) (Gs : Nat → Int → Int → Int) (Ah : Nat → Int → Int) (Gh : Nat → Int → Int → Int) (th : Int → Int) (ap : Int → Int) (asl : Int → Int) (of : Nat → Int64) (H : Heap) (locs : List Loc) (ls : Array Slot), INV (50 * (k : Int)) tl tc ol ct fv a G As Gs Ah Gh ap asl → va_P D vwCl (LW cy u w out tl tc ol ct tr fv a G ak Gk As Gs Ah Gh th ap asl of tl tc ct a fv) H → va_D (fun q => s.heap.size ≤ q) (LW cy u w out tl tc ol ct tr fv a G ak Gk As Gs Ah Gh th ap asl of tl tc ct a fv) → va_S (fun q => s.heap.size ≤ q) s.heap H locs → lv_has ls 7 [(4, vI (5 * (k : Int))), (3, .ref out), (2, .ref (w 0 0)), (1, .ref (u 0 0)), (0, .ref b)] → W p l e room_1 s m args below meth c H locs (213 + k) (4549 + 6 * k) Q (F0 m 23 ls []) := by
  intro n
  induction n with
  | zero =>
    intro k hk hk2 tl tc ol ct tr fv a G ak Gk As Gs Ah Gh th ap asl of H locs ls hI hP hD hS hl
    have hbA : ¬ (fun q => s.heap.size ≤ q) b := Nat.not_le.mpr hb
    refine lv_iload F.1 F.2.1 dL_law_23 (lv_at hl 0 rfl) ?_
    refine lv_aload_n F.1 F.2.1 dL_law_25 rfl (lv_at hl 4 rfl) ?_
    refine rr_slen F (A := fun q => s.heap.size ≤ q) hxs hb hbA hS dL_law_26 ?_
    refine rr_iconst F dL_law_27 ?_
    refine rr_isub F (z := (L : Int) - 5) dL_law_28 rfl ?_
    refine rr_icmp_gt F (tgt := 2061) dL_law_29 (by decide) ⟨by omega, by omega⟩ ⟨by omega, by omega⟩ (fun _ => ?_) (fun z => by omega)
    exact kend H locs ls _ _ hS (by omega) (by omega)
  | succ n ih =>
    intro k hk hk2 tl tc ol ct tr fv a G ak Gk As Gs Ah Gh th ap asl of H locs ls hI hP hD hS hl
    have hbA : ¬ (fun q => s.heap.size ≤ q) b := Nat.not_le.mpr hb
    refine lv_iload F.1 F.2.1 dL_law_23 (lv_at hl 0 rfl) ?_
    refine lv_aload_n F.1 F.2.1 dL_law_25 rfl (lv_at hl 4 rfl) ?_
    refine rr_slen F (A := fun q => s.heap.size ≤ q) hxs hb hbA hS dL_law_26 ?_
    refine rr_iconst F dL_law_27 ?_
    refine rr_isub F (z := (L : Int) - 5) dL_law_28 rfl ?_
    refine rr_icmp_gt F (tgt := 2061) dL_law_29 (by decide) ⟨by omega, by omega⟩ ⟨by omega, by omega⟩ (fun _ => kend H locs ls _ _ hS (by omega) (by omega)) (fun hle => ?_)
    refine lv_aload_n F.1 F.2.1 dL_law_32 rfl (lv_at hl 4 rfl) ?_
    refine lv_iload F.1 F.2.1 dL_law_33 (lv_at hl 0 rfl) ?_
    refine rr_sld F (A := fun q => s.heap.size ≤ q) hxs hb hbA hS (by omega) (by omega) hL dL_law_35 ?_
    refine rr_bipush F dL_law_36 (by decide) ?_
    refine lv_iand F.1 F.2.1 dL_law_38 ?_
    have h31 := and31 (iI (XI xs (5 * (k : Int))))
    obtain ⟨z, hz⟩ : ∃ z : Int, z = (iI (XI xs (5 * (k : Int))) &&& 31).toInt := ⟨_, rfl⟩
    rw [← hz] at h31
    rw [show iI (XI xs (5 * (k : Int))) &&& iI 31 = iI z by rw [hz, iI_of]; rfl]
    have kk : LK p l e s m args below meth c D cy u w out b (50 * (k : Int) + 50) (5 * (k : Int)) (213 + k + 1) (4549 + 6 * k + 6) Q := by
      intro tl tc ol ct tr fv a G ak Gk As Gs Ah Gh th ap asl of H locs ls hI hP hD hS hl
      refine lv_iinc (v := iI (5 * ((k + 1 : Nat) : Int))) (lv' := [(4, vI (5 * ((k + 1 : Nat) : Int))), (3, .ref out), (2, .ref (w 0 0)), (1, .ref (u 0 0)), (0, .ref b)]) F.1 F.2.1 dL_law_2055 hl (k := 0) rfl (iinc_ok (by omega)) (by decide) rfl (fun ls hl => ?_)
      refine lv_goto (tgt := 23) F.1 F.2.1 dL_law_2058 (by decide) ?_
      have e2 : 213 + k + 1 = 213 + (k + 1) := by omega
      have e3 : 4549 + 6 * k + 6 = 4549 + 6 * (k + 1) := by omega
      rw [e2, e3]
      have e1 : 50 * (k : Int) + 50 = 50 * ((k + 1 : Nat) : Int) := by omega
      rw [e1] at hI
      exact ih (k + 1) (by omega) (Or.inl (by omega)) _ _ _ _ _ _ _ _ _ _ _ _ _ _ _ _ _ _ H locs ls hI hP hD hS hl
    have hN : 0 ≤ 50 * (k : Int) ∧ 50 * (k : Int) ≤ 80000000 := ⟨by omega, by omega⟩
    have hi : 0 ≤ 5 * (k : Int) ∧ 5 * (k : Int) + 5 ≤ L := ⟨by omega, by omega⟩
    have hc : 213 + k + 1 ≤ 601024 ∧ 4549 + 6 * k + 6 ≤ 7293033 := ⟨by omega, by omega⟩
    rcases (show z = 0 ∨ z = 1 ∨ z = 2 ∨ z = 3 ∨ z = 4 ∨ z = 5 ∨ z = 6 ∨ z = 7 ∨ z = 8 ∨ z = 9 ∨ z = 10 ∨ z = 11 ∨ z = 12 ∨ z = 13 ∨ z = 14 ∨ z = 15 ∨ z = 16 ∨ z = 17 ∨ z = 18 ∨ z = 19 ∨ z = 20 ∨ z = 21 ∨ z = 22 ∨ z = 23 ∨ z = 24 ∨ z = 25 ∨ z = 26 ∨ z = 27 ∨ z = 28 ∨ z = 29 ∨ z = 30 ∨ z = 31 by omega) with hz2 | hz2 | hz2 | hz2 | hz2 | hz2 | hz2 | hz2 | hz2 | hz2 | hz2 | hz2 | hz2 | hz2 | hz2 | hz2 | hz2 | hz2 | hz2 | hz2 | hz2 | hz2 | hz2 | hz2 | hz2 | hz2 | hz2 | hz2 | hz2 | hz2 | hz2 | hz2
    · refine rr_tabIn F (tgt := 176) 0 dL_law_39 ⟨by omega, by omega⟩ (by omega) (by omega) rfl rfl ?_
      exact lc_append hnt F hK hX hZ0 hxs hb hL hI hN hi hP hD hS hl hc kk
    · refine rr_tabIn F (tgt := 232) 1 dL_law_39 ⟨by omega, by omega⟩ (by omega) (by omega) rfl rfl ?_
      exact lc_clearText hnt F hK hX hZ0 hxs hb hL hI hN hi hP hD hS hl hc kk
    · refine rr_tabIn F (tgt := 245) 2 dL_law_39 ⟨by omega, by omega⟩ (by omega) (by omega) rfl rfl ?_
      exact lc_errorPosition hnt F hK hX hZ0 hxs hb hL hI hN hi hP hD hS hl hc kk
    · refine rr_tabIn F (tgt := 286) 3 dL_law_39 ⟨by omega, by omega⟩ (by omega) (by omega) rfl rfl ?_
      exact lc_about hnt F hK hX hZ0 hxs hb hL hI hN hi hP hD hS hl hc kk
    · refine rr_tabIn F (tgt := 342) 4 dL_law_39 ⟨by omega, by omega⟩ (by omega) (by omega) rfl rfl ?_
      exact lc_at hnt F hK hX hZ0 hxs hb hL hI hN hi hP hD hS hl hc kk
    · refine rr_tabIn F (tgt := 398) 5 dL_law_39 ⟨by omega, by omega⟩ (by omega) (by omega) rfl rfl ?_
      exact lc_letter hnt F hK hX hZ0 hxs hb hL hI hN hi hP hD hS hl hc kk
    · refine rr_tabIn F (tgt := 466) 6 dL_law_39 ⟨by omega, by omega⟩ (by omega) (by omega) rfl rfl ?_
      exact lc_reading hnt F hK hX hZ0 hxs hb hL hI hN hi hP hD hS hl hc kk
    · refine rr_tabIn F (tgt := 534) 7 dL_law_39 ⟨by omega, by omega⟩ (by omega) (by omega) rfl rfl ?_
      exact lc_segment hnt F hK hX hZ0 hxs hb hL hI hN hi hP hD hS hl hc kk
    · refine rr_tabIn F (tgt := 614) 8 dL_law_39 ⟨by omega, by omega⟩ (by omega) (by omega) rfl rfl ?_
      exact lc_find hnt F hK hX hZ0 hxs hb hL hI hN hi hP hD hS hl hc kk
    · refine rr_tabIn F (tgt := 694) 9 dL_law_39 ⟨by omega, by omega⟩ (by omega) (by omega) rfl rfl ?_
      exact lc_walker hnt F hK hX hZ0 hxs hb hL hI hN hi hP hD hS hl hc kk
    · refine rr_tabIn F (tgt := 762) 10 dL_law_39 ⟨by omega, by omega⟩ (by omega) (by omega) rfl rfl ?_
      exact lc_ring hnt F hK hX hZ0 hxs hb hL hI hN hi hP hD hS hl hc kk
    · refine rr_tabIn F (tgt := 806) 11 dL_law_39 ⟨by omega, by omega⟩ (by omega) (by omega) rfl rfl ?_
      exact lc_addWord hnt F hK hX hZ0 hxs hb hL hI hN hi hP hD hS hl hc kk
    · refine rr_tabIn F (tgt := 850) 12 dL_law_39 ⟨by omega, by omega⟩ (by omega) (by omega) rfl rfl ?_
      exact lc_removeWord hnt F hK hX hZ0 hxs hb hL hI hN hi hP hD hS hl hc kk
    · refine rr_tabIn F (tgt := 906) 13 dL_law_39 ⟨by omega, by omega⟩ (by omega) (by omega) rfl rfl ?_
      exact lc_carve hnt F hK hX hZ0 hxs hb hL hI hN hi hP hD hS hl hc kk
    · refine rr_tabIn F (tgt := 974) 14 dL_law_39 ⟨by omega, by omega⟩ (by omega) (by omega) rfl rfl ?_
      exact lc_wear hnt F hK hX hZ0 hxs hb hL hI hN hi hP hD hS hl hc kk
    · refine rr_tabIn F (tgt := 1030) 15 dL_law_39 ⟨by omega, by omega⟩ (by omega) (by omega) rfl rfl ?_
      exact lc_insert hnt F hK hX hZ0 hxs hb hL hI hN hi hP hD hS hl hc kk
    · refine rr_tabIn F (tgt := 1098) 16 dL_law_39 ⟨by omega, by omega⟩ (by omega) (by omega) rfl rfl ?_
      exact lc_erase hnt F hK hX hZ0 hxs hb hL hI hN hi hP hD hS hl hc kk
    · refine rr_tabIn F (tgt := 1154) 17 dL_law_39 ⟨by omega, by omega⟩ (by omega) (by omega) rfl rfl ?_
      exact lc_addWalker hnt F hK hX hZ0 hxs hb hL hI hN hi hP hD hS hl hc kk
    · refine rr_tabIn F (tgt := 1246) 18 dL_law_39 ⟨by omega, by omega⟩ (by omega) (by omega) rfl rfl ?_
      exact lc_turn hnt F hK hX hZ0 hxs hb hL hI hN hi hP hD hS hl hc kk
    · refine rr_tabIn F (tgt := 1302) 19 dL_law_39 ⟨by omega, by omega⟩ (by omega) (by omega) rfl rfl ?_
      exact lc_go hnt F hK hX hZ0 hxs hb hL hI hN hi hP hD hS hl hc kk
    · refine rr_tabIn F (tgt := 1358) 20 dL_law_39 ⟨by omega, by omega⟩ (by omega) (by omega) rfl rfl ?_
      exact lc_undo hnt F hK hX hZ0 hxs hb hL hI hN hi hP hD hS hl hc kk
    · refine rr_tabIn F (tgt := 1402) 21 dL_law_39 ⟨by omega, by omega⟩ (by omega) (by omega) rfl rfl ?_
      exact lc_meet hnt F hK hX hZ0 hxs hb hL hI hN hi hP hD hS hl hc kk
    · refine rr_tabIn F (tgt := 1470) 22 dL_law_39 ⟨by omega, by omega⟩ (by omega) (by omega) rfl rfl ?_
      exact lc_seesAll hnt F hK hX hZ0 hxs hb hL hI hN hi hP hD hS hl hc kk
    · refine rr_tabIn F (tgt := 1526) 23 dL_law_39 ⟨by omega, by omega⟩ (by omega) (by omega) rfl rfl ?_
      exact lc_ifWorn hnt F hK hX hZ0 hxs hb hL hI hN hi hP hD hS hl hc kk
    · refine rr_tabIn F (tgt := 1594) 24 dL_law_39 ⟨by omega, by omega⟩ (by omega) (by omega) rfl rfl ?_
      exact lc_bestDivider hnt F hK hX hZ0 hxs hb hL hI hN hi hP hD hS hl hc kk
    · refine rr_tabIn F (tgt := 1662) 25 dL_law_39 ⟨by omega, by omega⟩ (by omega) (by omega) rfl rfl ?_
      exact lc_bestDirection hnt F hK hX hZ0 hxs hb hL hI hN hi hP hD hS hl hc kk
    · refine rr_tabIn F (tgt := 1675) 26 dL_law_39 ⟨by omega, by omega⟩ (by omega) (by omega) rfl rfl ?_
      exact lc_canBe hnt F hK hX hZ0 hxs hb hL hI hN hi hP hD hS hl hc kk
    · refine rr_tabIn F (tgt := 1743) 27 dL_law_39 ⟨by omega, by omega⟩ (by omega) (by omega) rfl rfl ?_
      exact lc_runScript hnt F hK hX hZ0 hxs hb hL hI hN hi hP hD hS hl hc kk
    · refine rr_tabIn F (tgt := 1843) 28 dL_law_39 ⟨by omega, by omega⟩ (by omega) (by omega) rfl rfl ?_
      exact lc_simulate hnt F hK hX hZ0 hxs hb hL hI hN hi hP hD hS hl hc kk
    · refine rr_tabIn F (tgt := 1943) 29 dL_law_39 ⟨by omega, by omega⟩ (by omega) (by omega) rfl rfl ?_
      exact lc_save hnt F hK hX hZ0 hxs hb hL hI hN hi hP hD hS hl hc kk
    · refine rr_tabIn F (tgt := 1999) 30 dL_law_39 ⟨by omega, by omega⟩ (by omega) (by omega) rfl rfl ?_
      exact lc_restore hnt F hK hX hZ0 hxs hb hL hI hN hi hP hD hS hl hc kk
    · refine rr_tabOut F (tgt := 2055) dL_law_39 ⟨by omega, by omega⟩ (by omega) rfl ?_
      refine W.widen (k := 213 + k + 1) (n := 4549 + 6 * k + 6) (by omega) (by omega) ?_
      exact kk _ _ _ _ _ _ _ _ _ _ _ _ _ _ _ _ _ _ H locs ls (hI.mono (by omega)) hP hD hS hl
