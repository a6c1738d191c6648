-- ranges of the answers, the links of both programs' answers and rows
section B52b
variable {a : Int → Int} {G : Int → Int → Int}
theorem sc_r (hM : MR a) {i : Int} (h : 0 ≤ i ∧ i < a 0) : inR (sc (rq a i)) := by
  have := sc_rng (c := rq a i) (hM.q h.1 h.2)
  exact ⟨by omega, by omega⟩
theorem abt_r (hZ : SBG a G) (hs : 0 ≤ a 117 ∧ a 117 ≤ 90000000) {i : Int} : inR (abt (a 0) (rq a) (a 25) (a 96) (a 117) i) := by
  have hM := SB.mr hZ
  have hn := hM.n
  have hw := hM.nw
  have hc := hM.wc
  have h1 := cnt_rng (fun j => rq a j = 0) hn.1
  have h2 := cnt_rng (fun j => rq a j = 9) hn.1
  have h3 := perd_rng (rq a) hn.1
  have h4 := b2i_rng (pB (mirr (a 0) (rq a)))
  have h5 : -1 ≤ bg1 (a 0) (rq a) (a 0) ∧ bg1 (a 0) (rq a) (a 0) ≤ 24 := by
    by_cases e : a 0 = 0
    · unfold bg1; rw [if_pos e]; omega
    · have := bg1_rng (n := a 0) (q := rq a) (k := a 0) e (by omega)
      omega
  unfold abt
  repeat' split
  all_goals exact ⟨by omega, by omega⟩
theorem let_r (hM : MR a) {w i : Int} (hw : 0 ≤ w ∧ w < a 25) (hi : 0 ≤ i) : inR (if i < rbl a w then 96 + rbc a w i else -1) := by
  split
  · rename_i h
    have := (hM.b hw.1 hw.2).2 i hi h
    have e : rbc a w i = a (26 + 7 * w + 1 + i) := rfl
    exact ⟨by omega, by omega⟩
  · exact ⟨by decide, by decide⟩
theorem lk_letter (hZ : SBG a G) {w i : Int} (hw : 0 ≤ w ∧ w < a 25) (hi : 0 ≤ i) : (if i < a (26 + 7 * w) then sc (a (26 + 7 * w + 1 + i)) else -1) = (if i < rbl a w then 96 + rbc a w i else -1) := by
  show (if i < a (26 + 7 * w) then sc (a (26 + 7 * w + 1 + i)) else -1) = (if i < a (26 + 7 * w) then 96 + a (26 + 7 * w + 1 + i) else -1)
  by_cases h : i < a (26 + 7 * w)
  · rw [if_pos h, if_pos h]
    have := ((SB.mr hZ).b hw.1 hw.2).2 i hi h
    unfold sc
    rw [if_neg (by omega), if_neg (by omega)]
  · rw [if_neg h, if_neg h]
theorem rdg_r0 (hM : MR a) (d : Int) : 0 ≤ rdg (a 0) (rq a) (a 25) (rbl a) (rbc a) d ∧ rdg (a 0) (rq a) (a 25) (rbl a) (rbc a) d ≤ 1000000 := by
  have pf := prd_fit (q := rq a) (bl := rbl a) (bc := rbc a) (d := d) hM.n hM.nw hM.n.1 (Int.le_refl _)
  unfold rdg
  split
  · omega
  · split <;> omega
theorem rdg_r (hM : MR a) {d : Int} : inR (rdg (a 0) (rq a) (a 25) (rbl a) (rbc a) d) := by
  have := rdg_r0 hM d
  exact ⟨by omega, by omega⟩
theorem rdv_r (hM : MR a) {d x : Int} : inR (rdv (a 0) (rq a) (a 25) (rbl a) (rbc a) d x) := by
  have hn := hM.n
  have h1 := cnt_rng (fun p => 0 < seg (a 0) (rq a) p d) hn.1
  have h2 := sns_rng hn.1 (rq a) (a 25) (rbl a) (rbc a) d
  have h3 := rdg_r0 hM d
  have h4 := mx_rng (f := fun j => seg (a 0) (rq a) j d) (c := 24) (n := a 0) (by omega) hn.1 (fun j x y => by have := seg_rng (n := a 0) (by omega) (rq a) j d; omega)
  unfold rdv
  repeat' split
  all_goals exact ⟨by omega, by omega⟩
theorem low_r0 (P : Int → Prop) {n : Int} (h : 0 ≤ n) : -1 ≤ low P n ∧ low P n ≤ n := by
  have := low_rng P h
  omega
theorem low_r (P : Int → Prop) {n : Int} (h : 0 ≤ n ∧ n ≤ 1000) : inR (low P n) := by
  have := low_r0 P h.1
  exact ⟨by omega, by omega⟩
theorem sgv_r (hM : MR a) {d s0 x : Int} (hd : 0 ≤ d ∧ d ≤ 1) (hs : 0 ≤ s0 ∧ s0 < cnt (fun p => 0 < seg (a 0) (rq a) p d) (a 0)) : inR (sgv (a 0) (rq a) (a 25) (rbl a) (rbc a) (dva (a 0) (rq a) d s0) d x) := by
  have hn := hM.n
  have hw := hM.nw
  have dv := dva_ok (q := rq a) hn.1 hd hs
  have h1 := seg_rng (n := a 0) (by omega) (rq a) (dva (a 0) (rq a) d s0) d
  have h2 : 0 ≤ fc (a 0) (rq a) (a 25) (rbl a) (rbc a) (dva (a 0) (rq a) d s0) d ∧ fc (a 0) (rq a) (a 25) (rbl a) (rbc a) (dva (a 0) (rq a) d s0) d ≤ a 25 := cnt_rng _ hw.1
  have h3 := low_r0 (fun w => ft (a 0) (rq a) (rbl a w) (rbc a w) (dva (a 0) (rq a) d s0) d) hw.1
  have h4 := cnt_rng (fun j => rq a (off (a 0) (dva (a 0) (rq a) d s0) d (j + 1)) = 9) h1.1
  unfold sgv
  repeat' split
  all_goals exact ⟨by omega, by omega⟩
theorem kpl_r (P : Int → Prop) (k : Int) {n : Int} (hn : 0 ≤ n ∧ n ≤ 24) : inR (kpl P k n) := by
  have := fst_rng (fun j => P j ∧ cnt P j = k) hn.1
  unfold kpl
  split
  · exact ⟨by unfold kth at *; omega, by unfold kth at *; omega⟩
  · exact ⟨by decide, by decide⟩
theorem knb_r0 (hM : MR a) (d e f : Int) : 0 ≤ knb (a 0) (rq a) (a 25) (rbl a) (rbc a) d e f ∧ knb (a 0) (rq a) (a 25) (rbl a) (rbc a) d e f ≤ 24 := by
  have h := cnt_rng (fun p => kn (a 0) (rq a) p d e ∧ (f = 0 ∨ hf (a 0) (rq a) (a 25) (rbl a) (rbc a) p d)) hM.n.1
  have hn := hM.n
  unfold knb
  omega
theorem wkv_r (hZ : SBG a G) {w x : Int} (hw : 0 ≤ w ∧ w < a 96) : inR (wkv (a 0) (rq a) (a 25) (rbl a) (rbc a) (G 1 w) (G 2 w) (G 3 w) (G 4 w) (G 5 w) x) := by
  have hM := SB.mr hZ
  obtain ⟨v1, v2, v3, v4, v5⟩ := (SB.ws hZ).2.2 w hw.1 hw.2
  have hn := hM.n
  have h1 := cnt_rng (bit (G 5 w)) (n := 24) (by decide)
  have h2 := knb_r0 hM (G 2 w) (G 5 w) 1
  have h3 := knb_r0 hM (G 2 w) (G 5 w) 0
  unfold wkv
  repeat' split
  all_goals exact ⟨by omega, by omega⟩
theorem lk_walker (hZ : SBG a G) {w x : Int} (hw : 0 ≤ w ∧ w < a 96) : wkv (a 0) (rq a) (a 25) (rbl a) (rbc a) (a (97 + 5 * w + 0)) (a (97 + 5 * w + 1)) (a (97 + 5 * w + 2)) (a (97 + 5 * w + 3)) (a (97 + 5 * w + 4)) x = wkv (a 0) (rq a) (a 25) (rbl a) (rbc a) (G 1 w) (G 2 w) (G 3 w) (G 4 w) (G 5 w) x := by
  obtain ⟨e0, e1, e2, e3, e4⟩ := SB.wk hZ hw.1 hw.2
  rw [e0, e1, e2, e3, e4]
theorem cbe_r (hM : MR a) {p d : Int} : inR (cbe (a 0) (rq a) (a 25) (rbl a) (rbc a) p d) := by
  unfold cbe
  split
  · exact ⟨by decide, by decide⟩
  · rename_i h
    have := lts_rng (C := fun w => dfd (a 0) (rq a) p d - 1 < rbl a w ∧ ft (a 0) (rq a) (rbl a w) (rbc a w) (off (a 0) p (1 - d) (dfd (a 0) (rq a) p d)) d) (f := fun w => rbc a w (dfd (a 0) (rq a) p d - 1) - 1) hM.nw.1 (fun w x y hc => by
      have hb : 1 ≤ rbc a w (dfd (a 0) (rq a) p d - 1) ∧ rbc a w (dfd (a 0) (rq a) p d - 1) ≤ 8 := (hM.b x y).2 (dfd (a 0) (rq a) p d - 1) (by omega) hc.1
      show 0 ≤ rbc a w (dfd (a 0) (rq a) p d - 1) - 1 ∧ rbc a w (dfd (a 0) (rq a) p d - 1) - 1 < 24
      omega)
    exact ⟨by omega, by omega⟩
theorem bdv_r (hM : MR a) (d x : Int) : inR (if x = 0 then (bd (fun p => rq a p = 0) (fun p => sns (a 0) (updZ (rq a) p 0) (a 25) (rbl a) (rbc a) d) (a 0)).1 else (bd (fun p => rq a p = 0) (fun p => sns (a 0) (updZ (rq a) p 0) (a 25) (rbl a) (rbc a) d) (a 0)).2) := by
  have hn := hM.n
  have br := bd_rng (D := fun p => rq a p = 0) (f := fun p => sns (a 0) (updZ (rq a) p 0) (a 25) (rbl a) (rbc a) d) (c := 24) (k := a 0) hn.1 (fun j x y => by have := sns_rng hn.1 (updZ (rq a) j 0) (a 25) (rbl a) (rbc a) d; omega) (by omega)
  split <;> exact ⟨by omega, by omega⟩
theorem sim_r0 (hM : MR a) : inR (simV a) := by
  have hn := hM.n
  have hc := hM.wc
  have h1 := sns_rng hn.1 (rq a) (a 25) (rbl a) (rbc a) 0
  have h2 := sns_rng hn.1 (rq a) (a 25) (rbl a) (rbc a) 1
  have h3 := sm_rng (f := fun w => knb (a 0) (rq a) (a 25) (rbl a) (rbc a) (a (97 + 5 * w + 1)) (a (97 + 5 * w + 4)) 0) (c := 24) (by decide) hc.1 (fun j _ _ => knb_r0 hM _ _ _)
  unfold simV
  exact ⟨by omega, by omega⟩
theorem sim_r (hM : MR a) {s t : Int} (ht : 0 ≤ t) : inR (simV (simR a s t)) := sim_r0 (simR_ok hM ht).1
theorem cnt24_r (P : Int → Prop) : inR (cnt P 24) := by
  have := cnt_rng P (n := 24) (by decide)
  exact ⟨by omega, by omega⟩
theorem wear_r (hZ : SBG a G) {i : Int} : inR (cnt (fun j => (GTry a G 2 i 0) 0 j = 63) ((tryR a 2 i 0) 0)) := by
  have hn := (SBG_try hZ (kd := 2) (i := i) (c := 0) (by omega)).mr.n
  have := cnt_rng (fun j => (GTry a G 2 i 0) 0 j = 63) hn.1
  exact ⟨by omega, by omega⟩
theorem go_r (hZ : SBG a G) {t : Int} : inR (sm (fun w => knb ((goT a t) 0) (rq (goT a t)) ((goT a t) 25) (rbl (goT a t)) (rbc (goT a t)) ((GGo a G t) 2 w) ((GGo a G t) 5 w) 0) ((goT a t) 96)) := by
  have hM := (SBG_go hZ (t := t)).mr
  have hc := hM.wc
  have h3 := sm_rng (f := fun w => knb ((goT a t) 0) (rq (goT a t)) ((goT a t) 25) (rbl (goT a t)) (rbc (goT a t)) ((GGo a G t) 2 w) ((GGo a G t) 5 w) 0) (c := 24) (by decide) hc.1 (fun j _ _ => knb_r0 hM _ _ _)
  exact ⟨by omega, by omega⟩
theorem rw_carve {i c : Int} (h : okA a 1 i c) : tryR a 1 i c = updZ a (1 + i) c := by rw [tryR_y h]; rfl
theorem rw_wear {i : Int} (h : okA a 2 i 0) : tryR a 2 i 0 = updZ a (1 + i) (if a (1 + i) = 0 then 0 else 9) := by rw [tryR_y h]; rfl
theorem rw_insert {i c : Int} (h : okA a 3 i c) : tryR a 3 i c = zrZ (updZ (updZ (insZ a (1 + a 0) (1 + i)) (1 + i) c) 0 (a 0 + 1)) 96 117 := by rw [tryR_y h]; rfl
theorem rw_erase {i : Int} (h : okA a 4 i 0) : tryR a 4 i 0 = zrZ (updZ (delZ (updZ a 0 (a 0 - 1)) (1 + i) (1 + (a 0 - 1))) (1 + (a 0 - 1)) 0) 96 117 := by rw [tryR_y h]; rfl
theorem lk_worn {i d : Int} (h : 0 ≤ i ∧ i < a 0) : rdg ((updZ a (1 + i) (if a (1 + i) = 0 then 0 else 9)) 0) (rq (updZ a (1 + i) (if a (1 + i) = 0 then 0 else 9))) ((updZ a (1 + i) (if a (1 + i) = 0 then 0 else 9)) 25) (rbl (updZ a (1 + i) (if a (1 + i) = 0 then 0 else 9))) (rbc (updZ a (1 + i) (if a (1 + i) = 0 then 0 else 9))) d = rdg ((tryR a 2 i 0) 0) (rq (tryR a 2 i 0)) ((tryR a 2 i 0) 25) (rbl (tryR a 2 i 0)) (rbc (tryR a 2 i 0)) d := by
  rw [rw_wear (by unfold okA; omega)]
theorem lk_wear (hZ : SBG a G) {i : Int} (h : 0 ≤ i ∧ i < a 0) : cnt (fun j => (updZ a (1 + i) (if a (1 + i) = 0 then 0 else 9)) (1 + j) = 9) (a 0) = cnt (fun j => (GTry a G 2 i 0) 0 j = 63) ((tryR a 2 i 0) 0) := by
  have hZ2 := SBG_try hZ (kd := 2) (i := i) (c := 0) (by omega)
  have ok : okA a 2 i 0 := by unfold okA; omega
  have e0 : tryR a 2 i 0 0 = a 0 := tryR_12 (SB.mr hZ).n (Or.inr rfl) (Or.inl rfl)
  have hG := SB.rg hZ2
  rw [e0]
  refine cnt_congr (fun j x y => ?_)
  have h1 := hG.at (j := j) x (by omega)
  rw [h1.1, sc_9 h1.2.1]
  show _ ↔ tryR a 2 i 0 (1 + j) = 9
  rw [rw_wear ok]
theorem lk_turn (hZ : SBG a G) {w : Int} (hw : 0 ≤ w ∧ w < a 96) : cnt (bit (bor (a (97 + 5 * w + 4)) (vw (a 0) (a (97 + 5 * w + 0)) (1 - a (97 + 5 * w + 1)) (a (97 + 5 * w + 3))))) 24 = cnt (bit ((GTur a G w) 5 w)) 24 := by
  obtain ⟨e0, e1, e2, e3, e4⟩ := SB.wk hZ hw.1 hw.2
  have e : (GTur a G w) 5 w = bor (G 5 w) (vw (a 0) (G 1 w) (1 - G 2 w) (G 4 w)) := by
    unfold GTur
    rw [if_neg (by decide), if_pos rfl, updZ_s]
  rw [e, e0, e1, e3, e4]
theorem lk_go (hZ : SBG a G) {t : Int} (ht : 0 ≤ t) : sm (fun w => knb (a 0) (rq a) (a 25) (rbl a) (rbc a) (a (97 + 5 * w + 1)) (goR a 0 t (97 + 5 * w + 4)) 0) (a 96) = sm (fun w => knb ((goT a t) 0) (rq (goT a t)) ((goT a t) 25) (rbl (goT a t)) (rbc (goT a t)) ((GGo a G t) 2 w) ((GGo a G t) 5 w) 0) ((goT a t) 96) := by
  rw [← goR_sm (SB.mr hZ) (v := a 117 + t) ht]
  refine sm_congr (fun w x y => ?_)
  obtain ⟨e0, e1, e2, e3, e4⟩ := SB.wk (SBG_go hZ (t := t)) x y
  rw [e1, e4]
  rfl
theorem lk_meet (hZ : SBG a G) {w v : Int} (hw : 0 ≤ w ∧ w < a 96) (hv : 0 ≤ v ∧ v < a 96) : low (fun t => ps (a 0) (a (97 + 5 * w + 0)) (a (97 + 5 * w + 1)) (a (97 + 5 * w + 2)) t = ps (a 0) (a (97 + 5 * v + 0)) (a (97 + 5 * v + 1)) (a (97 + 5 * v + 2)) t) 25 = low (fun t => off (a 0) (G 1 w) (G 2 w) (t * G 3 w) = off (a 0) (G 1 v) (G 2 v) (t * G 3 v)) (a 0) := by
  obtain ⟨e0, e1, e2, e3, e4⟩ := SB.wk hZ hw.1 hw.2
  obtain ⟨f0, f1, f2, f3, f4⟩ := SB.wk hZ hv.1 hv.2
  have hM := SB.mr hZ
  rw [meet_link (by have := hM.n; omega) (hM.w hw.1 hw.2).1 (hM.w hv.1 hv.2).1, e0, e1, e2, f0, f1, f2]
end B52b
