/-- what a state of the class holds beside the row: signs, walkers' five, letters, lengths -/
def SBG (a : Int → Int) (G : Int → Int → Int) : Prop := SB a (G 0) (G 6) (G 7) (G 1) (G 2) (G 3) (G 4) (G 5)
noncomputable def GTry (a : Int → Int) (G : Int → Int → Int) (kd i c : Int) : Int → Int → Int := fun x => if x = 0 then gTry a (G 0) kd i c else G x
theorem SBG_try {a : Int → Int} {G : Int → Int → Int} (h : SBG a G) {kd i c : Int} (hk : 1 ≤ kd ∧ kd ≤ 4) : SBG (tryR a kd i c) (GTry a G kd i c) := SB_try h hk
def GCom (a : Int → Int) (G : Int → Int → Int) (i d pa si : Int) : Int → Int → Int := fun x => if x = 1 then updZ (G 1) (a 96) i else if x = 2 then updZ (G 2) (a 96) d else if x = 3 then updZ (G 3) (a 96) pa else if x = 4 then updZ (G 4) (a 96) si else if x = 5 then updZ (G 5) (a 96) (bor 0 (vw (a 0) i d si)) else G x
def GTur (a : Int → Int) (G : Int → Int → Int) (w : Int) : Int → Int → Int := fun x => if x = 2 then updZ (G 2) w (1 - G 2 w) else if x = 5 then updZ (G 5) w (bor (G 5 w) (vw (a 0) (G 1 w) (1 - G 2 w) (G 4 w))) else G x
def GGo (a : Int → Int) (G : Int → Int → Int) (t : Int) : Int → Int → Int := fun x => if x = 1 then (fun i => ps (a 0) (G 1 i) (G 2 i) (G 3 i) (stp (a 96) 0 t i)) else if x = 5 then (fun i => se (a 0) (G 1 i) (G 2 i) (G 3 i) (G 4 i) (G 5 i) (stp (a 96) 0 t i)) else G x
theorem comR_at {a : Int → Int} {i d pa si : Int} : comR a i d pa si 96 = a 96 + 1 ∨ ¬ (0 ≤ a 96) := by
  by_cases h : 0 ≤ a 96
  · left; unfold comR; rw [updZ_n (by omega), updZ_s]
  · right; exact h
theorem comR_n {a : Int → Int} {i d pa si : Int} (h : 0 ≤ a 96) {j : Int} (hj : j < 96 ∨ (96 < j ∧ j < 97 + 5 * a 96) ∨ 97 + 5 * a 96 + 5 ≤ j) : comR a i d pa si j = a j := by
  unfold comR
  rw [updZ_n (by omega), updZ_n (by omega), updZ_n (by omega), updZ_n (by omega), updZ_n (by omega), updZ_n (by omega), updZ_n (by omega)]
theorem comR_new {a : Int → Int} {i d pa si : Int} (h : 0 ≤ a 96) : comR a i d pa si (97 + 5 * a 96 + 0) = i ∧ comR a i d pa si (97 + 5 * a 96 + 1) = d ∧ comR a i d pa si (97 + 5 * a 96 + 2) = pa ∧ comR a i d pa si (97 + 5 * a 96 + 3) = si ∧ comR a i d pa si (97 + 5 * a 96 + 4) = bor 0 (vw (a 0) i d si) := by
  unfold comR
  refine ⟨?_, ?_, ?_, ?_, ?_⟩
  · rw [updZ_n (by omega), updZ_n (by omega), updZ_n (by omega), updZ_n (by omega), updZ_n (by omega), updZ_n (by omega), updZ_s]
  · rw [updZ_n (by omega), updZ_n (by omega), updZ_n (by omega), updZ_n (by omega), updZ_n (by omega), updZ_s]
  · rw [updZ_n (by omega), updZ_n (by omega), updZ_n (by omega), updZ_n (by omega), updZ_s]
  · rw [updZ_n (by omega), updZ_n (by omega), updZ_n (by omega), updZ_s]
  · rw [updZ_s]
theorem SBG_com {a : Int → Int} {G : Int → Int → Int} (h : SBG a G) {i d pa si : Int} (hw : a 96 < 4) (hi : 0 ≤ i ∧ i < a 0) (hd : 0 ≤ d ∧ d ≤ 1) (hp : 1 ≤ pa ∧ pa ≤ 3) (hs : 1 ≤ si ∧ si ≤ 5) : SBG (comR a i d pa si) (GCom a G i d pa si) := by
  have hM := SB.mr h
  have hc := hM.wc; have hn := hM.n; have hnw := hM.nw
  have e : ∀ j, j < 96 → comR a i d pa si j = a j := fun j hj => comR_n hc.1 (by omega)
  have e96 : comR a i d pa si 96 = a 96 + 1 := comR_at.resolve_right (fun h => h hc.1)
  obtain ⟨n0, n1, n2, n3, n4⟩ := comR_new (a := a) (i := i) (d := d) (pa := pa) (si := si) hc.1
  refine ⟨MR_com hM hw hi hd hp hs, fun j x y => ?_, fun w x y => ?_, fun w x y => ?_, SB.cg h, SB.cl h⟩
  · rw [e 0 (by omega)] at y
    show G 0 j = sc (comR a i d pa si (1 + j))
    rw [e _ (by omega)]; exact h.2.1 j x y
  · rw [e 25 (by omega)] at y
    have hb := hM.b x y
    rw [e (26 + 7 * w) (by omega)]
    exact ⟨(h.2.2.1 w x y).1, fun i2 u v => by rw [e _ (by omega)]; exact (h.2.2.1 w x y).2 i2 u v⟩
  · rw [e96] at y
    show updZ (G 1) (a 96) i w = _ ∧ updZ (G 2) (a 96) d w = _ ∧ updZ (G 3) (a 96) pa w = _ ∧ updZ (G 4) (a 96) si w = _ ∧ updZ (G 5) (a 96) (bor 0 (vw (a 0) i d si)) w = _
    by_cases hw2 : w = a 96
    · rw [hw2, n0, n1, n2, n3, n4, updZ_s, updZ_s, updZ_s, updZ_s, updZ_s]; exact ⟨rfl, rfl, rfl, rfl, rfl⟩
    · rw [updZ_n hw2, updZ_n hw2, updZ_n hw2, updZ_n hw2, updZ_n hw2, comR_n hc.1 (by omega), comR_n hc.1 (by omega), comR_n hc.1 (by omega), comR_n hc.1 (by omega), comR_n hc.1 (by omega)]
      exact SB.wk h x (by omega)
theorem turR_n {a : Int → Int} {w j : Int} (h1 : ¬ j = 97 + 5 * w + 1) (h2 : ¬ j = 97 + 5 * w + 4) : turR a w j = a j := by unfold turR; rw [updZ_n h2, updZ_n h1]
theorem SBG_tur {a : Int → Int} {G : Int → Int → Int} (h : SBG a G) {w : Int} (hw : 0 ≤ w ∧ w < a 96) : SBG (turR a w) (GTur a G w) := by
  have hM := SB.mr h
  have hc := hM.wc; have hn := hM.n; have hnw := hM.nw
  obtain ⟨k0, k1, k2, k3, k4⟩ := SB.wk h hw.1 hw.2
  refine ⟨MR_tur hM hw, fun j x y => ?_, fun v x y => ?_, fun v x y => ?_, SB.cg h, SB.cl h⟩
  · rw [turR_n (by omega) (by omega)] at y
    show G 0 j = sc (turR a w (1 + j))
    rw [turR_n (by omega) (by omega)]; exact h.2.1 j x y
  · rw [turR_n (by omega) (by omega)] at y
    have hb := hM.b x y
    rw [turR_n (j := 26 + 7 * v) (by omega) (by omega)]
    exact ⟨(h.2.2.1 v x y).1, fun i2 u2 v2 => by rw [turR_n (by omega) (by omega)]; exact (h.2.2.1 v x y).2 i2 u2 v2⟩
  · rw [turR_n (by omega) (by omega)] at y
    show G 1 v = _ ∧ updZ (G 2) w (1 - G 2 w) v = _ ∧ G 3 v = _ ∧ G 4 v = _ ∧ updZ (G 5) w (bor (G 5 w) (vw (a 0) (G 1 w) (1 - G 2 w) (G 4 w))) v = _
    have hk := SB.wk h x y
    rw [turR_n (j := 97 + 5 * v + 0) (by omega) (by omega), turR_n (j := 97 + 5 * v + 2) (by omega) (by omega), turR_n (j := 97 + 5 * v + 3) (by omega) (by omega)]
    by_cases hv : v = w
    · subst hv
      refine ⟨hk.1, ?_, hk.2.2.1, hk.2.2.2.1, ?_⟩
      · rw [updZ_s, k1]; unfold turR; rw [updZ_n (by omega), updZ_s]
      · rw [updZ_s, k0, k1, k3, k4]; unfold turR; rw [updZ_s]
    · rw [updZ_n hv, updZ_n hv, turR_n (by omega) (by omega), turR_n (by omega) (by omega)]; exact hk
theorem goT_n {a : Int → Int} {t j : Int} (h : j < 97 ∨ (97 + 5 * a 96 ≤ j ∧ j ≠ 117)) : goT a t j = a j := by unfold goT; rw [updZ_n (by omega), goR_c (by omega)]
theorem stp_in {wc t i : Int} (h : i < wc) (h0 : 0 ≤ i) : stp wc 0 t i = t := by unfold stp; rw [if_pos h, if_neg (by omega)]
theorem SBG_go {a : Int → Int} {G : Int → Int → Int} (h : SBG a G) {t : Int} : SBG (goT a t) (GGo a G t) := by
  have hM := SB.mr h
  have hc := hM.wc; have hn := hM.n; have hnw := hM.nw
  refine ⟨goR_MR2 hM (Or.inl trivial), fun j x y => ?_, fun v x y => ?_, fun v x y => ?_, SB.cg h, SB.cl h⟩
  · rw [goT_n (by omega)] at y
    show G 0 j = sc (goT a t (1 + j))
    rw [goT_n (by omega)]; exact h.2.1 j x y
  · rw [goT_n (by omega)] at y
    have hb := hM.b x y
    rw [goT_n (j := 26 + 7 * v) (by omega)]
    exact ⟨(h.2.2.1 v x y).1, fun i2 u2 v2 => by rw [goT_n (by omega)]; exact (h.2.2.1 v x y).2 i2 u2 v2⟩
  · rw [goT_n (by omega)] at y
    have hk := SB.wk h x y
    obtain ⟨k0, k1, k2, k3, k4⟩ := hk
    show ps (a 0) (G 1 v) (G 2 v) (G 3 v) (stp (a 96) 0 t v) = _ ∧ G 2 v = _ ∧ G 3 v = _ ∧ G 4 v = _ ∧ se (a 0) (G 1 v) (G 2 v) (G 3 v) (G 4 v) (G 5 v) (stp (a 96) 0 t v) = _
    rw [k0, k1, k2, k3, k4]
    unfold goT
    rw [updZ_n (by omega), updZ_n (by omega), updZ_n (by omega), updZ_n (by omega), updZ_n (by omega), goR_p x y, goR_e x y, goR_m x y (by omega), goR_m x y (by omega), goR_m x y (by omega)]
    exact ⟨rfl, rfl, rfl, rfl, rfl⟩
