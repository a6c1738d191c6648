-- what is kept from round to round
theorem bor_self {x : Int} (h : 0 ≤ x) : bor x x = x := by
  unfold bor
  rw [Nat.or_self]
  omega
theorem bor_r (x y : Int) : 0 ≤ bor x y := Int.natCast_nonneg _
theorem bor_abs (x y : Int) : bor (bor x y) y = bor x y := by
  by_cases h : 0 ≤ y
  · rw [bor_assoc, bor_self h]
  · unfold bor
    rw [Int.toNat_natCast, Nat.or_assoc, Nat.or_self]
section B52c
variable {a : Int → Int} {G : Int → Int → Int} {N M : Int}
theorem SV_congr {a2 : Int → Int} (h : SV a) (h0 : a2 0 = a 0) (hj : ∀ j, 96 ≤ j → j < 117 → a2 j = a j) (hc : 0 ≤ a 96 ∧ a 96 ≤ 4) : SV a2 := by
  intro w x y
  rw [hj 96 (by omega) (by omega)] at y
  rw [h0, hj _ (by omega) (by omega), hj _ (by omega) (by omega), hj _ (by omega) (by omega), hj _ (by omega) (by omega)]
  exact h w x y
theorem SV_0 {a2 : Int → Int} (h : a2 96 = 0) : SV a2 := fun w x y => by omega
theorem GD_try (g : GD N a G) {kd i c : Int} (hk : 1 ≤ kd ∧ kd ≤ 4) (h : N ≤ M) : GD M (tryR a kd i c) (GTry a G kd i c) := by
  have hM := SB.mr g.1
  refine ⟨SBG_try g.1 hk, ?_, by rw [tryR_117 hM]; exact ⟨g.2.2.1, by have := g.2.2.2; omega⟩⟩
  by_cases ok : okA a kd i c
  · rcases (show kd = 1 ∨ kd = 2 ∨ kd = 3 ∨ kd = 4 by omega) with rfl | rfl | rfl | rfl
    · exact SV_congr g.2.1 (tryR_12 hM.n (Or.inl rfl) (Or.inl rfl)) (fun j x _ => tryR_12 hM.n (Or.inl rfl) (Or.inr (by omega))) hM.wc
    · exact SV_congr g.2.1 (tryR_12 hM.n (Or.inr rfl) (Or.inl rfl)) (fun j x _ => tryR_12 hM.n (Or.inr rfl) (Or.inr (by omega))) hM.wc
    · exact SV_0 (tryR_3 hM.n ok).2.1
    · obtain rfl : c = 0 := by unfold okA at ok; omega
      exact SV_0 (tryR_4 hM.n ok).2.1
  · rw [tryR_n ok]; exact g.2.1
theorem comR_lo {i d pa si j : Int} (h : ¬ j = 96) (h2 : j < 97 + 5 * a 96 ∨ 97 + 5 * a 96 + 5 ≤ j) : comR a i d pa si j = a j := by
  unfold comR
  rw [updZ_n (by omega), updZ_n (by omega), updZ_n (by omega), updZ_n (by omega), updZ_n (by omega), updZ_n (by omega), updZ_n (by omega)]
theorem GD_com (g : GD N a G) {i d pa si : Int} (hw : a 96 < 4) (hi : 0 ≤ i ∧ i < a 0) (hd : 0 ≤ d ∧ d ≤ 1) (hp : 1 ≤ pa ∧ pa ≤ 3) (hs : 1 ≤ si ∧ si ≤ 5) (h : N ≤ M) : GD M (comR a i d pa si) (GCom a G i d pa si) := by
  have hM := SB.mr g.1
  have hc := hM.wc
  obtain ⟨f1, f2, f3, f4⟩ := F_com (a := a) (i := i) (d := d) (pa := pa) (si := si) (by omega)
  refine ⟨SBG_com g.1 hw hi hd hp hs, fun w x y => ?_, by rw [f4]; exact ⟨g.2.2.1, by have := g.2.2.2; omega⟩⟩
  rw [f3] at y
  rw [f1]
  by_cases e : w = a 96
  · subst e
    have e0 : comR a i d pa si (97 + 5 * a 96 + 0) = i := by
      unfold comR
      rw [updZ_n (by omega), updZ_n (by omega), updZ_n (by omega), updZ_n (by omega), updZ_n (by omega), updZ_n (by omega), updZ_s]
    have e1 : comR a i d pa si (97 + 5 * a 96 + 1) = d := by
      unfold comR
      rw [updZ_n (by omega), updZ_n (by omega), updZ_n (by omega), updZ_n (by omega), updZ_n (by omega), updZ_s]
    have e3 : comR a i d pa si (97 + 5 * a 96 + 3) = si := by
      unfold comR
      rw [updZ_n (by omega), updZ_n (by omega), updZ_n (by omega), updZ_s]
    have e4 : comR a i d pa si (97 + 5 * a 96 + 4) = bor 0 (vw (a 0) i d si) := by
      unfold comR
      rw [updZ_s]
    rw [e0, e1, e3, e4]
    exact bor_abs _ _
  · rw [comR_lo (by omega) (by omega), comR_lo (by omega) (by omega), comR_lo (by omega) (by omega), comR_lo (by omega) (by omega)]
    exact g.2.1 w x (by omega)
theorem GD_tur (g : GD N a G) {w : Int} (hw : 0 ≤ w ∧ w < a 96) (h : N ≤ M) : GD M (turR a w) (GTur a G w) := by
  have hM := SB.mr g.1
  have hc := hM.wc
  obtain ⟨f1, f2, f3, f4⟩ := F_tur (a := a) (w := w) (by omega)
  refine ⟨SBG_tur g.1 hw, fun v x y => ?_, by rw [f4]; exact ⟨g.2.2.1, by have := g.2.2.2; omega⟩⟩
  rw [f3] at y
  rw [f1]
  unfold turR
  by_cases e : v = w
  · subst e
    rw [updZ_s, updZ_n (k := 97 + 5 * v + 4) (j := 97 + 5 * v + 0) (by omega), updZ_n (j := 97 + 5 * v + 0) (by omega), updZ_n (k := 97 + 5 * v + 4) (j := 97 + 5 * v + 1) (by omega), updZ_s, updZ_n (k := 97 + 5 * v + 4) (j := 97 + 5 * v + 3) (by omega), updZ_n (j := 97 + 5 * v + 3) (by omega)]
    exact bor_abs _ _
  · rw [updZ_n (by omega), updZ_n (by omega), updZ_n (by omega), updZ_n (by omega), updZ_n (by omega), updZ_n (by omega), updZ_n (by omega), updZ_n (by omega)]
    exact g.2.1 v x y
theorem se_self {n p d q i e t : Int} (h : bor e (vw n p d i) = e) (ht : 0 ≤ t) : bor (se n p d q i e t) (vw n (ps n p d q t) d i) = se n p d q i e t := by
  obtain ⟨m, rfl⟩ := Int.eq_ofNat_of_zero_le ht
  cases m with
  | zero => exact h
  | succ m => exact bor_abs _ _
theorem GD_go (g : GD N a G) {t : Int} (ht : 0 ≤ t) (h : N + t ≤ M) : GD M (goT a t) (GGo a G t) := by
  have hM := SB.mr g.1
  have hc := hM.wc
  obtain ⟨f1, f2, f3, f4⟩ := F_go (a := a) (t := t)
  refine ⟨SBG_go g.1, fun w x y => ?_, by rw [f4]; exact ⟨by have := g.2.2.1; omega, by have := g.2.2.2; omega⟩⟩
  rw [f3] at y
  rw [f1]
  unfold goT
  have hs : stp (a 96) 0 t w = t := by unfold stp; rw [if_pos y, if_neg (by omega)]
  rw [updZ_n (by omega), updZ_n (by omega), updZ_n (by omega), updZ_n (by omega), goR_p x y, goR_e x y, goR_m x y (by omega), goR_m x y (by omega), hs]
  exact se_self (g.2.1 w x y) ht
theorem GD_rmv (g : GD N a G) {w : Int} (hw : 0 ≤ w ∧ w < a 25) (h : N ≤ M) : GD M (rmvR a w) (GRmv a G w) := by
  have hM := SB.mr g.1
  obtain ⟨e25, e, es⟩ := rmvR_f hw hM.nw.2
  exact ⟨SBG_rmv g.1 hw, SV_congr g.2.1 (e 0 (by omega)) (fun j x _ => e j (by omega)) hM.wc, by rw [e 117 (by omega)]; exact ⟨g.2.2.1, by have := g.2.2.2; omega⟩⟩
theorem GD_ring (g : GD N a G) {tl : Int} {tc : Int → Int} (hT : (0 ≤ tl ∧ tl ≤ 40) ∧ CH 40 tc) (h1 : ferr tl tc 0 = -1) (h : N ≤ M) : GD M (ringR a tc tl) (GRing G tc tl) := by
  have hok := ferr_ok hT.1.1 h1
  have htl : tl ≤ 24 := by have := (hok.2 (tl - 1) (by omega) (by omega)).1; omega
  obtain ⟨e0, e96, e, es⟩ := ringR_f a tc tl
  exact ⟨SBG_ring g.1 ⟨hok.1, htl⟩ hT.2 hok.2, SV_0 e96, by rw [e 117 (by omega)]; exact ⟨g.2.2.1, by have := g.2.2.2; omega⟩⟩
theorem GD_wrd (g : GD N a G) {tl : Int} {tc : Int → Int} (hT : (0 ≤ tl ∧ tl ≤ 40) ∧ CH 40 tc) (h1 : ferr tl tc 1 = -1) (hw : a 25 < 10) (h : N ≤ M) : GD M (wrdR a tc tl) (GWrd a G tc tl) := by
  have hM := SB.mr g.1
  have hok := ferr_ok hT.1.1 h1
  have htl : tl ≤ 6 := by have := (hok.2 (tl - 1) (by omega) (by omega)).1; omega
  obtain ⟨e25, e, el, es⟩ := wrdR_f (a := a) (tc := tc) (ty := tl) ⟨hM.nw.1, hw⟩
  exact ⟨SBG_wrd g.1 ⟨hok.1, htl⟩ hw hT.2 (fun j x y => by have := (hok.2 j x y).2; omega), SV_congr g.2.1 (e 0 (by omega)) (fun j x _ => e j (by omega)) hM.wc, by rw [e 117 (by omega)]; exact ⟨g.2.2.1, by have := g.2.2.2; omega⟩⟩
end B52c
