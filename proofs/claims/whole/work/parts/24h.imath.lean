theorem MR_com {a : Int → Int} (hM : MR a) {i d pa si : Int} (hw : a 96 < 4) (hi : 0 ≤ i ∧ i < a 0) (hd : 0 ≤ d ∧ d ≤ 1) (hp : 1 ≤ pa ∧ pa ≤ 3) (hs : 1 ≤ si ∧ si ≤ 5) : MR (updZ (updZ (updZ (updZ (updZ (updZ (updZ a (97 + 5 * a 96 + 0) i) (97 + 5 * a 96 + 1) d) (97 + 5 * a 96 + 2) pa) (97 + 5 * a 96 + 3) si) (97 + 5 * a 96 + 4) 0) 96 (a 96 + 1)) (97 + 5 * a 96 + 4) (bor 0 (vw (a 0) i d si))) := by
  have hn0 := hM.n; have hc0 := hM.wc; have hw0 := hM.nw
  have v6 := p2_24 hn0.1 hn0.2
  have vr := vw_lt (n := a 0) (pl := i) (d := d) (k := si) (by omega) (by omega)
  have br := bor_lt (a := 0) (n := a 0) ⟨by omega, by omega⟩ vr
  generalize hV : bor 0 (vw (a 0) i d si) = V at br
  generalize hB : updZ (updZ (updZ (updZ (updZ (updZ (updZ a (97 + 5 * a 96 + 0) i) (97 + 5 * a 96 + 1) d) (97 + 5 * a 96 + 2) pa) (97 + 5 * a 96 + 3) si) (97 + 5 * a 96 + 4) 0) 96 (a 96 + 1)) (97 + 5 * a 96 + 4) V = B
  have el : ∀ j, j < 96 → B j = a j := fun j hj => by rw [← hB, updZ_n (by omega), updZ_n (by omega), updZ_n (by omega), updZ_n (by omega), updZ_n (by omega), updZ_n (by omega), updZ_n (by omega)]
  have e96 : B 96 = a 96 + 1 := by rw [← hB, updZ_n (by omega), updZ_s]
  have ew : ∀ w x, 0 ≤ w → w < a 96 → 0 ≤ x → x < 5 → B (97 + 5 * w + x) = a (97 + 5 * w + x) := fun w x h1 h2 h3 h4 => by rw [← hB, updZ_n (by omega), updZ_n (by omega), updZ_n (by omega), updZ_n (by omega), updZ_n (by omega), updZ_n (by omega), updZ_n (by omega)]
  have n0 : B (97 + 5 * a 96 + 0) = i := by rw [← hB, updZ_n (by omega), updZ_n (by omega), updZ_n (by omega), updZ_n (by omega), updZ_n (by omega), updZ_n (by omega), updZ_s]
  have n1 : B (97 + 5 * a 96 + 1) = d := by rw [← hB, updZ_n (by omega), updZ_n (by omega), updZ_n (by omega), updZ_n (by omega), updZ_n (by omega), updZ_s]
  have n2 : B (97 + 5 * a 96 + 2) = pa := by rw [← hB, updZ_n (by omega), updZ_n (by omega), updZ_n (by omega), updZ_n (by omega), updZ_s]
  have n3 : B (97 + 5 * a 96 + 3) = si := by rw [← hB, updZ_n (by omega), updZ_n (by omega), updZ_n (by omega), updZ_s]
  have n4 : B (97 + 5 * a 96 + 4) = V := by rw [← hB, updZ_s]
  clear hB
  unfold MR
  rw [el 0 (by omega), el 25 (by omega), e96]
  refine ⟨hM.1, fun j x y => ?_, hM.nw, fun w x y => ?_, by omega, fun w x y => ?_⟩
  · rw [el _ (by omega)]; exact hM.q x y
  · have hb := hM.b x y
    rw [el (26 + 7 * w) (by omega)]
    refine ⟨hb.1, fun k u v => ?_⟩
    rw [el _ (by omega)]; exact hb.2 k u v
  · by_cases h : w = a 96
    · rw [h, n0, n1, n2, n3, n4]; exact ⟨hi, hd, hp, hs, br⟩
    · rw [ew w 0 x (by omega) (by omega) (by omega), ew w 1 x (by omega) (by omega) (by omega), ew w 2 x (by omega) (by omega) (by omega), ew w 3 x (by omega) (by omega) (by omega), ew w 4 x (by omega) (by omega) (by omega)]
      exact hM.w x (by omega)
theorem MR_tur {a : Int → Int} (hM : MR a) {w : Int} (hw : 0 ≤ w ∧ w < a 96) : MR (updZ (updZ a (97 + 5 * w + 1) (1 - a (97 + 5 * w + 1))) (97 + 5 * w + 4) (bor (a (97 + 5 * w + 4)) (vw (a 0) (a (97 + 5 * w + 0)) (1 - a (97 + 5 * w + 1)) (a (97 + 5 * w + 3))))) := by
  have hn0 := hM.n; have hc0 := hM.wc; have hw0 := hM.nw
  obtain ⟨v1, v2, v3, v4, v5⟩ := hM.w hw.1 hw.2
  have vr := vw_lt (n := a 0) (pl := a (97 + 5 * w + 0)) (d := 1 - a (97 + 5 * w + 1)) (k := a (97 + 5 * w + 3)) (by omega) (by omega)
  have br := bor_lt v5 vr
  generalize hV : bor (a (97 + 5 * w + 4)) (vw (a 0) (a (97 + 5 * w + 0)) (1 - a (97 + 5 * w + 1)) (a (97 + 5 * w + 3))) = V at br
  generalize hD : 1 - a (97 + 5 * w + 1) = dd
  have e : ∀ j, ¬ j = 97 + 5 * w + 1 → ¬ j = 97 + 5 * w + 4 → updZ (updZ a (97 + 5 * w + 1) dd) (97 + 5 * w + 4) V j = a j := fun j h1 h2 => by rw [updZ_n h2, updZ_n h1]
  unfold MR
  rw [e 0 (by omega) (by omega), e 25 (by omega) (by omega), e 96 (by omega) (by omega)]
  refine ⟨hM.1, fun j x y => ?_, hM.nw, fun u x y => ?_, hM.wc, fun u x y => ?_⟩
  · rw [e _ (by omega) (by omega)]; exact hM.q x y
  · have hb := hM.b x y
    rw [e (26 + 7 * u) (by omega) (by omega)]
    refine ⟨hb.1, fun k u2 v => ?_⟩
    rw [e _ (by omega) (by omega)]; exact hb.2 k u2 v
  · rw [e (97 + 5 * u + 0) (by omega) (by omega), e (97 + 5 * u + 2) (by omega) (by omega), e (97 + 5 * u + 3) (by omega) (by omega)]
    by_cases h : u = w
    · subst h; rw [updZ_n (j := 97 + 5 * u + 1) (by omega), updZ_s, updZ_s]; exact ⟨v1, by omega, v3, v4, br⟩
    · rw [e (97 + 5 * u + 1) (by omega) (by omega), e (97 + 5 * u + 4) (by omega) (by omega)]; exact hM.w x y
/-- a turn of the simulation, as rows -/
def comR (a : Int → Int) (i d pa si : Int) : Int → Int := updZ (updZ (updZ (updZ (updZ (updZ (updZ a (97 + 5 * a 96 + 0) i) (97 + 5 * a 96 + 1) d) (97 + 5 * a 96 + 2) pa) (97 + 5 * a 96 + 3) si) (97 + 5 * a 96 + 4) 0) 96 (a 96 + 1)) (97 + 5 * a 96 + 4) (bor 0 (vw (a 0) i d si))
def turR (a : Int → Int) (w : Int) : Int → Int := updZ (updZ a (97 + 5 * w + 1) (1 - a (97 + 5 * w + 1))) (97 + 5 * w + 4) (bor (a (97 + 5 * w + 4)) (vw (a 0) (a (97 + 5 * w + 0)) (1 - a (97 + 5 * w + 1)) (a (97 + 5 * w + 3))))
def goT (a : Int → Int) (t : Int) : Int → Int := updZ (goR a 0 t) 117 (a 117 + t)
noncomputable def turnR (a : Int → Int) (r : Int) : Int → Int :=
  if r % 16 < 3 then tryR a 1 (r / 16 % 24) (r / 512 % 9) else if r % 16 = 3 then tryR a 2 (r / 16 % 24) 0 else if r % 16 < 6 then tryR a 3 (r / 16 % 24) (r / 512 % 9) else if r % 16 = 6 then tryR a 4 (r / 16 % 24) 0
  else if r % 16 = 7 then (if r / 16 % 24 < a 0 ∧ a 96 < 4 then comR a (r / 16 % 24) (r / 512 % 2) (1 + r / 1024 % 3) (1 + r / 4096 % 5) else a)
  else if r % 16 = 8 then (if r / 16 % 4 < a 96 then turR a (r / 16 % 4) else a) else goT a (1 + r / 16 % 9)
theorem turnR_MR {a : Int → Int} (hM : MR a) {r : Int} : MR (turnR a r) := by
  have hn0 := hM.n
  unfold turnR
  repeat' split
  · exact tryR_MR hM
  · exact tryR_MR hM
  · exact tryR_MR hM
  · exact tryR_MR hM
  · exact MR_com hM (by omega) (by omega) (by omega) (by omega) (by omega)
  · exact hM
  · exact MR_tur hM (by omega)
  · exact hM
  · exact goR_MR2 hM (Or.inl trivial)
/-- a step of a script: whether it is done, and the row behind it -/
def okT (a : Int → Int) (x : Int) : Prop :=
  ((1 ≤ x / 1000 ∧ x / 1000 ≤ 4) ∧ okA a (x / 1000) (x % 1000 / 10) (x % 1000 % 10)) ∨ (x / 1000 = 5 ∧ 1 ≤ x % 1000 ∧ x % 1000 ≤ 50)
  ∨ (x / 1000 = 6 ∧ x % 1000 / 100 ≤ 1 ∧ x % 1000 % 100 ≤ cnt (fun p => 0 < seg (a 0) (rq a) p (x % 1000 / 100)) (a 0))
  ∨ (x / 1000 = 7 ∧ x % 1000 / 100 ≤ 1 ∧ x % 1000 % 100 ≤ sns (a 0) (rq a) (a 25) (rbl a) (rbc a) (x % 1000 / 100))
  ∨ (x / 1000 = 8 ∧ x % 1000 / 100 < a 96 ∧ x % 1000 % 100 ≤ knb (a 0) (rq a) (a 25) (rbl a) (rbc a) (a (97 + 5 * (x % 1000 / 100) + 1)) (a (97 + 5 * (x % 1000 / 100) + 4)) 0)
  ∨ (x / 1000 = 9 ∧ x % 1000 / 100 ≤ 1 ∧ x % 1000 % 100 ≤ rdg (a 0) (rq a) (a 25) (rbl a) (rbc a) (x % 1000 / 100))
noncomputable def tryT (a : Int → Int) (x : Int) : Int → Int :=
  if 1 ≤ x / 1000 ∧ x / 1000 ≤ 4 then tryR a (x / 1000) (x % 1000 / 10) (x % 1000 % 10) else if x / 1000 = 5 ∧ 1 ≤ x % 1000 ∧ x % 1000 ≤ 50 then goT a (x % 1000) else a
theorem tryT_MR {a : Int → Int} (hM : MR a) {x : Int} : MR (tryT a x) := by
  unfold tryT; split
  · exact tryR_MR hM
  · split
    · exact goR_MR2 hM (Or.inl trivial)
    · exact hM
theorem goR_v {a : Int → Int} (hM : MR a) {t : Int} : 0 ≤ sm (fun w => knb (a 0) (rq a) (a 25) (rbl a) (rbc a) (a (97 + 5 * w + 1)) (goR a 0 t (97 + 5 * w + 4)) 0) (a 96) ∧ sm (fun w => knb (a 0) (rq a) (a 25) (rbl a) (rbc a) (a (97 + 5 * w + 1)) (goR a 0 t (97 + 5 * w + 4)) 0) (a 96) ≤ 96 := by
  have hc := hM.wc; have hn := hM.n
  have hs := sm_rng (f := fun w => knb (a 0) (rq a) (a 25) (rbl a) (rbc a) (a (97 + 5 * w + 1)) (goR a 0 t (97 + 5 * w + 4)) 0) (c := 24) (n := a 96) (by decide) (by omega) (fun j x y => ?_)
  · exact ⟨hs.1, by omega⟩
  have := cnt_rng (fun p => kn (a 0) (rq a) p (a (97 + 5 * j + 1)) (goR a 0 t (97 + 5 * j + 4)) ∧ ((0 : Int) = 0 ∨ hf (a 0) (rq a) (a 25) (rbl a) (rbc a) p (a (97 + 5 * j + 1)))) (n := a 0) (by omega)
  unfold knb; omega
