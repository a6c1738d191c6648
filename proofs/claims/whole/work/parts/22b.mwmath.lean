theorem MR_wear {a : Int → Int} (hM : MR a) {i : Int} (h0 : 0 ≤ i) (h1 : i < a 0) : MR (updZ a (1 + i) (if a (1 + i) = 0 then 0 else 9)) := by
  have hn := hM.n
  have e : ∀ j, (j < 1 ∨ 25 ≤ j) → updZ a (1 + i) (if a (1 + i) = 0 then 0 else 9) j = a j := fun j hj => updZ_n (by omega)
  unfold MR
  rw [e 0 (by omega), e 25 (by omega), e 96 (by omega)]
  refine ⟨hM.1, fun j a1 a2 => ?_, hM.nw, fun w a1 a2 => ?_, hM.wc, fun w a1 a2 => ?_⟩
  · by_cases hj : 1 + j = 1 + i
    · rw [hj, updZ_s]; split <;> omega
    · rw [updZ_n hj]; exact hM.q a1 a2
  · have hw := hM.b a1 a2
    rw [e (26 + 7 * w) (by omega)]
    refine ⟨hw.1, fun x b1 b2 => ?_⟩
    rw [e (26 + 7 * w + 1 + x) (by omega)]
    exact hw.2 x b1 b2
  · rw [e (97 + 5 * w + 0) (by omega), e (97 + 5 * w + 1) (by omega), e (97 + 5 * w + 2) (by omega), e (97 + 5 * w + 3) (by omega), e (97 + 5 * w + 4) (by omega)]
    exact hM.w a1 a2
theorem CM_at {a : Int → Int} {W i d pa si n1 : Int} (hW : 0 ≤ W) : updZ (updZ (updZ (updZ (updZ (updZ a (97 + 5 * W + 0) i) (97 + 5 * W + 1) d) (97 + 5 * W + 2) pa) (97 + 5 * W + 3) si) (97 + 5 * W + 4) 0) 96 n1 0 = a 0 ∧ updZ (updZ (updZ (updZ (updZ (updZ a (97 + 5 * W + 0) i) (97 + 5 * W + 1) d) (97 + 5 * W + 2) pa) (97 + 5 * W + 3) si) (97 + 5 * W + 4) 0) 96 n1 (97 + 5 * W + 0) = i ∧ updZ (updZ (updZ (updZ (updZ (updZ a (97 + 5 * W + 0) i) (97 + 5 * W + 1) d) (97 + 5 * W + 2) pa) (97 + 5 * W + 3) si) (97 + 5 * W + 4) 0) 96 n1 (97 + 5 * W + 1) = d ∧ updZ (updZ (updZ (updZ (updZ (updZ a (97 + 5 * W + 0) i) (97 + 5 * W + 1) d) (97 + 5 * W + 2) pa) (97 + 5 * W + 3) si) (97 + 5 * W + 4) 0) 96 n1 (97 + 5 * W + 2) = pa ∧ updZ (updZ (updZ (updZ (updZ (updZ a (97 + 5 * W + 0) i) (97 + 5 * W + 1) d) (97 + 5 * W + 2) pa) (97 + 5 * W + 3) si) (97 + 5 * W + 4) 0) 96 n1 (97 + 5 * W + 3) = si ∧ updZ (updZ (updZ (updZ (updZ (updZ a (97 + 5 * W + 0) i) (97 + 5 * W + 1) d) (97 + 5 * W + 2) pa) (97 + 5 * W + 3) si) (97 + 5 * W + 4) 0) 96 n1 (97 + 5 * W + 4) = 0 := by
  refine ⟨?_, ?_, ?_, ?_, ?_, ?_⟩
  · rw [updZ_n (by omega), updZ_n (by omega), updZ_n (by omega), updZ_n (by omega), updZ_n (by omega), updZ_n (by omega)]
  · rw [updZ_n (by omega), updZ_n (by omega), updZ_n (by omega), updZ_n (by omega), updZ_n (by omega), updZ_s]
  · rw [updZ_n (by omega), updZ_n (by omega), updZ_n (by omega), updZ_n (by omega), updZ_s]
  · rw [updZ_n (by omega), updZ_n (by omega), updZ_n (by omega), updZ_s]
  · rw [updZ_n (by omega), updZ_n (by omega), updZ_s]
  · rw [updZ_n (by omega), updZ_s]
theorem iI_xor1 {a : Int} (h : 0 ≤ a ∧ a ≤ 1) : iI a ^^^ iI 1 = iI (1 - a) := by
  rcases (show a = 0 ∨ a = 1 by omega) with rfl | rfl <;> decide
section B22b
variable {p : Program} {l : Launch} {e : Env} {R : Room} {s : State} {m : MethodId} {args : Array Value} {below : List Frame} {meth : Method} {c : Code} {H : Heap} {locs : List Loc} {cells slots : Nat} {Q : State → Prop}
variable {cc : ByteArray} {pc : Nat} {ls : Array Slot} {rest : List Value} {nL : Nat} {own : String}
theorem rr_ixor (F : FX p m c cc nL s args own) {a z : Int} (hdg : decode cc pc = .ok (.ixor, 1)) (h : 0 ≤ a ∧ a ≤ 1) (hz : 1 - a = z) (k : W p l e R s m args below meth c H locs cells slots Q (F0 m (pc + 1) ls (vI z :: rest))) : W p l e R s m args below meth c H locs cells slots Q (F0 m pc ls (vI 1 :: vI a :: rest)) := lv_ixor F.1 F.2.1 hdg (by rw [iI_xor1 h, hz]; exact k)
end B22b
/-- the row behind k steps of all walkers and one more of those below j -/
def goR (a : Int → Int) (j k : Int) : Int → Int := fun x =>
  if 97 ≤ x ∧ x < 97 + 5 * a 96 then
    (if (x - 97) % 5 = 0 then ps (a 0) (a (97 + 5 * ((x - 97) / 5) + 0)) (a (97 + 5 * ((x - 97) / 5) + 1)) (a (97 + 5 * ((x - 97) / 5) + 2)) (stp (a 96) j k ((x - 97) / 5))
     else if (x - 97) % 5 = 4 then se (a 0) (a (97 + 5 * ((x - 97) / 5) + 0)) (a (97 + 5 * ((x - 97) / 5) + 1)) (a (97 + 5 * ((x - 97) / 5) + 2)) (a (97 + 5 * ((x - 97) / 5) + 3)) (a (97 + 5 * ((x - 97) / 5) + 4)) (stp (a 96) j k ((x - 97) / 5))
     else a x)
  else a x
theorem goR_c {a : Int → Int} {j k x : Int} (h : x < 97 ∨ 97 + 5 * a 96 ≤ x) : goR a j k x = a x := by unfold goR; rw [if_neg (by omega)]
theorem goR_p {a : Int → Int} {j k w : Int} (h0 : 0 ≤ w) (h1 : w < a 96) : goR a j k (97 + 5 * w + 0) = ps (a 0) (a (97 + 5 * w + 0)) (a (97 + 5 * w + 1)) (a (97 + 5 * w + 2)) (stp (a 96) j k w) := by
  unfold goR; rw [if_pos (by omega), if_pos (by omega), show (97 + 5 * w + 0 - 97) / 5 = w by omega]
theorem goR_e {a : Int → Int} {j k w : Int} (h0 : 0 ≤ w) (h1 : w < a 96) : goR a j k (97 + 5 * w + 4) = se (a 0) (a (97 + 5 * w + 0)) (a (97 + 5 * w + 1)) (a (97 + 5 * w + 2)) (a (97 + 5 * w + 3)) (a (97 + 5 * w + 4)) (stp (a 96) j k w) := by
  unfold goR; rw [if_pos (by omega), if_neg (by omega), if_pos (by omega), show (97 + 5 * w + 4 - 97) / 5 = w by omega]
theorem goR_m {a : Int → Int} {j k w i : Int} (h0 : 0 ≤ w) (h1 : w < a 96) (hi : 1 ≤ i ∧ i ≤ 3) : goR a j k (97 + 5 * w + i) = a (97 + 5 * w + i) := by
  unfold goR; rw [if_pos (by omega), if_neg (by omega), if_neg (by omega)]
theorem goR_0 (a : Int → Int) : goR a 0 0 = a := by
  funext x
  unfold goR
  split
  · split
    · rw [ps_0 _ _ _ _ (stp_0 _ _ (by omega))]; congr 1; omega
    · split
      · rw [se_0 _ _ _ _ _ _ (stp_0 _ _ (by omega))]; congr 1; omega
      · rfl
  · rfl
theorem goR_end {a : Int → Int} {j k : Int} (h : a 96 ≤ j) : goR a j k = goR a 0 (k + 1) := by
  funext x
  unfold goR
  split
  · rw [stp_end (k := k) h (show 0 ≤ (x - 97) / 5 by omega)]
  · rfl
theorem goR_WK {a : Int → Int} (hM : MR a) {j k w : Int} (h0 : 0 ≤ w) (h1 : w < a 96) : WK (goR a j k 0) (goR a j k (97 + 5 * w + 0)) (goR a j k (97 + 5 * w + 1)) (goR a j k (97 + 5 * w + 2)) (goR a j k (97 + 5 * w + 3)) (goR a j k (97 + 5 * w + 4)) := by
  rw [goR_c (x := 0) (by omega), goR_p h0 h1, goR_e h0 h1, goR_m h0 h1 (by omega), goR_m h0 h1 (by omega), goR_m h0 h1 (by omega)]
  exact ps_WK (hM.w h0 h1)
theorem goR_s {a : Int → Int} (hM : MR a) {j k : Int} (h0 : 0 ≤ j) (h1 : j < a 96) (hk : 0 ≤ k) :
    updZ (updZ (goR a j k) (97 + 5 * j + 0) (off (goR a j k 0) (goR a j k (97 + 5 * j + 0)) (goR a j k (97 + 5 * j + 1)) (goR a j k (97 + 5 * j + 2)))) (97 + 5 * j + 4) (bor (goR a j k (97 + 5 * j + 4)) (vw (goR a j k 0) (off (goR a j k 0) (goR a j k (97 + 5 * j + 0)) (goR a j k (97 + 5 * j + 1)) (goR a j k (97 + 5 * j + 2))) (goR a j k (97 + 5 * j + 1)) (goR a j k (97 + 5 * j + 3)))) = goR a (j + 1) k := by
  rw [goR_c (x := 0) (by omega), goR_p h0 h1, goR_e h0 h1, goR_m h0 h1 (i := 1) (by omega), goR_m h0 h1 (i := 2) (by omega), goR_m h0 h1 (i := 3) (by omega)]
  have e1 : off (a 0) (ps (a 0) (a (97 + 5 * j + 0)) (a (97 + 5 * j + 1)) (a (97 + 5 * j + 2)) (stp (a 96) j k j)) (a (97 + 5 * j + 1)) (a (97 + 5 * j + 2)) = off (a 0) (ps (a 0) (a (97 + 5 * j + 0)) (a (97 + 5 * j + 1)) (a (97 + 5 * j + 2)) (stp (a 96) j k j)) (a (97 + 5 * j + 1)) (1 * a (97 + 5 * j + 2)) := by rw [Int.one_mul]
  rw [e1, se_y (j2 := j + 1) h1 rfl hk, ps_y (j2 := j + 1) h1 rfl hk]
  funext x
  by_cases hx4 : x = 97 + 5 * j + 4
  · rw [hx4, updZ_s, goR_e h0 h1]
  · rw [updZ_n hx4]
    by_cases hx0 : x = 97 + 5 * j + 0
    · rw [hx0, updZ_s, goR_p h0 h1]
    · rw [updZ_n hx0]
      unfold goR
      split
      · split
        · rw [stp_n (wc := a 96) (j := j) (j2 := j + 1) (k := k) (i := (x - 97) / 5) h1 rfl (by omega)]
        · split
          · rw [stp_n (wc := a 96) (j := j) (j2 := j + 1) (k := k) (i := (x - 97) / 5) h1 rfl (by omega)]
          · rfl
      · rfl
theorem goR_MR {a : Int → Int} (hM : MR a) {j k : Int} : MR (goR a j k) := by
  have hw := hM.wc
  unfold MR
  rw [goR_c (x := 0) (by omega), goR_c (x := 25) (by omega), goR_c (x := 96) (by omega)]
  refine ⟨hM.1, fun x a1 a2 => ?_, hM.nw, fun w a1 a2 => ?_, hM.wc, fun w a1 a2 => ?_⟩
  · have := hM.n
    rw [goR_c (x := 1 + x) (by omega)]; exact hM.q a1 a2
  · have hb := hM.b a1 a2
    have := hM.nw
    rw [goR_c (x := 26 + 7 * w) (by omega)]
    refine ⟨hb.1, fun x b1 b2 => ?_⟩
    rw [goR_c (x := 26 + 7 * w + 1 + x) (by omega)]
    exact hb.2 x b1 b2
  · have h := goR_WK hM (j := j) (k := k) a1 a2
    rw [goR_c (x := 0) (by omega)] at h
    exact h
theorem MR_ext {a b : Int → Int} (hM : MR a) (h : ∀ x, 0 ≤ x → x < 117 → b x = a x) : MR b := by
  have hn := hM.n
  have hw := hM.nw
  have hc := hM.wc
  unfold MR
  rw [h 0 (by omega) (by omega), h 25 (by omega) (by omega), h 96 (by omega) (by omega)]
  refine ⟨hM.1, fun x a1 a2 => ?_, hM.nw, fun w a1 a2 => ?_, hM.wc, fun w a1 a2 => ?_⟩
  · rw [h (1 + x) (by omega) (by omega)]; exact hM.q a1 a2
  · have hb := hM.b a1 a2
    rw [h (26 + 7 * w) (by omega) (by omega)]
    refine ⟨hb.1, fun x b1 b2 => ?_⟩
    rw [h (26 + 7 * w + 1 + x) (by omega) (by omega)]
    exact hb.2 x b1 b2
  · rw [h (97 + 5 * w + 0) (by omega) (by omega), h (97 + 5 * w + 1) (by omega) (by omega), h (97 + 5 * w + 2) (by omega) (by omega), h (97 + 5 * w + 3) (by omega) (by omega), h (97 + 5 * w + 4) (by omega) (by omega)]
    exact hM.w a1 a2
theorem goR_MR2 {a : Int → Int} (hM : MR a) {j k v : Int} (_ : True ∨ 0 ≤ k) : MR (updZ (goR a j k) 117 v) := MR_ext (goR_MR hM) (fun x _ h => updZ_n (by omega))
theorem seg_congr {n : Int} {q q2 : Int → Int} {p d : Int} (hn : 0 < n) (hp : 0 ≤ p ∧ p < n) (h : ∀ j, 0 ≤ j → j < n → q j = q2 j) : seg n q p d = seg n q2 p d := by
  unfold seg
  rw [h p hp.1 hp.2]
  split
  · unfold seg1
    exact fst_congr (by omega) (fun j a b => by have := off_rng hn p d (j + 1); rw [h _ this.1 this.2])
  · rfl
theorem stn_congr {n : Int} {q q2 : Int → Int} {L : Int} {c c2 : Int → Int} {p d : Int} (hn : 0 < n) (h : ∀ j, 0 ≤ j → j < n → q j = q2 j) (hc : ∀ j, 0 ≤ j → j < L → c j = c2 j) : stn n q L c p d ↔ stn n q2 L c2 p d := by
  refine ⟨fun H j a b => ?_, fun H j a b => ?_⟩
  · have := off_rng hn p d j
    have H := H j a b
    rwa [h _ this.1 this.2, hc j a b] at H
  · have := off_rng hn p d j
    have H := H j a b
    rwa [← h _ this.1 this.2, ← hc j a b] at H
theorem ft_congr {n : Int} {q q2 : Int → Int} {L : Int} {c c2 : Int → Int} {p d : Int} (hn : 0 < n) (hp : 0 ≤ p ∧ p < n) (h : ∀ j, 0 ≤ j → j < n → q j = q2 j) (hc : ∀ j, 0 ≤ j → j < L → c j = c2 j) : ft n q L c p d ↔ ft n q2 L c2 p d := by
  unfold ft
  rw [seg_congr hn hp h, stn_congr hn h hc]
theorem hf_congr {n : Int} {q q2 : Int → Int} {nw : Int} {bl bl2 : Int → Int} {bc bc2 : Int → Int → Int} {p d : Int} (hn : 0 < n) (hp : 0 ≤ p ∧ p < n) (h : ∀ j, 0 ≤ j → j < n → q j = q2 j) (hb : ∀ w, 0 ≤ w → w < nw → bl w = bl2 w ∧ ∀ j, 0 ≤ j → j < bl w → bc w j = bc2 w j) : hf n q nw bl bc p d ↔ hf n q2 nw bl2 bc2 p d := by
  refine ⟨fun ⟨w, a, b, H⟩ => ⟨w, a, b, ?_⟩, fun ⟨w, a, b, H⟩ => ⟨w, a, b, ?_⟩⟩
  · rw [← (hb w a b).1]
    exact (ft_congr hn hp h (hb w a b).2).mp H
  · rw [← (hb w a b).1] at H
    exact (ft_congr hn hp h (hb w a b).2).mpr H
theorem kn_congr {n : Int} {q q2 : Int → Int} {p d e : Int} (hn : 0 < n) (hp : 0 ≤ p ∧ p < n) (h : ∀ j, 0 ≤ j → j < n → q j = q2 j) : kn n q p d e ↔ kn n q2 p d e := by
  unfold kn
  rw [seg_congr hn hp h]
theorem knb_congr {n : Int} {q q2 : Int → Int} {nw : Int} {bl bl2 : Int → Int} {bc bc2 : Int → Int → Int} {d e fb : Int} (h : ∀ j, 0 ≤ j → j < n → q j = q2 j) (hb : ∀ w, 0 ≤ w → w < nw → bl w = bl2 w ∧ ∀ j, 0 ≤ j → j < bl w → bc w j = bc2 w j) : knb n q nw bl bc d e fb = knb n q2 nw bl2 bc2 d e fb := by
  unfold knb
  exact cnt_congr (fun j a b => by rw [kn_congr (by omega) ⟨a, b⟩ h, hf_congr (by omega) ⟨a, b⟩ h hb])
theorem goR_sm {a : Int → Int} (hM : MR a) {t v : Int} (ht : 0 ≤ t) : sm (fun w => knb (updZ (goR a 0 t) 117 v 0) (rq (updZ (goR a 0 t) 117 v)) (updZ (goR a 0 t) 117 v 25) (rbl (updZ (goR a 0 t) 117 v)) (rbc (updZ (goR a 0 t) 117 v)) (updZ (goR a 0 t) 117 v (97 + 5 * w + 1)) (updZ (goR a 0 t) 117 v (97 + 5 * w + 4)) 0) (updZ (goR a 0 t) 117 v 96) = sm (fun w => knb (a 0) (rq a) (a 25) (rbl a) (rbc a) (a (97 + 5 * w + 1)) (goR a 0 t (97 + 5 * w + 4)) 0) (a 96) := by
  have hn := hM.n
  have hw := hM.nw
  have hc := hM.wc
  have e : ∀ x, x < 97 → updZ (goR a 0 t) 117 v x = a x := fun x hx => by rw [updZ_n (by omega), goR_c (by omega)]
  rw [e 0 (by omega), e 25 (by omega), e 96 (by omega)]
  refine sm_congr (fun w h0 h1 => ?_)
  rw [updZ_n (by omega), updZ_n (show ¬ 97 + 5 * w + 4 = 117 by omega), goR_m h0 h1 (by omega)]
  refine knb_congr (fun j x y => e (1 + j) (by omega)) (fun u x y => ⟨e (26 + 7 * u) (by omega), fun j z1 z2 => ?_⟩)
  have := (hM.b x y).1
  have e2 := e (26 + 7 * u) (by omega)
  exact e (26 + 7 * u + 1 + j) (by show 26 + 7 * u + 1 + j < 97; have : j < a (26 + 7 * u) := e2 ▸ z2; omega)
