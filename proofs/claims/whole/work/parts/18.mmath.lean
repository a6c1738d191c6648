-- the reference's row of numbers
abbrev rq (a : Int → Int) : Int → Int := fun j => a (1 + j)
abbrev rbl (a : Int → Int) : Int → Int := fun w => a (26 + 7 * w)
abbrev rbc (a : Int → Int) : Int → Int → Int := fun w i => a (26 + 7 * w + 1 + i)
abbrev rw0 (a : Int → Int) : Int → Int := fun w => a (97 + 5 * w + 0)
abbrev rw1 (a : Int → Int) : Int → Int := fun w => a (97 + 5 * w + 1)
abbrev rw2 (a : Int → Int) : Int → Int := fun w => a (97 + 5 * w + 2)
abbrev rw3 (a : Int → Int) : Int → Int := fun w => a (97 + 5 * w + 3)
abbrev rw4 (a : Int → Int) : Int → Int := fun w => a (97 + 5 * w + 4)
def MR (a : Int → Int) : Prop := (0 ≤ a 0 ∧ a 0 ≤ 24) ∧ (∀ j, 0 ≤ j → j < a 0 → 0 ≤ a (1 + j) ∧ a (1 + j) ≤ 9) ∧ (0 ≤ a 25 ∧ a 25 ≤ 10) ∧ (∀ w, 0 ≤ w → w < a 25 → (1 ≤ a (26 + 7 * w) ∧ a (26 + 7 * w) ≤ 6) ∧ ∀ i, 0 ≤ i → i < a (26 + 7 * w) → 1 ≤ a (26 + 7 * w + 1 + i) ∧ a (26 + 7 * w + 1 + i) ≤ 8) ∧ (0 ≤ a 96 ∧ a 96 ≤ 4) ∧ ∀ w, 0 ≤ w → w < a 96 → WK (a 0) (a (97 + 5 * w + 0)) (a (97 + 5 * w + 1)) (a (97 + 5 * w + 2)) (a (97 + 5 * w + 3)) (a (97 + 5 * w + 4))
theorem MR.n {a : Int → Int} (h : MR a) : 0 ≤ a 0 ∧ a 0 ≤ 24 := h.1
theorem MR.q {a : Int → Int} (h : MR a) {j : Int} (h0 : 0 ≤ j) (h1 : j < a 0) : 0 ≤ a (1 + j) ∧ a (1 + j) ≤ 9 := h.2.1 j h0 h1
theorem MR.nw {a : Int → Int} (h : MR a) : 0 ≤ a 25 ∧ a 25 ≤ 10 := h.2.2.1
theorem MR.b {a : Int → Int} (h : MR a) {w : Int} (h0 : 0 ≤ w) (h1 : w < a 25) : (1 ≤ a (26 + 7 * w) ∧ a (26 + 7 * w) ≤ 6) ∧ ∀ i, 0 ≤ i → i < a (26 + 7 * w) → 1 ≤ a (26 + 7 * w + 1 + i) ∧ a (26 + 7 * w + 1 + i) ≤ 8 := h.2.2.2.1 w h0 h1
theorem MR.wc {a : Int → Int} (h : MR a) : 0 ≤ a 96 ∧ a 96 ≤ 4 := h.2.2.2.2.1
theorem MR.w {a : Int → Int} (h : MR a) {w : Int} (h0 : 0 ≤ w) (h1 : w < a 96) : WK (a 0) (a (97 + 5 * w + 0)) (a (97 + 5 * w + 1)) (a (97 + 5 * w + 2)) (a (97 + 5 * w + 3)) (a (97 + 5 * w + 4)) := h.2.2.2.2.2 w h0 h1
theorem offm_a {n p d k : Int} (hn : 0 < n) (hd : d = 0) (hp : 0 ≤ p) (hk : 0 ≤ k) : (p + k.tmod n).tmod n = off n p d k := by
  have h1 := Int.emod_nonneg k (show n ≠ 0 by omega)
  rw [tmod_pos hk, tmod_pos (by omega)]
  unfold off; rw [if_pos hd]
  exact Int.add_emod_emod _ _ _
theorem offm_b {n p d k : Int} (hn : 0 < n) (hd : ¬ d = 0) (hp : 0 ≤ p) (hk : 0 ≤ k) : (p + n - k.tmod n).tmod n = off n p d k := by
  have h1 := Int.emod_nonneg k (show n ≠ 0 by omega)
  have h2 := Int.emod_lt_of_pos k hn
  rw [tmod_pos hk, tmod_pos (by omega)]
  unfold off; rw [if_neg hd]
  rw [show p + n - k % n = (p - k % n) + n * 1 by omega, Int.add_mul_emod_self_left, Int.sub_emod_emod]
theorem off_back {n p d : Int} (hp : 0 ≤ p ∧ p < n) : off n p d n = p := by
  unfold off
  split
  · rw [show p + n = p + n * 1 by omega, Int.add_mul_emod_self_left]; exact Int.emod_eq_of_lt hp.1 hp.2
  · rw [show p - n = p + n * (-1) by omega, Int.add_mul_emod_self_left]; exact Int.emod_eq_of_lt hp.1 hp.2
theorem rseg_yes {a : Int → Int} {n p d : Int} (h : a (1 + p) = 0) : seg n (rq a) p d = seg1 n (rq a) p d := seg_yes (q := rq a) h
theorem rseg_no {a : Int → Int} {n p d : Int} (h : ¬ a (1 + p) = 0) : seg n (rq a) p d = 0 := seg_no (q := rq a) h
theorem rseg_div {a : Int → Int} {n p d : Int} (h : 0 < seg n (rq a) p d) : a (1 + p) = 0 := Classical.byContradiction fun hc => by rw [rseg_no hc] at h; omega
theorem hf_y {n : Int} {q : Int → Int} {nw : Int} {bl : Int → Int} {bc : Int → Int → Int} {p d : Int} (hw : 0 ≤ nw) (h : 0 < fc n q nw bl bc p d) : hf n q nw bl bc p d := (cnt_pos hw).mp h
theorem hf_n3 {n : Int} {q : Int → Int} {nw : Int} {bl : Int → Int} {bc : Int → Int → Int} {p d : Int} (hw : 0 ≤ nw) (h : fc n q nw bl bc p d ≤ 0) : ¬ hf n q nw bl bc p d := fun h2 => by have := (cnt_pos (P := fun w => ft n q (bl w) (bc w) p d) hw).mpr h2; unfold fc at h; omega
theorem hf_n2 {a : Int → Int} (hM : MR a) {p d : Int} (h : seg (a 0) (rq a) p d ≤ 0) : ¬ hf (a 0) (rq a) (a 25) (rbl a) (rbc a) p d := fun ⟨w, h0, h1, h2⟩ => by
  have h3 : a (26 + 7 * w) = seg (a 0) (rq a) p d := h2.1
  have h4 := (hM.b h0 h1).1
  omega
theorem hf_n1 {a : Int → Int} (hM : MR a) {p d : Int} (h : ¬ a (1 + p) = 0) : ¬ hf (a 0) (rq a) (a 25) (rbl a) (rbc a) p d := hf_n2 hM (by rw [rseg_no h]; exact Int.le_refl _)
theorem b2i_one {P : Prop} (h : b2i (pB P) = 1) : P := Classical.byContradiction fun hc => by rw [pB_f hc] at h; exact absurd h (by decide)
theorem one_b2i {P : Prop} (h : P) : b2i (pB P) = 1 := by rw [pB_t h]; rfl
def cap (x : Int) : Int := if 1000000 < x then 1000000 else x
theorem cap_rng {x : Int} (h : 0 ≤ x) : 0 ≤ cap x ∧ cap x ≤ 1000000 := by unfold cap; split <;> omega
theorem cap_hi {x f : Int} (hx : 0 ≤ x) (hf : 0 ≤ f) (h : 1000000 < cap x * f) : 1000000 = cap (x * f) := by
  have h1 : cap x ≤ x := by unfold cap; split <;> omega
  have h2 := Int.mul_le_mul_of_nonneg_right h1 hf
  unfold cap at *; split <;> omega
theorem cap_lo {x f : Int} (hx : 0 ≤ x) (hf : 0 ≤ f) (h : cap x * f ≤ 1000000) : cap x * f = cap (x * f) := by
  by_cases hc : 1000000 < x
  · have e : cap x = 1000000 := by unfold cap; rw [if_pos hc]
    rw [e] at h ⊢
    rcases (show f = 0 ∨ f = 1 ∨ 2 ≤ f by omega) with rfl | rfl | h2
    · simp [cap]
    · rw [Int.mul_one, Int.mul_one]; unfold cap; rw [if_pos hc]
    · omega
  · have e : cap x = x := by unfold cap; rw [if_neg hc]
    rw [e] at h ⊢
    unfold cap; rw [if_neg (by omega)]
theorem rdg_c {n k : Int} {q : Int → Int} {nw : Int} {bl : Int → Int} {bc : Int → Int → Int} {d : Int} (hk : k = n) (h : ¬ cnt (fun p => 0 < seg n q p d) k = 0) : cap (prd (fun p => 0 < seg n q p d) (fun p => fc n q nw bl bc p d) k) = rdg n q nw bl bc d := by
  subst hk; unfold rdg cap; rw [if_neg h]; split <;> split <;> omega
theorem capf_rng {x f : Int} (hx : 0 ≤ x) (hf : 0 ≤ f ∧ f ≤ 10) : 0 ≤ cap x * f ∧ cap x * f ≤ 10000000 := by
  have h := cap_rng hx
  refine ⟨Int.mul_nonneg h.1 hf.1, ?_⟩
  have h1 := Int.mul_le_mul h.2 hf.2 hf.1 (by decide)
  omega
section B18
variable {p : Program} {l : Launch} {e : Env} {R : Room} {s : State} {m : MethodId} {args : Array Value} {below : List Frame} {meth : Method} {c : Code} {H : Heap} {locs : List Loc} {cells slots : Nat} {Q : State → Prop}
variable {cc : ByteArray} {pc : Nat} {ls : Array Slot} {rest : List Value} {nL : Nat} {own : String}
theorem rr_ldc (F : FX p m c cc nL s args own) {index : Nat} {v : Int32} (z : Int) (hz : v = iI z) (hl : Cond.constant own index v ∈ lw_G) (hdg : decode cc pc = .ok (.ldc index, 2)) (k : W p l e R s m args below meth c H locs cells slots Q (F0 m (pc + 2) ls (vI z :: rest))) : W p l e R s m args below meth c H locs cells slots Q (F0 m pc ls rest) := lv_ldc F.1 F.2.1 F.2.2.2.1 (F.2.2.2.2 _ hl) hdg (by rw [hz]; exact k)
end B18
