-- rows of references, and a state's walkers by their numbers
def rA (k : Int → Nat) : Nat → Option Nat := fun j => some (k (j : Int))
section B16
variable {p : Program} {l : Launch} {e : Env} {R : Room} {s : State} {m : MethodId} {args : Array Value} {below : List Frame} {meth : Method} {c : Code} {H : Heap} {locs : List Loc} {cells slots : Nat} {Q : State → Prop}
variable {cc : ByteArray} {pc : Nat} {ls : Array Slot} {rest : List Value} {nL : Nat} {own : String} {D : va_G} {cy : Nat → ClassId} {ws : va_W}
theorem rr_aald4 (F : FX p m c cc nL s args own) (hK : KK D cy s) (hP : va_P D vwCl ws H) (q0 : Nat) {a n : Nat} {k : Int → Nat} (ha : ws[q0]? = some (a, .inl (cy 4, n, .inr (.inr (.inr (.inr (rA k))))))) {z : Int} (h0 : 0 ≤ z) (hj : z < n) (hn : n < 2147483648) (hdg : decode cc pc = .ok (.aaload, 1)) (kk : W p l e R s m args below meth c H locs cells slots Q (F0 m (pc + 1) ls (.ref (k z) :: rest))) : W p l e R s m args below meth c H locs cells slots Q (F0 m pc ls (vI z :: .ref a :: rest)) := by
  obtain ⟨j, rfl⟩ := Int.eq_ofNat_of_zero_le h0
  exact va_aldq F.1 F.2.1 hK.1 hP q0 4 ha rfl (iI_in rfl (by omega) hn) hdg (by rw [iI_cl rfl (by omega)]; exact kk)
theorem rr_aald3 (F : FX p m c cc nL s args own) (hK : KK D cy s) (hP : va_P D vwCl ws H) (q0 : Nat) {a n : Nat} {k : Int → Nat} (ha : ws[q0]? = some (a, .inl (cy 3, n, .inr (.inr (.inr (.inr (rA k))))))) {z : Int} (h0 : 0 ≤ z) (hj : z < n) (hn : n < 2147483648) (hdg : decode cc pc = .ok (.aaload, 1)) (kk : W p l e R s m args below meth c H locs cells slots Q (F0 m (pc + 1) ls (.ref (k z) :: rest))) : W p l e R s m args below meth c H locs cells slots Q (F0 m pc ls (vI z :: .ref a :: rest)) := by
  obtain ⟨j, rfl⟩ := Int.eq_ofNat_of_zero_le h0
  exact va_aldq F.1 F.2.1 hK.1 hP q0 3 ha rfl (iI_in rfl (by omega) hn) hdg (by rw [iI_cl rfl (by omega)]; exact kk)
end B16
theorem wk_ext {D : va_G} {ws : va_W} {H : Heap} {wk : Int → Nat} (E : Int → va_E) (w : Int) (hP : va_P D vwCl ws H) (a0 a1 a2 a3 : Nat) (h0 : ws[a0]? = some (wk 0, E 0)) (h1 : ws[a1]? = some (wk 1, E 1)) (h2 : ws[a2]? = some (wk 2, E 2)) (h3 : ws[a3]? = some (wk 3, E 3)) (hw : 0 ≤ w ∧ w < 4) : va_P D vwCl (ws ++ [(wk w, E w)]) H := by
  refine hP.app (fun k q hq => ?_)
  match k, hq with
  | 0, hq =>
    cases hq
    rcases (show w = 0 ∨ w = 1 ∨ w = 2 ∨ w = 3 by omega) with rfl | rfl | rfl | rfl
    · exact hP _ _ h0
    · exact hP _ _ h1
    · exact hP _ _ h2
    · exact hP _ _ h3
  | k + 1, hq => simp at hq
def WS (n wc : Int) (wp wd wq wi we : Int → Int) : Prop := 0 ≤ wc ∧ wc ≤ 4 ∧ ∀ w, 0 ≤ w → w < wc → WK n (wp w) (wd w) (wq w) (wi w) (we w)
/-- how many segments a walker knows, or of those that some word fits -/
noncomputable def knb (n : Int) (q : Int → Int) (nw : Int) (bl : Int → Int) (bc : Int → Int → Int) (d we fb : Int) : Int := cnt (fun p => kn n q p d we ∧ (fb = 0 ∨ hf n q nw bl bc p d)) n
def smN (f : Int → Int) : Nat → Int
  | 0 => 0
  | m + 1 => smN f m + f m
/-- the sum of f below k -/
def sm (f : Int → Int) (k : Int) : Int := smN f k.toNat
theorem sm_s (f : Int → Int) {k : Int} (h : 0 ≤ k) : sm f k + f k = sm f (k + 1) := by
  obtain ⟨m, rfl⟩ := Int.eq_ofNat_of_zero_le h
  rfl
theorem sm_congr {f g : Int → Int} {n : Int} (h : ∀ j, 0 ≤ j → j < n → f j = g j) : sm f n = sm g n := by
  by_cases hn : 0 ≤ n
  · obtain ⟨m, rfl⟩ := Int.eq_ofNat_of_zero_le hn
    induction m with
    | zero => rfl
    | succ m ih =>
      have e : ((m + 1 : Nat) : Int) = (m : Int) + 1 := by omega
      rw [e] at h ⊢
      rw [← sm_s f (by omega), ← sm_s g (by omega), ih (fun j a b => h j a (by omega)) (by omega), h m (by omega) (by omega)]
  · have e : n.toNat = 0 := by omega
    unfold sm; rw [e]; rfl
theorem sm_rng {f : Int → Int} {c n : Int} (hc : 0 ≤ c) (hn : 0 ≤ n) (h : ∀ j, 0 ≤ j → j < n → 0 ≤ f j ∧ f j ≤ c) : 0 ≤ sm f n ∧ sm f n ≤ n * c := by
  obtain ⟨m, rfl⟩ := Int.eq_ofNat_of_zero_le hn
  induction m with
  | zero => exact ⟨Int.le_refl _, by rw [show ((0 : Nat) : Int) = 0 from rfl, Int.zero_mul]; exact Int.le_refl _⟩
  | succ m ih =>
    have e : ((m + 1 : Nat) : Int) = (m : Int) + 1 := by omega
    have h1 := ih (by omega) (fun j a b => h j a (by omega))
    rw [e, ← sm_s f (by omega), Int.add_mul, Int.one_mul]
    have h2 := h m (by omega) (by omega)
    omega
theorem rdg_a {n k : Int} {q : Int → Int} {nw : Int} {bl : Int → Int} {bc : Int → Int → Int} {d : Int} (hk : k = n) (h : cnt (fun p => 0 < seg n q p d) k = 0) : 0 = rdg n q nw bl bc d := by
  subst hk; unfold rdg; rw [if_pos h]
theorem rdg_b {n k : Int} {q : Int → Int} {nw : Int} {bl : Int → Int} {bc : Int → Int → Int} {d : Int} (hk : k = n) (h : ¬ cnt (fun p => 0 < seg n q p d) k = 0) : (if 1000000 < prd (fun p => 0 < seg n q p d) (fun p => fc n q nw bl bc p d) k then 1000000 else prd (fun p => 0 < seg n q p d) (fun p => fc n q nw bl bc p d) k) = rdg n q nw bl bc d := by
  subst hk; unfold rdg; rw [if_neg h]; split <;> split <;> omega
