-- rows of the law's own body
def XI (xs : Nat → Int32) (z : Int) : Int := (xs z.toNat).toInt
theorem XI_r (xs : Nat → Int32) (z : Int) : inR (XI xs z) := inR_of _
theorem XI_b (xs : Nat → Int32) (z : Int) : -2147483648 ≤ XI xs z ∧ XI xs z < 2147483648 := inR_of _
def shv (z : Int) : Int := (lI z <<< ((iI 32).toInt64 &&& 63)).toInt
def lAn (a b : Int) : Int := (lI a &&& lI b).toInt
def lOr (a b : Int) : Int := (lI a ||| lI b).toInt
theorem inL_to (x : Int64) : inL x.toInt := ⟨Int64.le_toInt x, Int64.toInt_lt x⟩
section B52
variable {p : Program} {l : Launch} {e : Env} {R : Room} {s : State} {m : MethodId} {args : Array Value} {below : List Frame} {meth : Method} {c : Code} {H : Heap} {locs : List Loc} {cells slots : Nat} {Q : State → Prop}
variable {cc : ByteArray} {pc : Nat} {ls : Array Slot} {rest : List Value} {nL : Nat} {own : String} {D : va_G} {cy : Nat → ClassId} {ws : va_W} {A : Nat → Prop} {H0 : Heap}
theorem rr_sld (F : FX p m c cc nL s args own) {b L : Nat} {xs : Nat → Int32} (hX : va_X b L xs s H0) (hbl : b < H0.size) (hbA : ¬ A b) (hS : va_S A H0 H locs) {z : Int} (h0 : 0 ≤ z) (h1 : z < L) (hL : L ≤ 2560) (hdg : decode cc pc = .ok (.iaload, 1)) (k : W p l e R s m args below meth c H locs cells slots Q (F0 m (pc + 1) ls (vI (XI xs z) :: rest))) : W p l e R s m args below meth c H locs cells slots Q (F0 m pc ls (vI z :: .ref b :: rest)) := by
  obtain ⟨j, rfl⟩ := Int.eq_ofNat_of_zero_le h0
  refine va_sld F.1 F.2.1 hX hbl hbA hS (iI_in rfl (by omega) (by omega)) hdg ?_
  rw [iI_cl rfl (by omega)]
  have e : (Value.int (xs j)) = vI (XI xs (j : Int)) := by
    show Value.int (xs j) = Value.int (iI (xs ((j : Int).toNat)).toInt)
    rw [iI_of, Int.toNat_natCast]
  rw [e]
  exact k
theorem rr_slen (F : FX p m c cc nL s args own) {b L : Nat} {xs : Nat → Int32} (hX : va_X b L xs s H0) (hbl : b < H0.size) (hbA : ¬ A b) (hS : va_S A H0 H locs) (hdg : decode cc pc = .ok (.arraylength, 1)) (k : W p l e R s m args below meth c H locs cells slots Q (F0 m (pc + 1) ls (vI (L : Int) :: rest))) : W p l e R s m args below meth c H locs cells slots Q (F0 m pc ls (.ref b :: rest)) := by
  refine va_slen F.1 F.2.1 hX hbl hbA hS hdg ?_
  rw [show (Value.int (Int32.ofNat L)) = vI (L : Int) from congrArg Value.int (Int32.ofInt_eq_ofNat).symm]
  exact k
theorem rr_lshl32 (F : FX p m c cc nL s args own) {a : Int} (hdg : decode cc pc = .ok (.lshl, 1)) (k : W p l e R s m args below meth c H locs cells slots Q (F0 m (pc + 1) ls (.long (lI (shv a)) :: rest))) : W p l e R s m args below meth c H locs cells slots Q (F0 m pc ls (vI 32 :: .long (lI a) :: rest)) :=
  lv_lshl F.1 F.2.1 hdg (lI_of _).symm k
theorem rr_landL (F : FX p m c cc nL s args own) {a b : Int} (hdg : decode cc pc = .ok (.land, 1)) (k : W p l e R s m args below meth c H locs cells slots Q (F0 m (pc + 1) ls (.long (lI (lAn a b)) :: rest))) : W p l e R s m args below meth c H locs cells slots Q (F0 m pc ls (.long (lI b) :: .long (lI a) :: rest)) := by
  refine lv_land F.1 F.2.1 hdg ?_
  rw [show lI a &&& lI b = lI (lAn a b) from (lI_of _).symm]
  exact k
theorem rr_lorL (F : FX p m c cc nL s args own) {a b : Int} (hdg : decode cc pc = .ok (.lor, 1)) (k : W p l e R s m args below meth c H locs cells slots Q (F0 m (pc + 1) ls (.long (lI (lOr a b)) :: rest))) : W p l e R s m args below meth c H locs cells slots Q (F0 m pc ls (.long (lI b) :: .long (lI a) :: rest)) := by
  refine lv_lor F.1 F.2.1 hdg ?_
  rw [show lI a ||| lI b = lI (lOr a b) from (lI_of _).symm]
  exact k
/-- a caller's answer k stands at local 5, the reference's at local 6: the comparing of the law, up to its next round -/
theorem rr_vupd (F : FX p m c cc nL s args own) (hK : KK D cy s) (hP : va_P D vwCl ws H) (q0 : Nat) {a : Nat} {f : Nat → Int64} {v : Int} (ha : ws[q0]? = some (a, .inl (cy 5, 1, .inr (.inl (vp_updL f 0 (lI v)))))) (hdg : decode cc pc = .ok (.laload, 1)) (k : W p l e R s m args below meth c H locs cells slots Q (F0 m (pc + 1) ls (.long (lI v) :: rest))) : W p l e R s m args below meth c H locs cells slots Q (F0 m pc ls (vI 0 :: .ref a :: rest)) :=
  rr_lald0 F hK hP q0 ha hdg k
end B52
/-- the next round of the law's loop -/
def LK (p : Program) (l : Launch) (e : Env) (s : State) (m : MethodId) (args : Array Value) (below : List Frame) (meth : Method) (c : Code) (D : va_G) (cy : Nat → ClassId) (u w : NU) (out b : Nat) (N i : Int) (cells slots : Nat) (Q : State → Prop) : Prop :=
  ∀ (tl : Int) (tc : Int → Int) (ol ct tr : Int) (fv a : Int → Int) (G : Int → Int → Int) (ak : Int → Int) (Gk : Int → Int → Int) (As : Nat → Int → Int) (Gs : Nat → Int → Int → Int) (Ah : Nat → Int → Int) (Gh : Nat → Int → Int → Int) (th ap asl : Int → Int) (of : Nat → Int64) (H : Heap) (locs : List Loc) (ls : Array Slot), INV N tl tc ol ct fv a G As Gs Ah Gh ap asl → va_P D vwCl (LW cy u w out tl tc ol ct tr fv a G ak Gk As Gs Ah Gh th ap asl of tl tc ct a fv) H → va_D (fun q => s.heap.size ≤ q) (LW cy u w out tl tc ol ct tr fv a G ak Gk As Gs Ah Gh th ap asl of tl tc ct a fv) → va_S (fun q => s.heap.size ≤ q) s.heap H locs → lv_has ls 7 [(4, vI i), (3, .ref out), (2, .ref (w 0 0)), (1, .ref (u 0 0)), (0, .ref b)] → W p l e room_1 s m args below meth c H locs cells slots Q (F0 m 2055 ls [])
