-- ints as integers: iI z is the int of z; worlds hold integers
def iI (z : Int) : Int32 := Int32.ofInt z
abbrev vI (z : Int) : Value := .int (iI z)
def inR (z : Int) : Prop := -2147483648 ≤ z ∧ z < 2147483648
def b2i (b : Bool) : Int := if b then 1 else 0
def iA (g : Int → Int) : Nat → Int32 := fun j => iI (g j)
def updZ (g : Int → Int) (k v : Int) : Int → Int := fun j => if j = k then v else g j
noncomputable def pB (P : Prop) : Bool := @decide P (Classical.propDecidable P)
theorem pB_t {P : Prop} (h : P) : pB P = true := by unfold pB; exact @decide_eq_true P (Classical.propDecidable P) h
theorem pB_f {P : Prop} (h : ¬ P) : pB P = false := by unfold pB; exact @decide_eq_false P (Classical.propDecidable P) h
theorem pB_of {P : Prop} (h : pB P = true) : P := by unfold pB at h; exact @of_decide_eq_true P (Classical.propDecidable P) h
theorem pB_no {P : Prop} (h : pB P = false) : ¬ P := by unfold pB at h; exact @of_decide_eq_false P (Classical.propDecidable P) h
theorem pB_eq {P Q : Prop} (h : P ↔ Q) : pB P = pB Q := congrArg pB (propext h)
theorem b2i_t {P : Prop} (h : P) : b2i true = b2i (pB P) := by rw [pB_t h]
theorem b2i_f {P : Prop} (h : ¬ P) : b2i false = b2i (pB P) := by rw [pB_f h]
theorem b2i_rng (b : Bool) : 0 ≤ b2i b ∧ b2i b ≤ 1 := by cases b <;> decide
theorem iI_add (a b : Int) : iI a + iI b = iI (a + b) := (Int32.ofInt_add a b).symm
theorem iI_sub (a b : Int) : iI a - iI b = iI (a - b) := (Int32.ofInt_sub a b).symm
theorem iI_mul (a b : Int) : iI a * iI b = iI (a * b) := (Int32.ofInt_mul a b).symm
theorem iI_toInt {z : Int} (h : inR z) : (iI z).toInt = z := Int32.toInt_ofInt_of_le h.1 h.2
theorem iI_of (x : Int32) : iI x.toInt = x := Int32.ofInt_toInt x
theorem inR_of (x : Int32) : inR x.toInt := ⟨Int32.le_toInt x, Int32.toInt_lt x⟩
theorem iI_eq {a b : Int} (ha : inR a) (hb : inR b) : iI a = iI b ↔ a = b := ⟨fun h => by rw [← iI_toInt ha, h, iI_toInt hb], fun h => by rw [h]⟩
theorem iI_le {a b : Int} (ha : inR a) (hb : inR b) : iI a ≤ iI b ↔ a ≤ b := by rw [Int32.le_iff_toInt_le, iI_toInt ha, iI_toInt hb]
theorem iI_lt {a b : Int} (ha : inR a) (hb : inR b) : iI a < iI b ↔ a < b := by rw [Int32.lt_iff_toInt_lt, iI_toInt ha, iI_toInt hb]
theorem iI_0 : iI 0 = 0 := rfl
theorem iI_1 : iI 1 = 1 := rfl
theorem inR_0 : inR 0 := ⟨by decide, by decide⟩
theorem iI_nat (n : Nat) : nI n = iI n := (Int32.ofInt_eq_ofNat).symm
theorem iI_cl {z : Int} {j : Nat} (hz : z = j) (hj : j < 2147483648) : (iI z).toNatClampNeg = j := by
  subst hz; rw [← iI_nat]; exact nI_clamp hj
theorem iI_in {z : Int} {j n : Nat} (hz : z = j) (hj : j < n) (hn : n < 2147483648) : vp_in (iI z) n := by
  subst hz; rw [← iI_nat]; exact vp_in_nI hj hn
theorem iI_tmod {a b : Int} (ha : inR a) (hb : 0 < b) (hb2 : b < 2147483648) : iI a - iI a / iI b * iI b = iI (a.tmod b) := by
  have e1 : iI a / iI b = iI (a.tdiv b) := (Int32.ofInt_tdiv ha.1 (by have := ha.2; show a ≤ 2147483647; omega) (by show -2147483648 ≤ b; omega) (by show b ≤ 2147483647; omega)).symm
  rw [e1, iI_mul, iI_sub]
  congr 1
  have := Int.tmod_add_mul_tdiv a b
  have h2 := Int.mul_comm b (a.tdiv b)
  omega
theorem iI_tdiv {a b : Int} (ha : inR a) (hb : 0 < b) (hb2 : b < 2147483648) : iI a / iI b = iI (a.tdiv b) :=
  (Int32.ofInt_tdiv ha.1 (by have := ha.2; show a ≤ 2147483647; omega) (by show -2147483648 ≤ b; omega) (by show b ≤ 2147483647; omega)).symm
theorem b2i_bool (b : Bool) : narrow .boolean (vI (b2i b)) = vI (b2i b) := by cases b <;> rfl
theorem inR_b2i (b : Bool) : inR (b2i b) := by cases b <;> exact ⟨by decide, by decide⟩
theorem iI_char {z : Int} (h0 : 0 ≤ z) (h1 : z < 65536) : narrow .char (vI z) = vI z := by
  obtain ⟨q, rfl⟩ := Int.eq_ofNat_of_zero_le h0
  show narrow .char (.int (iI q)) = _
  rw [← iI_nat]
  exact (pk_charN (by omega)).1
theorem iA_upd (g : Int → Int) (k : Nat) (v : Int) : upd (iA g) k (iI v) = iA (updZ g k v) := by
  funext j
  by_cases h : j = k
  · simp [upd, iA, updZ, h]
  · have h2 : ¬ (j : Int) = (k : Int) := by omega
    simp [upd, iA, updZ, h, h2]
theorem updZ_s {g : Int → Int} {k v : Int} : updZ g k v k = v := if_pos rfl
theorem updZ_n {g : Int → Int} {k j v : Int} (h : j ≠ k) : updZ g k v j = g j := if_neg h
theorem iinc_ok {a n v : Int} (h : a + n = v) : iI a + Int32.ofInt n = iI v := by rw [← h]; exact iI_add a n
theorem lv_cv {ls : Array Slot} {nL : Nat} {l l' : List (Nat × Value)} (h : lv_has ls nL l) (e : l = l') : lv_has ls nL l' := e ▸ h
/-- the machine's tables as every contract here wants them -/
def KK (D : va_G) (cy : Nat → ClassId) (U : State) : Prop := va_K D vwCl [(cy 0, .char), (cy 1, .int), (cy 2, .boolean), (cy 3, .object RX3), (cy 4, .object RX5), (cy 5, .long)] U ∧ ∀ w ∈ lw_N, va_Nw w U
theorem lw_N_on : ∀ w ∈ lw_N, w.onTables = true := by
  have h : lw_N.all (fun w => w.onTables) = true := by decide +kernel
  intro w hw
  exact List.all_eq_true.mp h w hw
theorem KK.same {D cy} {u U : State} (hv : U.vm = u.vm) (h : KK D cy u) : KK D cy U :=
  ⟨va_K.moved (by rw [hv]; exact Vm.Alike.refl u.vm) h.1, fun w hw => va_Nw.same (lw_N_on w hw) hv.symm (h.2 w hw)⟩
theorem lw_N_nest : ∀ w ∈ lw_N, (∃ a i b n d h, w = .fieldLinkNest a i b n d h) ∨ ∃ a i x h, w = .methodLinkNest a i x h := by
  intro w h
  simp only [lw_N, List.mem_cons, List.not_mem_nil, or_false] at h
  repeat (rcases h with h | h; · subst h; first | exact Or.inl ⟨_, _, _, _, _, _, rfl⟩ | exact Or.inr ⟨_, _, _, _, rfl⟩)
  subst h; first | exact Or.inl ⟨_, _, _, _, _, _, rfl⟩ | exact Or.inr ⟨_, _, _, _, rfl⟩
theorem KK.warm {D cy} {s U : State} (hW : s.WarmedH U.vm) (h : KK D cy s) : KK D cy U := by
  refine ⟨va_K.moved hW.alike h.1, fun w hw => ?_⟩
  have h1 := h.2 w hw
  rcases lw_N_nest w hw with ⟨_, _, _, _, _, _, rfl⟩ | ⟨_, _, _, _, rfl⟩
  · exact va_Nw.warmF hW h1
  · exact va_Nw.warmM hW h1
def rmD (d : Nat) : Room := { frames := d, cells := 0, slots := 0, locals := 39 * d }
/-- a reader's start, its contract: at the world ws it answers v, the heap stays -/
def RD (ar : List Value) (D : va_G) (cy : Nat → ClassId) (ws : va_W) : Array Value → State → Prop := va_Pc ar (fun U => va_P D vwCl ws U.heap ∧ KK D cy U)
def Rd (l : Launch) (y : MethodName) (bytes : ByteArray) (maxL : Nat) (ret : Option FieldType) (d : Nat) (ar : List Value) (D : va_G) (cy : Nat → ClassId) (ws : va_W) (v : Int) : Prop :=
  Met l y (.code y bytes maxL ret :: lw_G) (rmD d) (RD ar D cy ws) (vp_Si (fun r => r = iI v)) 0 0 (fun _ => False)
theorem RD.blind {ar D cy ws} : FrameBlind (RD ar D cy ws) := fun a U g mk h => ⟨h.1, h.2.1, KK.same (u := U) rfl h.2.2⟩
abbrev FX (p : Program) (m : MethodId) (c : Code) (cc : ByteArray) (nL : Nat) (s : State) (args : Array Value) (own : String) : Prop := CallFix p m c cc nL s args lw_G own
section B04
variable {p : Program} {l : Launch} {e : Env} {R : Room} {s : State} {m : MethodId} {args : Array Value} {below : List Frame} {meth : Method} {c : Code} {H : Heap} {locs : List Loc} {cells slots : Nat} {Q : State → Prop}
variable {cc : ByteArray} {pc : Nat} {ls : Array Slot} {rest : List Value} {nL : Nat} {own : String} {D : va_G} {cy : Nat → ClassId} {ws : va_W} {A : Nat → Prop} {H0 : Heap}
theorem rr_iconst (F : FX p m c cc nL s args own) {n : Int} (hdg : decode cc pc = .ok (.iconst n, 1)) (k : W p l e R s m args below meth c H locs cells slots Q (F0 m (pc + 1) ls (vI n :: rest))) : W p l e R s m args below meth c H locs cells slots Q (F0 m pc ls rest) := lv_iconst F.1 F.2.1 hdg rfl k
theorem rr_bipush (F : FX p m c cc nL s args own) {n : Int} (hdg : decode cc pc = .ok (.bipush n, 2)) (hn : (Int8.ofInt n).toInt32 = iI n) (k : W p l e R s m args below meth c H locs cells slots Q (F0 m (pc + 2) ls (vI n :: rest))) : W p l e R s m args below meth c H locs cells slots Q (F0 m pc ls rest) := lv_bipush F.1 F.2.1 hdg hn k
theorem rr_sipush (F : FX p m c cc nL s args own) {n : Int} (hdg : decode cc pc = .ok (.sipush n, 3)) (hn : (Int16.ofInt n).toInt32 = iI n) (k : W p l e R s m args below meth c H locs cells slots Q (F0 m (pc + 3) ls (vI n :: rest))) : W p l e R s m args below meth c H locs cells slots Q (F0 m pc ls rest) := lv_sipush F.1 F.2.1 hdg hn k
theorem rr_iadd (F : FX p m c cc nL s args own) {a b z : Int} (hdg : decode cc pc = .ok (.iadd, 1)) (hz : a + b = z) (k : W p l e R s m args below meth c H locs cells slots Q (F0 m (pc + 1) ls (vI z :: rest))) : W p l e R s m args below meth c H locs cells slots Q (F0 m pc ls (vI b :: vI a :: rest)) := lv_iadd F.1 F.2.1 hdg (by rw [iI_add, hz]; exact k)
theorem rr_isub (F : FX p m c cc nL s args own) {a b z : Int} (hdg : decode cc pc = .ok (.isub, 1)) (hz : a - b = z) (k : W p l e R s m args below meth c H locs cells slots Q (F0 m (pc + 1) ls (vI z :: rest))) : W p l e R s m args below meth c H locs cells slots Q (F0 m pc ls (vI b :: vI a :: rest)) := lv_isub F.1 F.2.1 hdg (by rw [iI_sub, hz]; exact k)
theorem rr_imul (F : FX p m c cc nL s args own) {a b z : Int} (hdg : decode cc pc = .ok (.imul, 1)) (hz : a * b = z) (k : W p l e R s m args below meth c H locs cells slots Q (F0 m (pc + 1) ls (vI z :: rest))) : W p l e R s m args below meth c H locs cells slots Q (F0 m pc ls (vI b :: vI a :: rest)) := lv_imul F.1 F.2.1 hdg (by rw [iI_mul, hz]; exact k)
theorem rr_irem (F : FX p m c cc nL s args own) {a b z : Int} (hdg : decode cc pc = .ok (.irem, 1)) (ha : inR a) (hb : 0 < b ∧ b < 2147483648) (hz : a.tmod b = z) (k : W p l e R s m args below meth c H locs cells slots Q (F0 m (pc + 1) ls (vI z :: rest))) : W p l e R s m args below meth c H locs cells slots Q (F0 m pc ls (vI b :: vI a :: rest)) := lv_irem F.1 F.2.1 hdg (by rw [← iI_0, iI_eq ⟨by omega, by omega⟩ inR_0]; omega) (by rw [iI_tmod ha hb.1 hb.2, hz]; exact k)
theorem rr_idiv (F : FX p m c cc nL s args own) {a b z : Int} (hdg : decode cc pc = .ok (.idiv, 1)) (ha : inR a) (hb : 0 < b ∧ b < 2147483648) (hz : a.tdiv b = z) (k : W p l e R s m args below meth c H locs cells slots Q (F0 m (pc + 1) ls (vI z :: rest))) : W p l e R s m args below meth c H locs cells slots Q (F0 m pc ls (vI b :: vI a :: rest)) := lv_idiv F.1 F.2.1 hdg (by rw [← iI_0, iI_eq ⟨by omega, by omega⟩ inR_0]; omega) (by rw [iI_tdiv ha hb.1 hb.2, hz]; exact k)
theorem rr_icmp_eq (F : FX p m c cc nL s args own) {a b off : Int} {tgt : Nat} (hdg : decode cc pc = .ok (.if_icmp .eq off, 3)) (ht : (pc : Int) + off = (tgt : Int)) (ha : inR a) (hb : inR b) (kt : a = b → W p l e R s m args below meth c H locs cells slots Q (F0 m tgt ls rest)) (kf : ¬ a = b → W p l e R s m args below meth c H locs cells slots Q (F0 m (pc + 3) ls rest)) : W p l e R s m args below meth c H locs cells slots Q (F0 m pc ls (vI b :: vI a :: rest)) := lv_icmp_eq F.1 F.2.1 hdg ht (fun h => kt ((iI_eq ha hb).mp h)) (fun h => kf (fun h2 => h ((iI_eq ha hb).mpr h2)))
theorem rr_icmp_ne (F : FX p m c cc nL s args own) {a b off : Int} {tgt : Nat} (hdg : decode cc pc = .ok (.if_icmp .ne off, 3)) (ht : (pc : Int) + off = (tgt : Int)) (ha : inR a) (hb : inR b) (kt : ¬ a = b → W p l e R s m args below meth c H locs cells slots Q (F0 m tgt ls rest)) (kf : a = b → W p l e R s m args below meth c H locs cells slots Q (F0 m (pc + 3) ls rest)) : W p l e R s m args below meth c H locs cells slots Q (F0 m pc ls (vI b :: vI a :: rest)) := lv_icmp_ne F.1 F.2.1 hdg ht (fun h => kt (fun h2 => h ((iI_eq ha hb).mpr h2))) (fun h => kf ((iI_eq ha hb).mp h))
theorem rr_icmp_lt (F : FX p m c cc nL s args own) {a b off : Int} {tgt : Nat} (hdg : decode cc pc = .ok (.if_icmp .lt off, 3)) (ht : (pc : Int) + off = (tgt : Int)) (ha : inR a) (hb : inR b) (kt : a < b → W p l e R s m args below meth c H locs cells slots Q (F0 m tgt ls rest)) (kf : b ≤ a → W p l e R s m args below meth c H locs cells slots Q (F0 m (pc + 3) ls rest)) : W p l e R s m args below meth c H locs cells slots Q (F0 m pc ls (vI b :: vI a :: rest)) := lv_icmp_lt F.1 F.2.1 hdg ht (fun h => kt ((iI_lt ha hb).mp h)) (fun h => kf (Int.not_lt.mp fun h2 => h ((iI_lt ha hb).mpr h2)))
theorem rr_icmp_ge (F : FX p m c cc nL s args own) {a b off : Int} {tgt : Nat} (hdg : decode cc pc = .ok (.if_icmp .ge off, 3)) (ht : (pc : Int) + off = (tgt : Int)) (ha : inR a) (hb : inR b) (kt : b ≤ a → W p l e R s m args below meth c H locs cells slots Q (F0 m tgt ls rest)) (kf : a < b → W p l e R s m args below meth c H locs cells slots Q (F0 m (pc + 3) ls rest)) : W p l e R s m args below meth c H locs cells slots Q (F0 m pc ls (vI b :: vI a :: rest)) := lv_icmp_ge F.1 F.2.1 hdg ht (fun h => kt ((iI_le hb ha).mp h)) (fun h => kf (Int.not_le.mp fun h2 => h ((iI_le hb ha).mpr h2)))
theorem rr_icmp_gt (F : FX p m c cc nL s args own) {a b off : Int} {tgt : Nat} (hdg : decode cc pc = .ok (.if_icmp .gt off, 3)) (ht : (pc : Int) + off = (tgt : Int)) (ha : inR a) (hb : inR b) (kt : b < a → W p l e R s m args below meth c H locs cells slots Q (F0 m tgt ls rest)) (kf : a ≤ b → W p l e R s m args below meth c H locs cells slots Q (F0 m (pc + 3) ls rest)) : W p l e R s m args below meth c H locs cells slots Q (F0 m pc ls (vI b :: vI a :: rest)) := lv_icmp_gt F.1 F.2.1 hdg ht (fun h => kt ((iI_lt hb ha).mp h)) (fun h => kf (Int.not_lt.mp fun h2 => h ((iI_lt hb ha).mpr h2)))
theorem rr_icmp_le (F : FX p m c cc nL s args own) {a b off : Int} {tgt : Nat} (hdg : decode cc pc = .ok (.if_icmp .le off, 3)) (ht : (pc : Int) + off = (tgt : Int)) (ha : inR a) (hb : inR b) (kt : a ≤ b → W p l e R s m args below meth c H locs cells slots Q (F0 m tgt ls rest)) (kf : b < a → W p l e R s m args below meth c H locs cells slots Q (F0 m (pc + 3) ls rest)) : W p l e R s m args below meth c H locs cells slots Q (F0 m pc ls (vI b :: vI a :: rest)) := lv_icmp_le F.1 F.2.1 hdg ht (fun h => kt ((iI_le ha hb).mp h)) (fun h => kf (Int.not_le.mp fun h2 => h ((iI_le ha hb).mpr h2)))
theorem rr_if_eq (F : FX p m c cc nL s args own) {a off : Int} {tgt : Nat} (hdg : decode cc pc = .ok (.ifCond .eq off, 3)) (ht : (pc : Int) + off = (tgt : Int)) (ha : inR a) (kt : a = 0 → W p l e R s m args below meth c H locs cells slots Q (F0 m tgt ls rest)) (kf : ¬ a = 0 → W p l e R s m args below meth c H locs cells slots Q (F0 m (pc + 3) ls rest)) : W p l e R s m args below meth c H locs cells slots Q (F0 m pc ls (vI a :: rest)) := lv_if_eq F.1 F.2.1 hdg ht (fun h => kt ((iI_eq ha inR_0).mp h)) (fun h => kf (fun h2 => h ((iI_eq ha inR_0).mpr h2)))
theorem rr_if_ne (F : FX p m c cc nL s args own) {a off : Int} {tgt : Nat} (hdg : decode cc pc = .ok (.ifCond .ne off, 3)) (ht : (pc : Int) + off = (tgt : Int)) (ha : inR a) (kt : ¬ a = 0 → W p l e R s m args below meth c H locs cells slots Q (F0 m tgt ls rest)) (kf : a = 0 → W p l e R s m args below meth c H locs cells slots Q (F0 m (pc + 3) ls rest)) : W p l e R s m args below meth c H locs cells slots Q (F0 m pc ls (vI a :: rest)) := lv_if_ne F.1 F.2.1 hdg ht (fun h => kt (fun h2 => h ((iI_eq ha inR_0).mpr h2))) (fun h => kf ((iI_eq ha inR_0).mp h))
theorem rr_if_lt (F : FX p m c cc nL s args own) {a off : Int} {tgt : Nat} (hdg : decode cc pc = .ok (.ifCond .lt off, 3)) (ht : (pc : Int) + off = (tgt : Int)) (ha : inR a) (kt : a < 0 → W p l e R s m args below meth c H locs cells slots Q (F0 m tgt ls rest)) (kf : 0 ≤ a → W p l e R s m args below meth c H locs cells slots Q (F0 m (pc + 3) ls rest)) : W p l e R s m args below meth c H locs cells slots Q (F0 m pc ls (vI a :: rest)) := lv_if_lt F.1 F.2.1 hdg ht (fun h => kt ((iI_lt ha inR_0).mp h)) (fun h => kf (Int.not_lt.mp fun h2 => h ((iI_lt ha inR_0).mpr h2)))
theorem rr_if_ge (F : FX p m c cc nL s args own) {a off : Int} {tgt : Nat} (hdg : decode cc pc = .ok (.ifCond .ge off, 3)) (ht : (pc : Int) + off = (tgt : Int)) (ha : inR a) (kt : 0 ≤ a → W p l e R s m args below meth c H locs cells slots Q (F0 m tgt ls rest)) (kf : a < 0 → W p l e R s m args below meth c H locs cells slots Q (F0 m (pc + 3) ls rest)) : W p l e R s m args below meth c H locs cells slots Q (F0 m pc ls (vI a :: rest)) := lv_if_ge F.1 F.2.1 hdg ht (fun h => kt ((iI_le inR_0 ha).mp h)) (fun h => kf (Int.not_le.mp fun h2 => h ((iI_le inR_0 ha).mpr h2)))
theorem rr_if_gt (F : FX p m c cc nL s args own) {a off : Int} {tgt : Nat} (hdg : decode cc pc = .ok (.ifCond .gt off, 3)) (ht : (pc : Int) + off = (tgt : Int)) (ha : inR a) (kt : 0 < a → W p l e R s m args below meth c H locs cells slots Q (F0 m tgt ls rest)) (kf : a ≤ 0 → W p l e R s m args below meth c H locs cells slots Q (F0 m (pc + 3) ls rest)) : W p l e R s m args below meth c H locs cells slots Q (F0 m pc ls (vI a :: rest)) := lv_if_gt F.1 F.2.1 hdg ht (fun h => kt ((iI_lt inR_0 ha).mp h)) (fun h => kf (Int.not_lt.mp fun h2 => h ((iI_lt inR_0 ha).mpr h2)))
theorem rr_if_le (F : FX p m c cc nL s args own) {a off : Int} {tgt : Nat} (hdg : decode cc pc = .ok (.ifCond .le off, 3)) (ht : (pc : Int) + off = (tgt : Int)) (ha : inR a) (kt : a ≤ 0 → W p l e R s m args below meth c H locs cells slots Q (F0 m tgt ls rest)) (kf : 0 < a → W p l e R s m args below meth c H locs cells slots Q (F0 m (pc + 3) ls rest)) : W p l e R s m args below meth c H locs cells slots Q (F0 m pc ls (vI a :: rest)) := lv_if_le F.1 F.2.1 hdg ht (fun h => kt ((iI_le ha inR_0).mp h)) (fun h => kf (Int.not_le.mp fun h2 => h ((iI_le ha inR_0).mpr h2)))
theorem b2i_0 {b : Bool} : b2i b = 0 ↔ b = false := by cases b <;> simp [b2i]
theorem b2i_n0 {b : Bool} : ¬ b2i b = 0 ↔ b = true := by cases b <;> simp [b2i]
theorem rr_ifB_eq (F : FX p m c cc nL s args own) {b : Bool} {off : Int} {tgt : Nat} (hdg : decode cc pc = .ok (.ifCond .eq off, 3)) (ht : (pc : Int) + off = (tgt : Int)) (kt : b = false → W p l e R s m args below meth c H locs cells slots Q (F0 m tgt ls rest)) (kf : b = true → W p l e R s m args below meth c H locs cells slots Q (F0 m (pc + 3) ls rest)) : W p l e R s m args below meth c H locs cells slots Q (F0 m pc ls (vI (b2i b) :: rest)) := rr_if_eq F hdg ht (inR_b2i b) (fun h => kt (b2i_0.mp h)) (fun h => kf (b2i_n0.mp h))
theorem rr_ifB_ne (F : FX p m c cc nL s args own) {b : Bool} {off : Int} {tgt : Nat} (hdg : decode cc pc = .ok (.ifCond .ne off, 3)) (ht : (pc : Int) + off = (tgt : Int)) (kt : b = true → W p l e R s m args below meth c H locs cells slots Q (F0 m tgt ls rest)) (kf : b = false → W p l e R s m args below meth c H locs cells slots Q (F0 m (pc + 3) ls rest)) : W p l e R s m args below meth c H locs cells slots Q (F0 m pc ls (vI (b2i b) :: rest)) := rr_if_ne F hdg ht (inR_b2i b) (fun h => kt (b2i_n0.mp h)) (fun h => kf (b2i_0.mp h))
theorem rr_ifP_eq (F : FX p m c cc nL s args own) {P : Prop} {off : Int} {tgt : Nat} (hdg : decode cc pc = .ok (.ifCond .eq off, 3)) (ht : (pc : Int) + off = (tgt : Int)) (kt : ¬ P → W p l e R s m args below meth c H locs cells slots Q (F0 m tgt ls rest)) (kf : P → W p l e R s m args below meth c H locs cells slots Q (F0 m (pc + 3) ls rest)) : W p l e R s m args below meth c H locs cells slots Q (F0 m pc ls (vI (b2i (pB P)) :: rest)) := rr_ifB_eq F hdg ht (fun h => kt (pB_no h)) (fun h => kf (pB_of h))
theorem rr_ifP_ne (F : FX p m c cc nL s args own) {P : Prop} {off : Int} {tgt : Nat} (hdg : decode cc pc = .ok (.ifCond .ne off, 3)) (ht : (pc : Int) + off = (tgt : Int)) (kt : P → W p l e R s m args below meth c H locs cells slots Q (F0 m tgt ls rest)) (kf : ¬ P → W p l e R s m args below meth c H locs cells slots Q (F0 m (pc + 3) ls rest)) : W p l e R s m args below meth c H locs cells slots Q (F0 m pc ls (vI (b2i (pB P)) :: rest)) := rr_ifB_ne F hdg ht (fun h => kt (pB_of h)) (fun h => kf (pB_no h))
-- arrays
theorem rr_cald (F : FX p m c cc nL s args own) (hK : KK D cy s) (hP : va_P D vwCl ws H) (q0 : Nat) {a n : Nat} {g : Int → Int} (ha : ws[q0]? = some (a, .inl (cy 0, n, .inl (iA g)))) {z : Int} (h0 : 0 ≤ z) (hj : z < n) (hn : n < 2147483648) (hdg : decode cc pc = .ok (.caload, 1)) (k : W p l e R s m args below meth c H locs cells slots Q (F0 m (pc + 1) ls (vI (g z) :: rest))) : W p l e R s m args below meth c H locs cells slots Q (F0 m pc ls (vI z :: .ref a :: rest)) := by
  obtain ⟨j, rfl⟩ := Int.eq_ofNat_of_zero_le h0
  exact va_cald F.1 F.2.1 hK.1 hP q0 0 ha rfl (iI_in rfl (by omega) hn) hdg (by rw [iI_cl rfl (by omega)]; exact k)
theorem rr_iald (F : FX p m c cc nL s args own) (hK : KK D cy s) (hP : va_P D vwCl ws H) (q0 : Nat) {a n : Nat} {g : Int → Int} (ha : ws[q0]? = some (a, .inl (cy 1, n, .inl (iA g)))) {z : Int} (h0 : 0 ≤ z) (hj : z < n) (hn : n < 2147483648) (hdg : decode cc pc = .ok (.iaload, 1)) (k : W p l e R s m args below meth c H locs cells slots Q (F0 m (pc + 1) ls (vI (g z) :: rest))) : W p l e R s m args below meth c H locs cells slots Q (F0 m pc ls (vI z :: .ref a :: rest)) := by
  obtain ⟨j, rfl⟩ := Int.eq_ofNat_of_zero_le h0
  exact va_iald F.1 F.2.1 hK.1 hP q0 1 ha rfl (iI_in rfl (by omega) hn) hdg (by rw [iI_cl rfl (by omega)]; exact k)
theorem rr_cast (F : FX p m c cc nL s args own) (hK : KK D cy s) (hP : va_P D vwCl ws H) (hD : va_D A ws) (hS : va_S A H0 H locs) (q0 : Nat) {a n : Nat} {g : Int → Int} (ha : ws[q0]? = some (a, .inl (cy 0, n, .inl (iA g)))) {z v : Int} (h0 : 0 ≤ z) (hj : z < n) (hn : n < 2147483648) (hv : 0 ≤ v ∧ v < 65536) (hdg : decode cc pc = .ok (.castore, 1))
    (k : ∀ (H1 : Heap) (locs1 : List Loc), va_P D vwCl (ws.set q0 (a, .inl (cy 0, n, .inl (iA (updZ g z v))))) H1 → va_D A (ws.set q0 (a, .inl (cy 0, n, .inl (iA (updZ g z v))))) → va_S A H0 H1 locs1 → W p l e R s m args below meth c H1 locs1 cells slots Q (F0 m (pc + 1) ls rest)) : W p l e R s m args below meth c H locs cells slots Q (F0 m pc ls (vI v :: vI z :: .ref a :: rest)) := by
  obtain ⟨j, rfl⟩ := Int.eq_ofNat_of_zero_le h0
  refine va_cast F.1 F.2.1 hK.1 hP hD hS q0 0 ha rfl (iI_in rfl (by omega) hn) hdg ?_
  have e : vp_nar .char (iI v) = iI v := by
    have h := iI_char hv.1 hv.2
    unfold vp_nar
    rw [h]
  rw [iI_cl rfl (by omega), e, iA_upd]
  exact k
theorem rr_iast (F : FX p m c cc nL s args own) (hK : KK D cy s) (hP : va_P D vwCl ws H) (hD : va_D A ws) (hS : va_S A H0 H locs) (q0 : Nat) {a n : Nat} {g : Int → Int} (ha : ws[q0]? = some (a, .inl (cy 1, n, .inl (iA g)))) {z v : Int} (h0 : 0 ≤ z) (hj : z < n) (hn : n < 2147483648) (hdg : decode cc pc = .ok (.iastore, 1))
    (k : ∀ (H1 : Heap) (locs1 : List Loc), va_P D vwCl (ws.set q0 (a, .inl (cy 1, n, .inl (iA (updZ g z v))))) H1 → va_D A (ws.set q0 (a, .inl (cy 1, n, .inl (iA (updZ g z v))))) → va_S A H0 H1 locs1 → W p l e R s m args below meth c H1 locs1 cells slots Q (F0 m (pc + 1) ls rest)) : W p l e R s m args below meth c H locs cells slots Q (F0 m pc ls (vI v :: vI z :: .ref a :: rest)) := by
  obtain ⟨j, rfl⟩ := Int.eq_ofNat_of_zero_le h0
  refine va_iast F.1 F.2.1 hK.1 hP hD hS q0 1 ha rfl (iI_in rfl (by omega) hn) hdg ?_
  rw [iI_cl rfl (by omega), iA_upd]
  exact k
-- loops: no writing
theorem rr_loop1 {A1 : Type} (Inv : A1 → Prop) (mu : A1 → Nat) (lo : A1 → List (Nat × Value)) {st : List Value} (step : ∀ i, Inv i → (∀ j, Inv j → mu j < mu i → ∀ ls, lv_has ls nL (lo j) → W p l e R s m args below meth c H locs cells slots Q (F0 m pc ls st)) → ∀ ls, lv_has ls nL (lo i) → W p l e R s m args below meth c H locs cells slots Q (F0 m pc ls st)) (i : A1) (h0 : Inv i) {ls : Array Slot} (hl : lv_has ls nL (lo i)) : W p l e R s m args below meth c H locs cells slots Q (F0 m pc ls st) := by
  have key : ∀ (N : Nat) (i : A1), mu i < N → Inv i → ∀ ls, lv_has ls nL (lo i) → W p l e R s m args below meth c H locs cells slots Q (F0 m pc ls st) := by
    intro N
    induction N with
    | zero => intro i h; exact absurd h (Nat.not_lt_zero _)
    | succ N ih => intro i h hi ls hl; exact step i hi (fun j hj hm ls hl => ih j (by omega) hj ls hl) ls hl
  exact key (mu i + 1) i (Nat.lt_succ_self _) h0 ls hl
theorem rr_loop2 {A1 A2 : Type} (Inv : A1 → A2 → Prop) (mu : A1 → A2 → Nat) (lo : A1 → A2 → List (Nat × Value)) {st : List Value} (step : ∀ i x, Inv i x → (∀ j y, Inv j y → mu j y < mu i x → ∀ ls, lv_has ls nL (lo j y) → W p l e R s m args below meth c H locs cells slots Q (F0 m pc ls st)) → ∀ ls, lv_has ls nL (lo i x) → W p l e R s m args below meth c H locs cells slots Q (F0 m pc ls st)) (i : A1) (x : A2) (h0 : Inv i x) {ls : Array Slot} (hl : lv_has ls nL (lo i x)) : W p l e R s m args below meth c H locs cells slots Q (F0 m pc ls st) :=
  rr_loop1 (A1 := A1 × A2) (fun q => Inv q.1 q.2) (fun q => mu q.1 q.2) (fun q => lo q.1 q.2) (fun q hq ih ls hl => step q.1 q.2 hq (fun j y h1 h2 ls hl => ih (j, y) h1 h2 ls hl) ls hl) (i, x) h0 hl
-- calls of readers
theorem rr_rdV (F : FX p m c cc nL s args own) (hK : KK D cy s) {y : MethodName} {bytes : ByteArray} {maxL d index : Nat} {ret : Option FieldType} {wc : va_W} {v : Int} {b : Nat} {As : List Value} (hM : Rd l y bytes maxL ret d (.ref b :: As) D cy wc v) (hP : va_P D vwCl wc H) (sf : SFV y bytes maxL ret As.length) (hl : Cond.methodLink own index y ∈ lw_G)
    (ci : Nat) {fs : List Value} {T : u_T} {N : Nat} (hq : wc[0]? = some (b, .inr (ci, fs))) (hcl : vwCl[ci]? = some (y.cls, T, N)) (hR : d + 1 ≤ R.frames ∧ 8 + (maxL + 11) + 39 * d ≤ R.locals) {lv : List (Nat × Value)} (hls : lv_has ls nL lv) {st : List Value} (hst : st = As.reverse ++ .ref b :: rest) (hcat : (rest.map fun v => v.category).sum ≤ 8) (hdg : decode cc pc = .ok (.invokevirtual index, 3)) (hc : cells ≤ R.cells ∧ slots ≤ R.slots)
    (k : W p l e R s m args below meth c H locs cells slots Q (F0 m (pc + 3) ls (vI v :: rest))) : W p l e R s m args below meth c H locs cells slots Q (F0 m pc ls st) := by
  obtain ⟨f1, f2, f3, f4, f5⟩ := sf
  have hts := F.2.2.2.2
  refine vp_callSi (W.runV (As := As) (rest := rest) F hM ⟨callB_of As.length hts (lw_GC f4) rfl rfl rfl (hts _ f3) (hts _ hl) f5 hR, hts _ f1, hts _ f2⟩ ⟨RD.blind, va_recv hK.1 hP hcl hq, fun U hU hW => ⟨rfl, by rw [hU]; exact hP, hK.warm hW⟩⟩ rfl rfl hls.1 hst (lv_room hcat) hdg hc) (fun r hr => ?_)
  rw [hr]
  exact k
theorem rr_rdS (F : FX p m c cc nL s args own) (hK : KK D cy s) {y : MethodName} {bytes : ByteArray} {maxL d index : Nat} {ret : Option FieldType} {wc : va_W} {v : Int} {As : List Value} (hM : Rd l y bytes maxL ret d As D cy wc v) (hP : va_P D vwCl wc H) (sf : SFS y bytes maxL ret As.length) (hl : Cond.methodLink own index y ∈ lw_G)
    (hR : d + 1 ≤ R.frames ∧ 8 + (maxL + 11) + 39 * d ≤ R.locals) {lv : List (Nat × Value)} (hls : lv_has ls nL lv) {st : List Value} (hst : st = As.reverse ++ rest) (hcat : (rest.map fun v => v.category).sum ≤ 8) (hdg : decode cc pc = .ok (.invokestatic index, 3)) (hc : cells ≤ R.cells ∧ slots ≤ R.slots)
    (k : W p l e R s m args below meth c H locs cells slots Q (F0 m (pc + 3) ls (vI v :: rest))) : W p l e R s m args below meth c H locs cells slots Q (F0 m pc ls st) := by
  obtain ⟨f1, f3, f4, f5⟩ := sf
  have hts := F.2.2.2.2
  refine vp_callSi (W.runS (As := As) (rest := rest) F hM ⟨callB_of As.length hts (lw_GC f4) rfl rfl rfl (hts _ f3) (hts _ hl) f5 hR, hts _ f1⟩ ⟨RD.blind, fun U hU hW => ⟨rfl, by rw [hU]; exact hP, hK.warm hW⟩⟩ rfl rfl hls.1 hst (lv_room hcat) hdg hc) (fun r hr => ?_)
  rw [hr]
  exact k
/-- a static method of a nest mate -/
theorem rr_rdSN (F : FX p m c cc nL s args own) (hK : KK D cy s) {y : MethodName} {host : String} {bytes : ByteArray} {maxL d index : Nat} {ret : Option FieldType} {wc : va_W} {v : Int} {As : List Value} (hM : Rd l y bytes maxL ret d As D cy wc v) (hP : va_P D vwCl wc H) (sf : SFS y bytes maxL ret As.length) (hl : Cond.methodLinkNest own index y host ∈ lw_N)
    (hR : d + 1 ≤ R.frames ∧ 8 + (maxL + 11) + 39 * d ≤ R.locals) {lv : List (Nat × Value)} (hls : lv_has ls nL lv) {st : List Value} (hst : st = As.reverse ++ rest) (hcat : (rest.map fun v => v.category).sum ≤ 8) (hdg : decode cc pc = .ok (.invokestatic index, 3)) (hc : cells ≤ R.cells ∧ slots ≤ R.slots)
    (k : W p l e R s m args below meth c H locs cells slots Q (F0 m (pc + 3) ls (vI v :: rest))) : W p l e R s m args below meth c H locs cells slots Q (F0 m pc ls st) := by
  obtain ⟨f1, f3, f4, f5⟩ := sf
  have hts := F.2.2.2.2
  refine vp_callSi (post := fun r => r = iI v) (a := As.toArray) (rest := rest) (fun T hT X => ?_) (fun r hr => by rw [hr]; exact k)
  obtain ⟨v', st0, t, T', L, h0, X', hL, e1, -, hq, stp⟩ := va_runSN (As := As) (rest := rest) F hM ⟨va_cnB As.length hts (lw_GC f4) rfl rfl rfl (hK.2 _ hl) (hts _ f3) f5 hR, hts _ f1, trivial⟩ ⟨RD.blind, fun U hU hW => ⟨rfl, by rw [hU]; exact hP, hK.warm hW⟩⟩ rfl rfl hls.1 hst (lv_room hcat) hdg hc T hT X
  exact ⟨v', st0, t, T', L, h0, X', hL, e1, hq, stp⟩
abbrev RQ (below : List Frame) (args : Array Value) (s : State) (v : Int) : State → Prop := MQ below (vp_Si (fun r => r = iI v)) args s 0 0 (fun _ => False)
theorem rr_iret (F : FX p m c cc nL s args own) (hr : meth.sig.returnType = some .int) (hlocks : meth.locks = false) {z v : Int} (hdg : decode cc pc = .ok (.ireturn, 1)) (hz : z = v) : W p l e R s m args below meth c s.heap [] 0 0 (RQ below args s v) (F0 m pc ls [vI z]) :=
  W.iret F.1 F.2.1 hr (fun t ht _ => ⟨iI z, rfl, by rw [hz], ht⟩) (fun _ h => by cases h) hdg hlocks
theorem rr_zret (F : FX p m c cc nL s args own) (hr : meth.sig.returnType = some .boolean) (hlocks : meth.locks = false) {b : Bool} {z v : Int} (hdg : decode cc pc = .ok (.ireturn, 1)) (hzb : z = b2i b) (hz : b2i b = v) : W p l e R s m args below meth c s.heap [] 0 0 (RQ below args s v) (F0 m pc ls [vI z]) :=
  W.zret F.1 F.2.1 hr (by rw [hzb]; exact b2i_bool b) (fun t ht _ => ⟨iI z, rfl, by rw [hzb, hz], ht⟩) (fun _ h => by cases h) hdg hlocks
theorem rr_cret (F : FX p m c cc nL s args own) (hr : meth.sig.returnType = some .char) (hlocks : meth.locks = false) {z v : Int} (hdg : decode cc pc = .ok (.ireturn, 1)) (h0 : 0 ≤ z ∧ z < 65536) (hz : z = v) : W p l e R s m args below meth c s.heap [] 0 0 (RQ below args s v) (F0 m pc ls [vI z]) :=
  W.zret F.1 F.2.1 hr (iI_char h0.1 h0.2) (fun t ht _ => ⟨iI z, rfl, by rw [hz], ht⟩) (fun _ h => by cases h) hdg hlocks
end B04
theorem Rd.of {l : Launch} {y : MethodName} {cc : ByteArray} {maxL : Nat} {ret : Option FieldType} {d : Nat} {ar : List Value} {D : va_G} {cy : Nat → ClassId} {ws : va_W} {v : Int} (own : String) (hown : own = y.cls) (lv : List (Nat × Value)) (hlv : lv_args 0 ar = lv) (hpn : plainName y.cls = true) (hfit : (lg_sl ar).length ≤ maxL)
    (body : ∀ (p : Program) (e : Env) (s : State) (m : MethodId) (args : Array Value) (below : List Frame) (meth : Method) (c : Code), FX p m c cc maxL s args own → meth.sig.returnType = ret → meth.locks = false → KK D cy s → va_P D vwCl ws s.heap → ∀ ls : Array Slot, lv_has ls maxL lv → W p l e (rmD d) s m args below meth c s.heap [] 0 0 (RQ below args s v) (F0 m 0 ls [])) : Rd l y cc maxL ret d ar D cy ws v := by
  refine Met.ofW (cc := cc) (maxL := maxL) (ret := ret) hpn rfl ?_
  intro p e s m args below meth c s₁ B hml hv
  obtain ⟨rfl, hP, hK⟩ := hv
  have hts := atoms_spec (ws := Cond.code y cc maxL ret :: lw_G) B.pre
  have ho : s.vm.findClass y.cls = some m.cls := findClass_of_methodNamed B.named
  have hl := lv_entry ar hfit
  rw [lg_entry_eq]
  subst hlv hown
  exact body p e s m _ below meth c ⟨B.exec, B.bytes, hml, ho, fun w h => hts w (List.mem_cons_of_mem _ h)⟩ B.returns B.notSynchronized hK hP _ hl
