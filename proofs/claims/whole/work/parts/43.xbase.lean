-- exceptions: what the tables say of them, the contracts of methods that throw, and of the law's callers
def lw_isE : Cond → Bool
  | .declares _ => true
  | .castable _ _ => true
  | _ => false
def lw_E : List Cond := lw_tbl.filter lw_isE
def xnm : List String := ["java/lang/RuntimeException", "java/lang/Exception"]
abbrev xIA : String := "java/lang/IllegalArgumentException"
abbrev xIS : String := "java/lang/IllegalStateException"
abbrev xIO : String := "java/lang/IndexOutOfBoundsException"
def lw_S : List (Nat × String) := [(43, "not a character code"), (54, "the text is full"), (69, "no such number"), (114, "no such place"), (124, "no such word"), (126, "a negative index"), (139, "no such direction"), (157, "no such segment"), (172, "no such word or direction"), (174, "a negative count"), (183, "no such walker"), (210, "the text is not a ring"), (220, "the text is not a word"), (223, "the book is full"), (236, "no such sign"), (246, "the ring is full"), (254, "no such place or direction"), (262, "no such pace or sight"), (264, "there are enough walkers"), (276, "not a number of steps"), (287, "nothing is remembered"), (293, "one walker alone"), (328, "not a number of commands"), (332, "not a script of so many commands"), (344, "not a number of turns"), (354, "no such save slot"), (356, "nothing has been saved in it")]
def lw_C : List (String × String) := [(xIA, xIS), (xIA, xIO), (xIS, xIA), (xIS, xIO), (xIO, xIA), (xIO, xIS)]
def XK (sa : Nat → Nat) (U : State) : Prop := (∀ w ∈ lw_E, va_Nw w U) ∧ (∀ q ∈ lw_S, vk_R RX6 q.1 q.2 (sa q.1) U) ∧ (∀ q ∈ lw_C, va_Nc q.1 q.2 U)
theorem lw_Et {w : Cond} (h : w ∈ lw_E) : w.onTables = true := by
  have h2 := (List.mem_filter.mp h).2
  cases w <;> first | rfl | cases h2
theorem XK.warm {sa : Nat → Nat} {s U : State} (hW : s.WarmedH U.vm) (h : XK sa s) : XK sa U := by
  refine ⟨fun w hw => ?_, fun q hq => vk_R.warm hW (h.2.1 q hq), fun q hq => va_Nc.moved hW.alike (h.2.2 q hq)⟩
  have h2 := (List.mem_filter.mp hw).2
  have h1 := h.1 w hw
  cases w <;> first | exact va_Nw.warmD hW h1 | exact va_Nw.warmC hW h1 | cases h2
theorem XK.same {sa : Nat → Nat} {u U : State} (hv : U.vm = u.vm) (h : XK sa u) : XK sa U :=
  ⟨fun w hw => va_Nw.same (lw_Et hw) hv.symm (h.1 w hw), fun q hq => vk_R.same hv (h.2.1 q hq), fun q hq => va_Nc.moved (by rw [hv]; exact Vm.Alike.refl u.vm) (h.2.2 q hq)⟩
def ZK (A : Nat → Prop) (U : State) (H : Heap) : Prop := vx_Zq Bundle.tN "UNASSIGNED_STACK" Bundle.steD A U H ∧ vx_Zq Bundle.tN "SUPPRESSED_SENTINEL" Bundle.listD A U H
theorem ZK.moved {A : Nat → Prop} {u U : State} {H : Heap} (hvm : u.vm.Alike U.vm) (h : ZK A u H) : ZK A U H := ⟨vx_Zq.moved hvm h.1, vx_Zq.moved hvm h.2⟩
theorem ZK.kept {A : Nat → Prop} {U : State} {H H1 : Heap} (h : ZK A U H) (hq : ∀ a : Nat, a < H.size → ¬ A a → H1[a]? = H[a]?) : ZK A U H1 := ⟨vx_Zq.kept h.1 hq, vx_Zq.kept h.2 hq⟩
theorem ZK.narrow {A B : Nat → Prop} {U : State} {H : Heap} (h : ZK A U H) (hAB : ∀ q, B q → A q) : ZK B U H := ⟨vx_Zq.narrow h.1 hAB, vx_Zq.narrow h.2 hAB⟩
abbrev nA : Nat → Prop := fun _ => False
def rmX (d : Nat) : Room := { frames := d, cells := 1, slots := 6, locals := 39 * d }
def TD (ar : List Value) (D : va_G) (cy : Nat → ClassId) (sa : Nat → Nat) (ws : va_W) : Array Value → State → Prop := va_Pc ar (fun U => va_P D vwCl ws U.heap ∧ KK D cy U ∧ XK sa U ∧ ZK nA U U.heap)
theorem TD.blind {ar D cy sa ws} : FrameBlind (TD ar D cy sa ws) := fun a U g mk h => ⟨h.1, h.2.1, KK.same (u := U) rfl h.2.2.1, XK.same (u := U) rfl h.2.2.2.1, ZK.moved (u := U) (Vm.Alike.refl U.vm) h.2.2.2.2⟩
abbrev XC9 (E : String) : String → State → State → Prop := vx_X (fun _ : Unit => True) (fun E' _ _ => E' = E) nA
/-- a method of the class that throws E -/
def Tx (l : Launch) (y : MethodName) (bytes : ByteArray) (maxL : Nat) (ret : Option FieldType) (d : Nat) (ar : List Value) (D : va_G) (cy : Nat → ClassId) (sa : Nat → Nat) (ws : va_W) (E : String) : Prop :=
  vx_Met l y (.code y bytes maxL ret :: lw_G) (rmX d) (TD ar D cy sa ws) (va_Qi (fun (_ : Int32) (_ : Unit) => False) (fun _ _ => True) nA) (XC9 E) 1 6 nA
abbrev XQ (below : List Frame) (args : Array Value) (s : State) (E : String) : State → Prop := vx_MQ below (va_Qi (fun (_ : Int32) (_ : Unit) => False) (fun _ _ => True) nA) (XC9 E) args s 1 6 nA
theorem Tx.of {l : Launch} {y : MethodName} {cc : ByteArray} {maxL : Nat} {ret : Option FieldType} {d : Nat} {ar : List Value} {D : va_G} {cy : Nat → ClassId} {sa : Nat → Nat} {ws : va_W} {E : String} (own : String) (hown : own = y.cls) (lv : List (Nat × Value)) (hlv : lv_args 0 ar = lv) (hpn : plainName y.cls = true) (hfit : (lg_sl ar).length ≤ maxL)
    (body : ∀ (p : Program) (e : Env) (s : State) (m : MethodId) (args : Array Value) (below : List Frame) (meth : Method) (c : Code), FX p m c cc maxL s args own → (∀ x ∈ c.exceptionTable.toList, False) → meth.locks = false → KK D cy s → XK sa s → ZK nA s s.heap → va_P D vwCl ws s.heap → ∀ ls : Array Slot, lv_has ls maxL lv → W p l e (rmX d) s m args below meth c s.heap [] 0 0 (XQ below args s E) (F0 m 0 ls [])) : Tx l y cc maxL ret d ar D cy sa ws E := by
  refine vx_ofW (cc := cc) (maxL := maxL) (ret := ret) hpn rfl ?_
  intro p e s m args below meth c s₁ B hml hex hv
  obtain ⟨rfl, hP, hK, hX, hZ⟩ := hv
  have hts := atoms_spec (ws := Cond.code y cc maxL ret :: lw_G) B.pre
  have ho : s.vm.findClass y.cls = some m.cls := findClass_of_methodNamed B.named
  have hl := lv_entry ar hfit
  rw [lg_entry_eq]
  subst hlv hown
  exact body p e s m _ below meth c ⟨B.exec, B.bytes, hml, ho, fun w h => hts w (List.mem_cons_of_mem _ h)⟩ hex B.notSynchronized hK hX hZ hP _ hl
def xat (ic : Nat) (E : String) : Bool := (vx_atS RX6 ic E xnm).all (fun w => (goodWord w || lw_isE w) && decide (w ∈ lw_tbl))
theorem xatIA : xat 45 xIA = true := by decide +kernel
theorem xatIS : xat 56 xIS = true := by decide +kernel
theorem xatIO : xat 116 xIO = true := by decide +kernel
section B43
variable {p : Program} {l : Launch} {e : Env} {R : Room} {s : State} {m : MethodId} {args : Array Value} {below : List Frame} {meth : Method} {c : Code} {H : Heap} {locs : List Loc} {cells slots : Nat} {Q : State → Prop}
variable {cc : ByteArray} {pc : Nat} {ls : Array Slot} {rest : List Value} {nL : Nat} {own : String} {D : va_G} {cy : Nat → ClassId} {ws : va_W} {A : Nat → Prop} {H0 : Heap} {sa : Nat → Nat}
theorem xat_w (F : FX p m c cc nL s args own) (hX : XK sa s) {ic : Nat} {E : String} (hat : xat ic E = true) : ∀ w ∈ vx_atS RX6 ic E xnm, w.before args s = true := by
  intro w hw
  have h := List.all_eq_true.mp hat w hw
  simp only [Bool.and_eq_true, Bool.or_eq_true, decide_eq_true_eq] at h
  rcases h.1 with g | g
  · exact F.2.2.2.2 _ (List.mem_filter.mpr ⟨h.2, g⟩)
  · exact va_Nw.use (lw_Et (List.mem_filter.mpr ⟨h.2, g⟩)) (hX.1 w (List.mem_filter.mpr ⟨h.2, g⟩))
theorem xat_g {ic : Nat} {E : String} (hat : xat ic E = true) {ik : Nat} : ∀ w ∈ Cond.classLink RX6 ik E :: Cond.initialized E :: vx_atS RX6 ic E xnm, vx_ot w = true := by
  intro w hw
  rcases List.mem_cons.mp hw with h | hw
  · rw [h]; rfl
  rcases List.mem_cons.mp hw with h | hw
  · rw [h]; rfl
  have h := List.all_eq_true.mp hat w hw
  simp only [Bool.and_eq_true, Bool.or_eq_true, decide_eq_true_eq] at h
  unfold vx_ot
  rcases h.1 with g | g
  · rw [g, Bool.or_true]
  · rw [lw_Et (List.mem_filter.mpr ⟨h.2, g⟩), Bool.true_or]
theorem rr_throw (F : FX p m c cc nL s args RX6) (hl : l.stackTraces = false) (hX : XK sa s) (hZ : ZK nA s s.heap) {lv : List (Nat × Value)} (hls : lv_has ls nL lv) {E text : String} {ik is ic : Nat} (hat : xat ic E = true) (hfit : Bundle.fit E = true) (hk : Cond.classLink RX6 ik E ∈ lw_G) (hini : Cond.initialized E ∈ lw_G) (hstr : (is, text) ∈ lw_S)
    (d0 : decode cc pc = .ok (.new ik, 3)) (d3 : decode cc (pc + 3) = .ok (.dup, 1)) (d4 : decode cc (pc + 4) = .ok (.ldc is, 2)) (d6 : decode cc (pc + 6) = .ok (.invokespecial ic, 3)) (d9 : decode cc (pc + 9) = .ok (.athrow, 1))
    (hex : ∀ x ∈ c.exceptionTable.toList, False) (hR : 6 ≤ R.frames ∧ 100 ≤ R.locals ∧ 1 ≤ R.cells ∧ 6 ≤ R.slots) (hlocks : meth.locks = false) : W p l e R s m args below meth c s.heap [] 0 0 (XQ below args s E) (F0 m pc ls []) := by
  obtain ⟨r1, r2, r3, r4⟩ := hR
  exact vx_throwS F.1 F.2.1 hl (own := RX6) (cls := E) (text := text) (names := xnm) (ik := ik) (ic := ic) (A := nA) F.2.2.2.1 hfit (by decide +kernel) (F.2.2.2.2 _ hk) (F.2.2.2.2 _ hini) (hX.2.1 _ hstr) (xat_w F hX hat) (xat_g hat) hZ.1 hZ.2 va_S.rf (hls.1.trans F.2.2.1.symm) d0 d3 d4 d6 d9 (fun x h => (hex x h).elim) (by show 2 + 3 < R.frames; omega) (by show 0 + (13 * (2 + 1) + 43) ≤ R.locals; omega) (by omega) (by omega) hlocks
    (fun t _ h1 h2 => ⟨(), trivial, rfl, h1, fun q hq _ => h2 q hq⟩) (fun _ h => by cases h) (Nat.le_refl _) (Nat.le_refl _)
theorem rr_throwW (F : FX p m c cc nL s args RX6) (hl : l.stackTraces = false) (hX : XK sa s) (hZ : ZK nA s s.heap) {lv : List (Nat × Value)} (hls : lv_has ls nL lv) {E text : String} {ik is ic : Nat} (hat : xat ic E = true) (hfit : Bundle.fit E = true) (hk : Cond.classLink RX6 ik E ∈ lw_G) (hini : Cond.initialized E ∈ lw_G) (hstr : (is, text) ∈ lw_S)
    (d0 : decode cc pc = .ok (.new ik, 3)) (d3 : decode cc (pc + 3) = .ok (.dup, 1)) (d4 : decode cc (pc + 4) = .ok (.ldc_w is, 3)) (d6 : decode cc (pc + 7) = .ok (.invokespecial ic, 3)) (d9 : decode cc (pc + 10) = .ok (.athrow, 1))
    (hex : ∀ x ∈ c.exceptionTable.toList, False) (hR : 6 ≤ R.frames ∧ 100 ≤ R.locals ∧ 1 ≤ R.cells ∧ 6 ≤ R.slots) (hlocks : meth.locks = false) : W p l e R s m args below meth c s.heap [] 0 0 (XQ below args s E) (F0 m pc ls []) := by
  obtain ⟨r1, r2, r3, r4⟩ := hR
  exact vx_throwSW F.1 F.2.1 hl (own := RX6) (cls := E) (text := text) (names := xnm) (ik := ik) (ic := ic) (A := nA) F.2.2.2.1 hfit (by decide +kernel) (F.2.2.2.2 _ hk) (F.2.2.2.2 _ hini) (hX.2.1 _ hstr) (xat_w F hX hat) (xat_g hat) hZ.1 hZ.2 va_S.rf (hls.1.trans F.2.2.1.symm) d0 d3 d4 d6 d9 (fun x h => (hex x h).elim) (by show 2 + 3 < R.frames; omega) (by show 0 + (13 * (2 + 1) + 43) ≤ R.locals; omega) (by omega) (by omega) hlocks
    (fun t _ h1 h2 => ⟨(), trivial, rfl, h1, fun q hq _ => h2 q hq⟩) (fun _ h => by cases h) (Nat.le_refl _) (Nat.le_refl _)
end B43
/-- a caller in the law whose call goes through -/
def Ww (l : Launch) (y : MethodName) (bytes : ByteArray) (maxL : Nat) (ret : Option FieldType) (hh : List (Nat × Nat × Nat × Nat)) (d : Nat) (ar : List Value) (D : va_G) (cy : Nat → ClassId) (ws ws' : va_W) (o : Option Value) : Prop :=
  ∀ sz : Nat, Met l y (.codeWith y bytes maxL ret hh :: lw_G) (rmD d) (WD ar D cy ws sz) (WQ D ws ws' sz o) 0 0 (va_A ws sz)
theorem Ww.of {l : Launch} {y : MethodName} {cc : ByteArray} {maxL : Nat} {ret : Option FieldType} {hh : List (Nat × Nat × Nat × Nat)} {d : Nat} {ar : List Value} {D : va_G} {cy : Nat → ClassId} {ws ws' : va_W} {o : Option Value} (own : String) (hown : own = y.cls) (lv : List (Nat × Value)) (hlv : lv_args 0 ar = lv) (hpn : plainName y.cls = true) (hfit : (lg_sl ar).length ≤ maxL)
    (body : ∀ (p : Program) (e : Env) (s : State) (m : MethodId) (args : Array Value) (below : List Frame) (meth : Method) (c : Code), FX p m c cc maxL s args own → meth.sig.returnType = ret → meth.locks = false → KK D cy s → va_P D vwCl ws s.heap → va_D (va_A ws s.heap.size) ws → va_S (va_A ws s.heap.size) s.heap s.heap [] → (∀ q : Nat, s.heap.size ≤ q → va_A ws s.heap.size q) → ∀ ls : Array Slot, lv_has ls maxL lv → W p l e (rmD d) s m args below meth c s.heap [] 0 0 (WQQ below args s D ws ws' o) (F0 m 0 ls [])) : Ww l y cc maxL ret hh d ar D cy ws ws' o := by
  intro sz
  refine va_MetW (cc := cc) (maxL := maxL) (ret := ret) (hh := hh) hpn rfl ?_
  intro p e s m args below meth c s₁ B hml hv
  obtain ⟨rfl, hsz, hP, hK, hD⟩ := hv
  have hts := atoms_spec (ws := Cond.codeWith y cc maxL ret hh :: lw_G) B.pre
  have ho : s.vm.findClass y.cls = some m.cls := findClass_of_methodNamed B.named
  have hl := lv_entry ar hfit
  rw [lg_entry_eq]
  subst hlv hown hsz
  exact body p e s m _ below meth c ⟨B.exec, B.bytes, hml, ho, fun w h => hts w (List.mem_cons_of_mem _ h)⟩ B.returns B.notSynchronized hK hP hD.self va_S.rf (fun q h => Or.inr h) _ hl
/-- a caller in the law whose call throws: it answers k -/
abbrev TQi (k : Int) : Array Value → State → Outcome → State → Prop := va_Qi (fun (r : Int32) (_ : Unit) => r = iI k) (fun _ _ => True) nA
def Tw (l : Launch) (y : MethodName) (bytes : ByteArray) (maxL : Nat) (ret : Option FieldType) (hh : List (Nat × Nat × Nat × Nat)) (d : Nat) (ar : List Value) (D : va_G) (cy : Nat → ClassId) (sa : Nat → Nat) (ws : va_W) (k : Int) : Prop :=
  Met l y (.codeWith y bytes maxL ret hh :: lw_G) (rmX d) (TD ar D cy sa ws) (TQi k) 1 6 nA
abbrev TWQ (below : List Frame) (args : Array Value) (s : State) (k : Int) : State → Prop := MQ below (TQi k) args s 1 6 nA
theorem Tw.of {l : Launch} {y : MethodName} {cc : ByteArray} {maxL : Nat} {ret : Option FieldType} {hh : List (Nat × Nat × Nat × Nat)} {d : Nat} {ar : List Value} {D : va_G} {cy : Nat → ClassId} {sa : Nat → Nat} {ws : va_W} {k : Int} (own : String) (hown : own = y.cls) (lv : List (Nat × Value)) (hlv : lv_args 0 ar = lv) (hpn : plainName y.cls = true) (hfit : (lg_sl ar).length ≤ maxL)
    (body : ∀ (p : Program) (e : Env) (s : State) (m : MethodId) (args : Array Value) (below : List Frame) (meth : Method) (c : Code), FX p m c cc maxL s args own → c.exceptionTable.toList = tableOf hh → meth.sig.returnType = ret → meth.locks = false → KK D cy s → XK sa s → ZK nA s s.heap → va_P D vwCl ws s.heap → ∀ ls : Array Slot, lv_has ls maxL lv → W p l e (rmX d) s m args below meth c s.heap [] 0 0 (TWQ below args s k) (F0 m 0 ls [])) : Tw l y cc maxL ret hh d ar D cy sa ws k := by
  refine va_MetW (cc := cc) (maxL := maxL) (ret := ret) (hh := hh) hpn rfl ?_
  intro p e s m args below meth c s₁ B hml hv
  obtain ⟨rfl, hP, hK, hX, hZ⟩ := hv
  have hts := atoms_spec (ws := Cond.codeWith y cc maxL ret hh :: lw_G) B.pre
  have ho : s.vm.findClass y.cls = some m.cls := findClass_of_methodNamed B.named
  have hl := lv_entry ar hfit
  have htab := vx_table (x := y) B (hts _ List.mem_cons_self)
  rw [lg_entry_eq]
  subst hlv hown
  exact body p e s m _ below meth c ⟨B.exec, B.bytes, hml, ho, fun w h => hts w (List.mem_cons_of_mem _ h)⟩ htab B.returns B.notSynchronized hK hX hZ hP _ hl
section B43b
variable {p : Program} {l : Launch} {e : Env} {R : Room} {s : State} {m : MethodId} {args : Array Value} {below : List Frame} {meth : Method} {c : Code} {H : Heap} {locs : List Loc} {cells slots : Nat} {Q : State → Prop}
variable {cc : ByteArray} {pc : Nat} {ls : Array Slot} {rest : List Value} {nL : Nat} {own : String} {D : va_G} {cy : Nat → ClassId} {ws : va_W} {A : Nat → Prop} {H0 : Heap} {sa : Nat → Nat}
/-- a call that throws E, caught by the row x of the caller's table -/
theorem rr_thrV (F : FX p m c cc nL s args own) (hK : KK D cy s) (hX : XK sa s) (hZ : ZK nA s s.heap) {hh : List (Nat × Nat × Nat × Nat)} (htab : c.exceptionTable.toList = tableOf hh) {y : MethodName} {bytes : ByteArray} {maxL d index : Nat} {ret : Option FieldType} {wc : va_W} {E : String} {b : Nat} {As : List Value} (hM : Tx l y bytes maxL ret d (.ref b :: As) D cy sa wc E) (hP : va_P D vwCl wc s.heap) (sf : SFV y bytes maxL ret As.length) (hl : Cond.methodLink own index y ∈ lw_G)
    (ci : Nat) {fs : List Value} {T : u_T} {N : Nat} (hq : wc[0]? = some (b, .inr (ci, fs))) (hcl : vwCl[ci]? = some (y.cls, T, N)) (hR : d + 1 ≤ R.frames ∧ 8 + (maxL + 11) + 39 * d ≤ R.locals ∧ 1 ≤ R.cells ∧ 6 ≤ R.slots) {lv : List (Nat × Value)} (hls : lv_has ls nL lv) {st : List Value} (hst : st = As.reverse ++ .ref b :: rest) (hcat : (rest.map fun v => v.category).sum ≤ 8) (hdg : decode cc pc = .ok (.invokevirtual index, 3))
    (pre : List ExceptionTableEntry) (x : ExceptionTableEntry) (suf : List ExceptionTableEntry) (hsplit : tableOf hh = pre ++ x :: suf) (hpass : ∀ z ∈ pre, z.catchType ≠ 0 ∧ ∃ nm : String, Cond.classLink own z.catchType nm ∈ lw_G ∧ (E, nm) ∈ lw_C) (hx : covers x pc = true) (h0 : x.catchType ≠ 0) (hlink : Cond.classLink own x.catchType E ∈ lw_G) (hcast : Cond.castable E E ∈ lw_E)
    (k : ∀ (q9 : Addr) (H1 : Heap), va_S nA s.heap H1 [] → W p l e R s m args below meth c H1 [] 1 6 Q (F0 m x.handlerPc ls [.ref q9])) : W p l e R s m args below meth c s.heap [] 0 0 Q (F0 m pc ls st) := by
  obtain ⟨f1, f2, f3, f4, f5⟩ := sf
  obtain ⟨r1, r2, r3, r4⟩ := hR
  have hts := F.2.2.2.2
  refine vx_calli (A0 := nA) (A1 := nA) (AX := nA) (vx_runV (As := As) (rest := rest) F hM ⟨callB_of As.length hts (lw_GC f4) rfl rfl rfl (hts _ f3) (hts _ hl) f5 ⟨r1, r2⟩, hts _ f1, hts _ f2⟩ ⟨TD.blind, va_recv hK.1 hP hcl hq, fun U hU hW => ⟨rfl, by rw [hU]; exact hP, hK.warm hW, hX.warm hW, by rw [hU]; exact hZ.moved hW.alike⟩⟩ rfl rfl hls.1 hst (lv_room hcat) hdg ⟨by omega, by omega⟩) va_S.rf (fun _ _ h => h) (fun _ h => h) (fun _ _ h => h) ?_ (fun r u t H1 locs1 _ _ hf _ _ _ _ => hf.elim)
  intro E' ce q9 u t H1 locs1 ht hal _ hE hz hk1 hS1 hce hcv hclE
  subst hE
  have hno : locs1 = [] := by
    cases locs1 with
    | nil => rfl
    | cons a b => exact (hS1.2.2 a List.mem_cons_self).elim
  subst hno
  exact vx_catch (own := own) (name := E') F.2.2.2.1 pre x suf (htab.trans hsplit) (fun z hz => Or.inr (by obtain ⟨g1, nm, g2, g3⟩ := hpass z hz; exact ⟨g1, nm, hts _ g2, hX.2.2 _ g3⟩)) hx h0 (hts _ hlink) (va_Nw.use (lw_Et hcast) (hX.1 _ hcast)) hce hcv hclE (k q9 H1 hS1)
theorem rr_twret (F : FX p m c cc nL s args own) (hr : meth.sig.returnType = some .int) (hlocks : meth.locks = false) {k z : Int} {H1 : Heap} (hS : va_S nA s.heap H1 []) (hdg : decode cc pc = .ok (.ireturn, 1)) (hz : z = k) : W p l e R s m args below meth c H1 [] 1 6 (TWQ below args s k) (F0 m pc ls [vI z]) :=
  W.iret F.1 F.2.1 hr (fun t ht _ => ⟨⟨iI z, (), rfl, by rw [hz], trivial⟩, hS.F ht⟩) (fun _ h => by cases h) hdg hlocks
theorem rr_last0 (F : FX p m c cc nL s args own) (hK : KK D cy s) (hP : va_P D vwCl ws H) (hD : va_D A ws) (hS : va_S A H0 H locs) (q0 : Nat) {a : Nat} {f : Nat → Int64} (ha : ws[q0]? = some (a, .inl (cy 5, 1, .inr (.inl f)))) {v : Int} (hdg : decode cc pc = .ok (.lastore, 1))
    (k : ∀ (H1 : Heap) (locs1 : List Loc), va_P D vwCl (ws.set q0 (a, .inl (cy 5, 1, .inr (.inl (vp_updL f 0 (lI v)))))) H1 → va_D A (ws.set q0 (a, .inl (cy 5, 1, .inr (.inl (vp_updL f 0 (lI v)))))) → va_S A H0 H1 locs1 → W p l e R s m args below meth c H1 locs1 cells slots Q (F0 m (pc + 1) ls rest)) : W p l e R s m args below meth c H locs cells slots Q (F0 m pc ls (.long (lI v) :: vI 0 :: .ref a :: rest)) := by
  refine va_last F.1 F.2.1 hK.1 hP hD hS q0 5 ha rfl (iI_in (j := 0) rfl (by decide) (by decide)) hdg ?_
  rw [show (iI 0).toNatClampNeg = 0 from iI_cl (j := 0) rfl (by decide)]
  exact k
theorem rr_lald0 (F : FX p m c cc nL s args own) (hK : KK D cy s) (hP : va_P D vwCl ws H) (q0 : Nat) {a : Nat} {f : Nat → Int64} (ha : ws[q0]? = some (a, .inl (cy 5, 1, .inr (.inl f)))) (hdg : decode cc pc = .ok (.laload, 1))
    (k : W p l e R s m args below meth c H locs cells slots Q (F0 m (pc + 1) ls (.long (f 0) :: rest))) : W p l e R s m args below meth c H locs cells slots Q (F0 m pc ls (vI 0 :: .ref a :: rest)) := by
  refine va_lald F.1 F.2.1 hK.1 hP q0 5 ha rfl (iI_in (j := 0) rfl (by decide) (by decide)) hdg ?_
  rw [show (iI 0).toNatClampNeg = 0 from iI_cl (j := 0) rfl (by decide)]
  exact k
end B43b
