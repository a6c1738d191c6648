-- constructors: what a new object leaves
def rmC (d mc ms : Nat) : Room := { frames := d, cells := mc, slots := ms, locals := 39 * d }
def AOK (U : State) : Prop := va_AO RX3 U ∧ va_AO RX5 U
theorem AOK.moved {u U : State} (h : u.vm.Alike U.vm) (k : AOK u) : AOK U := ⟨k.1.moved h, k.2.moved h⟩
abbrev NU := Nat → Nat → Nat
def CD (b : Nat) (D : va_G) (cy : Nat → ClassId) (w0 : va_W) (sz : Nat) : Array Value → State → Prop := va_Pc [.ref b] (fun U => U.heap.size = sz ∧ va_P D vwCl w0 U.heap ∧ KK D cy U ∧ AOK U ∧ va_D (fun _ => True) w0)
theorem CD.blind {b D cy w0 sz} : FrameBlind (CD b D cy w0 sz) := fun a U g mk h => ⟨h.1, h.2.1, h.2.2.1, KK.same (u := U) rfl h.2.2.2.1, AOK.moved (u := U) (Vm.Alike.refl U.vm) h.2.2.2.2.1, h.2.2.2.2.2⟩
def CQ (D : va_G) (w0 : va_W) (sz b : Nat) (Wn : NU → va_W) : Array Value → State → Outcome → State → Prop := va_Qv (fun u : NU => u 0 0 = b) (fun u t => va_P D vwCl (Wn u) t.heap ∧ va_D (va_A w0 sz) (Wn u)) (va_A w0 sz)
def Cn (l : Launch) (y : MethodName) (bytes : ByteArray) (maxL d mc ms : Nat) (D : va_G) (cy : Nat → ClassId) (b : Nat) (w0 : va_W) (Wn : NU → va_W) : Prop :=
  ∀ sz : Nat, Met l y (.code y bytes maxL none :: lw_G) (rmC d mc ms) (CD b D cy w0 sz) (CQ D w0 sz b Wn) mc ms (va_A w0 sz)
theorem Cn.of {l : Launch} {y : MethodName} {cc : ByteArray} {maxL d mc ms : Nat} {D : va_G} {cy : Nat → ClassId} {b : Nat} {w0 : va_W} {Wn : NU → va_W} (own : String) (hown : own = y.cls) (hpn : plainName y.cls = true) (hyn : y.name = "<init>") (hfit : (lg_sl [Value.ref b]).length ≤ maxL)
    (body : ∀ (p : Program) (e : Env) (s : State) (m : MethodId) (args : Array Value) (below : List Frame) (meth : Method) (c : Code), FX p m c cc maxL s args own → meth.sig.returnType = none → meth.locks = false → meth.name = "<init>" → KK D cy s → AOK s → va_P D vwCl w0 s.heap → va_D (va_A w0 s.heap.size) w0 → va_S (va_A w0 s.heap.size) s.heap s.heap [] → (∀ q : Nat, s.heap.size ≤ q → va_A w0 s.heap.size q) → ∀ ls : Array Slot, lv_has ls maxL [(0, .ref b)] → W p l e (rmC d mc ms) s m args below meth c s.heap [] 0 0 (MQ below (CQ D w0 s.heap.size b Wn) args s mc ms (va_A w0 s.heap.size)) (F0 m 0 ls [])) : Cn l y cc maxL d mc ms D cy b w0 Wn := by
  intro sz
  refine Met.ofW (cc := cc) (maxL := maxL) (ret := none) hpn rfl ?_
  intro p e s m args below meth c s₁ B hml hv
  obtain ⟨rfl, hsz, hP, hK, hAO, hD⟩ := hv
  have hts := atoms_spec (ws := Cond.code y cc maxL none :: lw_G) B.pre
  have ho : s.vm.findClass y.cls = some m.cls := findClass_of_methodNamed B.named
  have hl := lv_entry [Value.ref b] hfit
  rw [lg_entry_eq]
  subst hown hsz
  exact body p e s m _ below meth c ⟨B.exec, B.bytes, hml, ho, fun w h => hts w (List.mem_cons_of_mem _ h)⟩ B.returns B.notSynchronized ((name_of_methodNamed B.named B.method).1.trans hyn) hK hAO hP hD.self va_S.rf (fun q h => Or.inr h) _ hl
/-- what the tables say of a class whose objects are made -/
def NF (C : String) (T : u_T) (N ci : Nat) (fs : List Value) : Prop := (∀ w ∈ u_ws C T N, w ∈ lw_G) ∧ (∃ ty : Nat → FieldType, (∀ k, k < N → parseFieldDescriptor (T k).2.2.1 = some (ty k)) ∧ ∀ j, j < N → defaultValue (ty j) = vp_V fs j) ∧ Cond.instantiable C N ∈ lw_G ∧ Cond.initialized C ∈ lw_G ∧ vwCl[ci]? = some (C, T, N)
theorem nfX0 : NF RX0 TX0 3 0 [.null, .null, vI 0] := ⟨inX0, ⟨tyX0, tyX0_ok, fun j hj => by rcases (show j = 0 ∨ j = 1 ∨ j = 2 by omega) with rfl | rfl | rfl <;> rfl⟩, lw_mem (i := 102) (by decide +kernel) (by decide +kernel), tw5, rfl⟩
theorem nfX1 : NF RX1 TX1 3 1 [.null, vI 0, vI 0] := ⟨inX1, ⟨tyX1, tyX1_ok, fun j hj => by rcases (show j = 0 ∨ j = 1 ∨ j = 2 by omega) with rfl | rfl | rfl <;> rfl⟩, lw_mem (i := 173) (by decide +kernel) (by decide +kernel), tw7, rfl⟩
theorem nfX2 : NF RX2 TX2 2 2 [.null, vI 0] := ⟨inX2, ⟨tyX2, tyX2_ok, fun j hj => by rcases (show j = 0 ∨ j = 1 by omega) with rfl | rfl <;> rfl⟩, tw51, tw4, rfl⟩
theorem nfX3 : NF RX3 TX3 5 3 [.null, .null, .null, vI 0, vI 0] := ⟨inX3, ⟨tyX3, tyX3_ok, fun j hj => by rcases (show j = 0 ∨ j = 1 ∨ j = 2 ∨ j = 3 ∨ j = 4 by omega) with rfl | rfl | rfl | rfl | rfl <;> rfl⟩, tw45, tw3, rfl⟩
theorem nfX4 : NF RX4 TX4 2 4 [.null, vI 0] := ⟨inX4, ⟨tyX4, tyX4_ok, fun j hj => by rcases (show j = 0 ∨ j = 1 by omega) with rfl | rfl <;> rfl⟩, tw27, tw2, rfl⟩
theorem nfX5 : NF RX5 TX5 5 5 [vI 0, vI 0, vI 0, vI 0, vI 0] := ⟨inX5, ⟨tyX5, tyX5_ok, fun j hj => by rcases (show j = 0 ∨ j = 1 ∨ j = 2 ∨ j = 3 ∨ j = 4 by omega) with rfl | rfl | rfl | rfl | rfl <;> rfl⟩, tw87, tw6, rfl⟩
theorem nfX6 : NF RX6 TX6 6 6 [.null, .null, .null, .null, .null, .null] := ⟨inX6, ⟨tyX6, tyX6_ok, fun j hj => by rcases (show j = 0 ∨ j = 1 ∨ j = 2 ∨ j = 3 ∨ j = 4 ∨ j = 5 by omega) with rfl | rfl | rfl | rfl | rfl | rfl <;> rfl⟩, tw19, tw1, rfl⟩
theorem nfX7 : NF RX7 TX7 9 7 [vI 0, .null, .null, .null, vI 0, .null, .null, .null, vI 0] := ⟨inX7, ⟨tyX7, tyX7_ok, fun j hj => by rcases (show j = 0 ∨ j = 1 ∨ j = 2 ∨ j = 3 ∨ j = 4 ∨ j = 5 ∨ j = 6 ∨ j = 7 ∨ j = 8 by omega) with rfl | rfl | rfl | rfl | rfl | rfl | rfl | rfl | rfl <;> rfl⟩, tw869, tw8, rfl⟩
theorem va_RA_u {U : State} {c1 c2 : ClassId} {ty : FieldType} (h1 : va_RA U c1 ty) (h2 : va_RA U c2 ty) : c1 = c2 := by
  cases ty with
  | object C =>
    obtain ⟨_, _, _, _, _, g1⟩ := h1
    obtain ⟨_, _, _, _, _, g2⟩ := h2
    exact Option.some.inj (g1.symm.trans g2)
  | _ => exact Option.some.inj (Eq.trans (Eq.symm h1) h2)
section B47
variable {p : Program} {l : Launch} {e : Env} {R : Room} {s : State} {m : MethodId} {args : Array Value} {below : List Frame} {meth : Method} {c : Code} {H : Heap} {locs : List Loc} {cells slots : Nat} {Q : State → Prop}
variable {cc : ByteArray} {pc : Nat} {ls : Array Slot} {rest : List Value} {nL : Nat} {own : String} {D : va_G} {cy : Nat → ClassId} {ws : va_W} {A : Nat → Prop} {H0 : Heap} {sa : Nat → Nat}
theorem rr_objInit (F : FX p m c cc nL s args own) {idx : Nat} (hl : Cond.methodLink own idx objectInit ∈ lw_G) {lv : List (Nat × Value)} (hls : lv_has ls nL lv) {a : Addr} (hdg : decode cc pc = .ok (.invokespecial idx, 3)) (hf : 1 ≤ R.frames) (hlo : (rest.map fun v => v.category).sum + 12 ≤ R.locals)
    (k : W p l e R s m args below meth c H locs cells slots Q (F0 m (pc + 3) ls rest)) : W p l e R s m args below meth c H locs cells slots Q (F0 m pc ls (.ref a :: rest)) :=
  W.objInit F.1 F.2.1 F.2.2.2.1 (F.2.2.2.2 _ hl) (F.2.2.2.2 _ tw24) (F.2.2.2.2 _ tw25) rfl (hls.1.trans F.2.2.1.symm) rfl hdg hf (by show 2 * 0 + _ + 12 ≤ _; omega) k
theorem rr_newa (F : FX p m c cc nL s args own) (hK : KK D cy s) (hP : va_P D vwCl ws H) (hD : va_D A ws) (hS : va_S A H0 H locs) (hA : ∀ q, H0.size ≤ q → A q) (k0 : Nat) {atype : ArrayType} {ty : FieldType} (hty : newarray.typeOf atype = ty) (harr : Cond.arrayClass ty ∈ lw_G) (ht : [(cy 0, FieldType.char), (cy 1, .int), (cy 2, .boolean), (cy 3, .object RX3), (cy 4, .object RX5), (cy 5, .long)][k0]? = some (cy k0, ty)) {z : Int} {n : Nat} {a0 : vp_A} (ha : ∀ cA : ClassId, vp_cell cA a0 = arrV cA n (fun _ => defaultValue ty))
    (hn : ¬ iI z < 0) (hN : (iI z).toNatClampNeg = n) (hbytes : n * componentBytes ty ≤ 536870912) (hc : cells + 1 ≤ R.cells ∧ slots + n ≤ R.slots) (hdg : decode cc pc = .ok (.newarray atype, 2))
    (k : ∀ (q : Nat) (H1 : Heap), va_P D vwCl (ws ++ [(q, .inl (cy k0, a0))]) H1 → va_D A (ws ++ [(q, .inl (cy k0, a0))]) → va_S A H0 H1 locs → W p l e R s m args below meth c H1 locs (cells + 1) (slots + n) Q (F0 m (pc + 2) ls (.ref q :: rest))) : W p l e R s m args below meth c H locs cells slots Q (F0 m pc ls (vI z :: rest)) := by
  refine va_newa F.1 F.2.1 (by rw [hty]; exact F.2.2.2.2 _ harr) hty hK.1 hP hD hS hA ha hn hN hbytes hc.1 hc.2 hdg fun q cA H1 hK1 hP1 hD1 hS1 => ?_
  have e : cA = cy k0 := va_RA_u (hK1.2 _ _ (List.getElem?_concat_length)).2 (hK.1.2 k0 _ ht).2
  subst e
  exact k q H1 hP1 hD1 hS1
theorem rr_newq (F : FX p m c cc nL s args own) (hK : KK D cy s) (hP : va_P D vwCl ws H) (hD : va_D A ws) (hS : va_S A H0 H locs) (hA : ∀ q, H0.size ≤ q → A q) (k0 : Nat) {C : String} {index : Nat} (hcl : Cond.classLink own index C ∈ lw_G) (hover : va_AO C s) (ht : [(cy 0, FieldType.char), (cy 1, .int), (cy 2, .boolean), (cy 3, .object RX3), (cy 4, .object RX5), (cy 5, .long)][k0]? = some (cy k0, .object C)) {z : Int} {n : Nat}
    (hn : ¬ iI z < 0) (hN : (iI z).toNatClampNeg = n) (hbytes : n * 4 ≤ 536870912) (hc : cells + 1 ≤ R.cells ∧ slots + n ≤ R.slots) (hdg : decode cc pc = .ok (.anewarray index, 3))
    (k : ∀ (q : Nat) (H1 : Heap), va_P D vwCl (ws ++ [(q, .inl (cy k0, n, .inr (.inr (.inr (.inr (fun _ => none))))))]) H1 → va_D A (ws ++ [(q, .inl (cy k0, n, .inr (.inr (.inr (.inr (fun _ => none))))))]) → va_S A H0 H1 locs → W p l e R s m args below meth c H1 locs (cells + 1) (slots + n) Q (F0 m (pc + 3) ls (.ref q :: rest))) : W p l e R s m args below meth c H locs cells slots Q (F0 m pc ls (vI z :: rest)) := by
  refine va_newq F.1 F.2.1 F.2.2.2.1 (F.2.2.2.2 _ hcl) hover hK.1 hP hD hS hA hn hN hbytes hc.1 hc.2 hdg fun q cA H1 hK1 hP1 hD1 hS1 => ?_
  have e : cA = cy k0 := va_RA_u (hK1.2 _ _ (List.getElem?_concat_length)).2 (hK.1.2 k0 _ ht).2
  subst e
  exact k q H1 hP1 hD1 hS1
/-- 'new C()': new; dup; invokespecial -/
theorem rr_mk0 (F : FX p m c cc nL s args own) (hK : KK D cy s) (hAO : AOK s) (hP : va_P D vwCl ws H) (hD : va_D A ws) (hS : va_S A H0 H locs) (hA : ∀ q, H0.size ≤ q → A q) {C : String} {T : u_T} {N ci : Nat} {fs : List Value} (nf : NF C T N ci fs) {ik ic : Nat} (hcl : Cond.classLink own ik C ∈ lw_G) {y : MethodName} {bytes : ByteArray} {maxL d mc ms : Nat} {Wn : NU → va_W} (hM : ∀ q, Cn l y bytes maxL d mc ms D cy q [(q, .inr (ci, fs))] Wn)
    (hrun : ∀ (q : Nat) (H1 : Heap), PreS s H1 (CD q D cy [(q, .inr (ci, fs))] H1.size) [.ref q] → decode cc (pc + 4) = .ok (.invokespecial ic, 3) → va_Run p l e R s m args below meth c H1 locs (cells + 1) (slots + N) mc ms (F0 m (pc + 4) ls (.ref q :: .ref q :: rest)) (.ref q :: rest) (CQ D [(q, .inr (ci, fs))] H1.size q Wn #[.ref q]) (va_A [(q, .inr (ci, fs))] H1.size))
    (hc : cells + 1 ≤ R.cells ∧ slots + N ≤ R.slots) (d0 : decode cc pc = .ok (.new ik, 3)) (d3 : decode cc (pc + 3) = .ok (.dup, 1)) (d4 : decode cc (pc + 4) = .ok (.invokespecial ic, 3))
    (k : ∀ (u : NU) (H1 : Heap) (locs1 : List Loc), va_P D vwCl (Wn u ++ ws) H1 → va_D A (Wn u ++ ws) → va_S A H0 H1 locs1 → W p l e R s m args below meth c H1 locs1 (cells + 1 + mc) (slots + N + ms) Q (F0 m (pc + 7) ls (.ref (u 0 0) :: rest))) : W p l e R s m args below meth c H locs cells slots Q (F0 m pc ls rest) := by
  obtain ⟨n1, ⟨ty, n2, n3⟩, n4, n5, n6⟩ := nf
  have hts := F.2.2.2.2
  refine va_new (c0 := c) F.1 F.2.1 hts n1 ty n2 F.2.2.2.1 (hts _ hcl) (hts _ n4) (hts _ n5) hK.1 hP hD hS hA n6 n3 hc.1 hc.2 d0 fun q H1 hP1 hD1 hS1 => ?_
  refine lv_dup F.1 F.2.1 d3 rfl ?_
  have hp : (ws ++ [(q, Sum.inr (ci, fs))]).Perm ([(q, Sum.inr (ci, fs))] ++ ws) := List.perm_append_comm
  have hF := va_freep hp hD1 hS1 hA
  refine va_callv (A0 := A) (hrun q H1 ⟨CD.blind, fun U hU hW => ⟨rfl, by rw [hU], by rw [hU]; exact (hP1.perm hp).left, hK.warm hW, hAO.moved hW.alike, (hD1.perm hp).left.weaken (fun _ _ _ _ => trivial)⟩⟩ d4) hS1 (fun q _ h => hF q h) hF ?_
  intro u t H2 locs2 ht _ hu hB hz hk hS2
  obtain ⟨hP2, hD2⟩ := va_joinp hp hP1 hD1 hk hF (by rw [← ht]; exact hB.1) hB.2
  rw [← (show u 0 0 = q from hu)]
  exact k u H2 locs2 hP2 hD2 hS2
theorem rr_mkN (F : FX p m c cc nL s args own) (hK : KK D cy s) (hAO : AOK s) (hP : va_P D vwCl ws H) (hD : va_D A ws) (hS : va_S A H0 H locs) (hA : ∀ q, H0.size ≤ q → A q) {C : String} {T : u_T} {N ci : Nat} {fs : List Value} (nf : NF C T N ci fs) {ik ic : Nat} (hcl : Cond.classLink own ik C ∈ lw_G) {y : MethodName} {bytes : ByteArray} {maxL d mc ms : Nat} {Wn : NU → va_W} (hM : ∀ q, Cn l y bytes maxL d mc ms D cy q [(q, .inr (ci, fs))] Wn)
    {host : String} (hlk : Cond.methodLinkNest own ic y host ∈ lw_N) (hyc : y.cls = C) (hyn : y.name = "<init>") (him : Cond.instanceMethod y ∈ lw_G) (hco : Cond.code y bytes maxL none ∈ lw_G) (hd : y.cls ≠ "java/lang/invoke/MethodHandle" ∧ y.cls ≠ "java/lang/invoke/VarHandle" ∧ (parseMethodDescriptor y.desc).map (fun d => d.parameters.length) = some 0) (hR : d + 1 ≤ R.frames ∧ 8 + (maxL + 11) + 39 * d ≤ R.locals) {lv : List (Nat × Value)} (hls : lv_has ls nL lv) (hcat : ((Value.ref 0 :: rest).map fun v => v.category).sum ≤ 8)
    (hc : cells + 1 + mc ≤ R.cells ∧ slots + N + ms ≤ R.slots) (d0 : decode cc pc = .ok (.new ik, 3)) (d3 : decode cc (pc + 3) = .ok (.dup, 1)) (d4 : decode cc (pc + 4) = .ok (.invokespecial ic, 3))
    (k : ∀ (u : NU) (H1 : Heap) (locs1 : List Loc), va_P D vwCl (Wn u ++ ws) H1 → va_D A (Wn u ++ ws) → va_S A H0 H1 locs1 → W p l e R s m args below meth c H1 locs1 (cells + 1 + mc) (slots + N + ms) Q (F0 m (pc + 7) ls (.ref (u 0 0) :: rest))) : W p l e R s m args below meth c H locs cells slots Q (F0 m pc ls rest) := by
  have hts := F.2.2.2.2
  refine rr_mk0 F hK hAO hP hD hS hA nf hcl hM (fun q H1 hpre hdg => ?_) ⟨by omega, by omega⟩ d0 d3 d4 k
  exact va_runIN (As := []) (rest := .ref q :: rest) F (hM q H1.size) ⟨va_cnB 0 hts (lw_GC hco) rfl rfl rfl (hK.2 _ hlk) (hts _ (by rw [hyc]; exact nf.2.2.2.1)) hd hR, hyn, hts _ him⟩ hpre rfl rfl hls.1 rfl (lv_room hcat) hdg hc
theorem rr_mkI (F : FX p m c cc nL s args own) (hK : KK D cy s) (hAO : AOK s) (hP : va_P D vwCl ws H) (hD : va_D A ws) (hS : va_S A H0 H locs) (hA : ∀ q, H0.size ≤ q → A q) {C : String} {T : u_T} {N ci : Nat} {fs : List Value} (nf : NF C T N ci fs) {ik ic : Nat} (hcl : Cond.classLink own ik C ∈ lw_G) {y : MethodName} {bytes : ByteArray} {maxL d mc ms : Nat} {Wn : NU → va_W} (hM : ∀ q, Cn l y bytes maxL d mc ms D cy q [(q, .inr (ci, fs))] Wn)
    (hlk : Cond.methodLink own ic y ∈ lw_G) (hyc : y.cls = C) (hyn : y.name = "<init>") (him : Cond.instanceMethod y ∈ lw_G) (hco : Cond.code y bytes maxL none ∈ lw_G) (hd : y.cls ≠ "java/lang/invoke/MethodHandle" ∧ y.cls ≠ "java/lang/invoke/VarHandle" ∧ (parseMethodDescriptor y.desc).map (fun d => d.parameters.length) = some 0) (hR : d + 1 ≤ R.frames ∧ 8 + (maxL + 11) + 39 * d ≤ R.locals) {lv : List (Nat × Value)} (hls : lv_has ls nL lv) (hcat : ((Value.ref 0 :: rest).map fun v => v.category).sum ≤ 8)
    (hc : cells + 1 + mc ≤ R.cells ∧ slots + N + ms ≤ R.slots) (d0 : decode cc pc = .ok (.new ik, 3)) (d3 : decode cc (pc + 3) = .ok (.dup, 1)) (d4 : decode cc (pc + 4) = .ok (.invokespecial ic, 3))
    (k : ∀ (u : NU) (H1 : Heap) (locs1 : List Loc), va_P D vwCl (Wn u ++ ws) H1 → va_D A (Wn u ++ ws) → va_S A H0 H1 locs1 → W p l e R s m args below meth c H1 locs1 (cells + 1 + mc) (slots + N + ms) Q (F0 m (pc + 7) ls (.ref (u 0 0) :: rest))) : W p l e R s m args below meth c H locs cells slots Q (F0 m pc ls rest) := by
  have hts := F.2.2.2.2
  refine rr_mk0 F hK hAO hP hD hS hA nf hcl hM (fun q H1 hpre hdg => ?_) ⟨by omega, by omega⟩ d0 d3 d4 k
  exact va_runI (As := []) (rest := .ref q :: rest) F (hM q H1.size) (cwI 0 hts (lw_GC hco) rfl rfl rfl (hts _ (by rw [hyc]; exact nf.2.2.2.1)) (hts _ hlk) (hts _ him) hyn hd hR) hpre rfl rfl hls.1 rfl (lv_room hcat) hdg hc
theorem rr_aast (F : FX p m c cc nL s args own) (hK : KK D cy s) (hP : va_P D vwCl ws H) (hD : va_D A ws) (hS : va_S A H0 H locs) (q0 t0 qk ci : Nat) {a : Nat} {r : vw_C} {n v : Nat} {vs : List Value} {f : Nat → Option Nat} (ha : ws[q0]? = some (a, .inl (cy t0, n, .inr (.inr (.inr (.inr f)))))) (ht : [(cy 0, FieldType.char), (cy 1, .int), (cy 2, .boolean), (cy 3, .object RX3), (cy 4, .object RX5), (cy 5, .long)][t0]? = some (cy t0, .object r.1)) (hv : ws[qk]? = some (v, .inr (ci, vs))) (hc : vwCl[ci]? = some r) {z : Int} {j : Nat} (hz : z = j) (hj : j < n) (hn : n < 2147483648) (hdg : decode cc pc = .ok (.aastore, 1))
    (k : ∀ (H1 : Heap) (locs1 : List Loc), va_P D vwCl (ws.set q0 (a, .inl (cy t0, n, .inr (.inr (.inr (.inr (va_up f j (some v)))))))) H1 → va_D A (ws.set q0 (a, .inl (cy t0, n, .inr (.inr (.inr (.inr (va_up f j (some v)))))))) → va_S A H0 H1 locs1 → W p l e R s m args below meth c H1 locs1 cells slots Q (F0 m (pc + 1) ls rest)) : W p l e R s m args below meth c H locs cells slots Q (F0 m pc ls (.ref v :: vI z :: .ref a :: rest)) := by
  refine va_astq F.1 F.2.1 hK.1 hP hD hS q0 t0 qk ci ha ht hv hc (iI_in hz hj hn) hdg ?_
  rw [iI_cl hz (by omega)]
  exact k
end B47
