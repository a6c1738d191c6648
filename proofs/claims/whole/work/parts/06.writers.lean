-- writers: at the world ws they answer o and leave the world ws', no other old cell changes
def WD (ar : List Value) (D : va_G) (cy : Nat → ClassId) (ws : va_W) (sz : Nat) : Array Value → State → Prop := va_Pc ar (fun U => U.heap.size = sz ∧ va_P D vwCl ws U.heap ∧ KK D cy U ∧ va_D (fun _ => True) ws)
def WQ (D : va_G) (ws ws' : va_W) (sz : Nat) (o : Option Value) : Array Value → State → Outcome → State → Prop := fun _ st oc t => oc = .returned o ∧ va_P D vwCl ws' t.heap ∧ va_F (va_A ws sz) st t
def Wr (l : Launch) (y : MethodName) (bytes : ByteArray) (maxL : Nat) (ret : Option FieldType) (d : Nat) (ar : List Value) (D : va_G) (cy : Nat → ClassId) (ws ws' : va_W) (o : Option Value) : Prop :=
  ∀ sz : Nat, Met l y (.code y bytes maxL ret :: lw_G) (rmD d) (WD ar D cy ws sz) (WQ D ws ws' sz o) 0 0 (va_A ws sz)
theorem WD.blind {ar D cy ws sz} : FrameBlind (WD ar D cy ws sz) := fun a U g mk h => ⟨h.1, h.2.1, h.2.2.1, KK.same (u := U) rfl h.2.2.2.1, h.2.2.2.2⟩
theorem va_D.like {A : Nat → Prop} {w w' : va_W} (h : va_D A w) (e : w'.map Prod.fst = w.map Prod.fst) : va_D A w' := by
  have hk : ∀ k : Nat, (w'[k]?).map Prod.fst = (w[k]?).map Prod.fst := fun k => by rw [← List.getElem?_map, ← List.getElem?_map, e]
  refine ⟨fun i j p q hp hq hpq => ?_, fun k q hq => ?_⟩
  · have h1 := hk i
    have h2 := hk j
    rw [hp] at h1
    rw [hq] at h2
    obtain ⟨x, hx, ex⟩ := Option.map_eq_some_iff.mp h1.symm
    obtain ⟨y, hy, ey⟩ := Option.map_eq_some_iff.mp h2.symm
    exact h.1 i j x y hx hy (by rw [ex, ey, hpq])
  · have h1 := hk k
    rw [hq] at h1
    obtain ⟨x, hx, ex⟩ := Option.map_eq_some_iff.mp h1.symm
    rw [← ex]
    exact h.2 k x hx
section B06
variable {p : Program} {l : Launch} {e : Env} {R : Room} {s : State} {m : MethodId} {args : Array Value} {below : List Frame} {meth : Method} {c : Code} {H : Heap} {locs : List Loc} {cells slots : Nat} {Q : State → Prop}
variable {cc : ByteArray} {pc : Nat} {ls : Array Slot} {rest : List Value} {nL : Nat} {own : String} {D : va_G} {cy : Nat → ClassId} {ws : va_W} {A : Nat → Prop} {H0 : Heap}
/-- behind a writer's call -/
theorem wr_after {wc wc' ws2 wr : va_W} {o : Option Value} {st0 : List Value} {a : Array Value} (hr : va_Run p l e R s m args below meth c H locs cells slots 0 0 (F0 m pc ls st0) rest (WQ D wc wc' H.size o a) (va_A wc H.size)) (hP : va_P D vwCl ws H) (hD : va_D A ws) (hS : va_S A H0 H locs) (hA : ∀ q, H0.size ≤ q → A q)
    (isC isR perm : List Nat) (hC : isC.map (fun i => ws[i]?) = wc.map some) (hR : isR.map (fun i => ws[i]?) = wr.map some) (hnC : va_nd isC = true) (hnR : va_nd isR = true) (hdis : ∀ i ∈ isR, i ∉ isC) (hfst : wc'.map Prod.fst = wc.map Prod.fst) (hpm : perm.map (fun i => (wr ++ wc')[i]?) = ws2.map some) (hnp : va_nd perm = true)
    (k : ∀ (H1 : Heap) (locs1 : List Loc), va_P D vwCl ws2 H1 → va_D A ws2 → va_S A H0 H1 locs1 → W p l e R s m args below meth c H1 locs1 cells slots Q (F0 m (pc + 3) ls (o.toList ++ rest))) : W p l e R s m args below meth c H locs cells slots Q (F0 m pc ls st0) := by
  have hF := va_free (wc := wc) hD hS hA isC hC
  intro T hT X
  obtain ⟨v, st₀, t, T', L, h0, X', hL, e1, e2, ⟨ho, hP1, hz, hk1⟩, stp⟩ := hr T hT X
  cases ho
  rw [h0] at hz hk1
  have hD1 : va_D (va_A wc H.size) wc' := ((hD.sub isC hnC hC).self (sz := H.size)).like hfst
  obtain ⟨hP2, hD2⟩ := va_join hP hD isC isR hC hR hnR hdis hk1 hF hP1 hD1
  have hS2 : va_S A H0 t.heap (locs ++ L) := by
    refine ⟨Nat.le_trans hS.1 hz, fun q h1 h2 => ?_, fun q hq => ?_⟩
    · rw [hk1 q (Nat.lt_of_lt_of_le h1 hS.1) (fun h => h2 (hF q h))]
      exact hS.2.1 q h1 h2
    · rcases List.mem_append.mp hq with h | h
      · exact hS.2.2 q h
      · exact hF _ (hL q h)
  have hpf : perm.filterMap (fun i => (wr ++ wc')[i]?) = ws2 := by
    have h3 : (perm.map (fun i => (wr ++ wc')[i]?)).filterMap id = (ws2.map some).filterMap id := by rw [hpm]
    rw [List.filterMap_map, List.filterMap_map] at h3
    simpa using h3
  obtain ⟨t2, a1, b1⟩ := k t.heap (locs ++ L) (hP2.sub perm hpf) (hD2.sub perm hnp hpm) hS2 T' e1 X'
  exact ⟨t2, stp t2 a1, b1⟩
theorem rr_wrV (F : FX p m c cc nL s args own) (hK : KK D cy s) {y : MethodName} {bytes : ByteArray} {maxL d index : Nat} {ret : Option FieldType} {wc wc' wr ws2 : va_W} {o : Option Value} {b : Nat} {As : List Value} (hM : Wr l y bytes maxL ret d (.ref b :: As) D cy wc wc' o) (hP : va_P D vwCl ws H) (hD : va_D A ws) (hS : va_S A H0 H locs) (hA : ∀ q, H0.size ≤ q → A q) (sf : SFV y bytes maxL ret As.length) (hl : Cond.methodLink own index y ∈ lw_G)
    (ci : Nat) {fs : List Value} {T : u_T} {N : Nat} (hq : wc[0]? = some (b, .inr (ci, fs))) (hcl : vwCl[ci]? = some (y.cls, T, N)) (hR : d + 1 ≤ R.frames ∧ 8 + (maxL + 11) + 39 * d ≤ R.locals) {lv : List (Nat × Value)} (hls : lv_has ls nL lv) {st : List Value} (hst : st = As.reverse ++ .ref b :: rest) (hcat : (rest.map fun v => v.category).sum ≤ 8) (hdg : decode cc pc = .ok (.invokevirtual index, 3)) (hc : cells ≤ R.cells ∧ slots ≤ R.slots)
    (isC isR perm : List Nat) (hC : isC.map (fun i => ws[i]?) = wc.map some) (hRr : isR.map (fun i => ws[i]?) = wr.map some) (hnC : va_nd isC = true) (hnR : va_nd isR = true) (hdis : ∀ i ∈ isR, i ∉ isC) (hfst : wc'.map Prod.fst = wc.map Prod.fst) (hpm : perm.map (fun i => (wr ++ wc')[i]?) = ws2.map some) (hnp : va_nd perm = true)
    (k : ∀ (H1 : Heap) (locs1 : List Loc), va_P D vwCl ws2 H1 → va_D A ws2 → va_S A H0 H1 locs1 → W p l e R s m args below meth c H1 locs1 cells slots Q (F0 m (pc + 3) ls (o.toList ++ rest))) : W p l e R s m args below meth c H locs cells slots Q (F0 m pc ls st) := by
  obtain ⟨f1, f2, f3, f4, f5⟩ := sf
  have hts := F.2.2.2.2
  have hPc : va_P D vwCl wc H := hP.sub isC (by
    have h3 : (isC.map (fun i => ws[i]?)).filterMap id = (wc.map some).filterMap id := by rw [hC]
    rw [List.filterMap_map, List.filterMap_map] at h3
    simpa using h3)
  have hDc := hD.sub isC hnC hC
  exact wr_after (va_runV (As := As) (rest := rest) F (hM H.size) ⟨callB_of As.length hts (lw_GC f4) rfl rfl rfl (hts _ f3) (hts _ hl) f5 hR, hts _ f1, hts _ f2⟩ ⟨WD.blind, va_recv hK.1 hPc hcl hq, fun U hU hW => ⟨rfl, by rw [hU], by rw [hU]; exact hPc, hK.warm hW, hDc.weaken (fun _ _ _ _ => trivial)⟩⟩ rfl rfl hls.1 hst (lv_room hcat) hdg hc) hP hD hS hA isC isR perm hC hRr hnC hnR hdis hfst hpm hnp k
theorem rr_wrS (F : FX p m c cc nL s args own) (hK : KK D cy s) {y : MethodName} {bytes : ByteArray} {maxL d index : Nat} {ret : Option FieldType} {wc wc' wr ws2 : va_W} {o : Option Value} {As : List Value} (hM : Wr l y bytes maxL ret d As D cy wc wc' o) (hP : va_P D vwCl ws H) (hD : va_D A ws) (hS : va_S A H0 H locs) (hA : ∀ q, H0.size ≤ q → A q) (sf : SFS y bytes maxL ret As.length) (hl : Cond.methodLink own index y ∈ lw_G)
    (hR : d + 1 ≤ R.frames ∧ 8 + (maxL + 11) + 39 * d ≤ R.locals) {lv : List (Nat × Value)} (hls : lv_has ls nL lv) {st : List Value} (hst : st = As.reverse ++ rest) (hcat : (rest.map fun v => v.category).sum ≤ 8) (hdg : decode cc pc = .ok (.invokestatic index, 3)) (hc : cells ≤ R.cells ∧ slots ≤ R.slots)
    (isC isR perm : List Nat) (hC : isC.map (fun i => ws[i]?) = wc.map some) (hRr : isR.map (fun i => ws[i]?) = wr.map some) (hnC : va_nd isC = true) (hnR : va_nd isR = true) (hdis : ∀ i ∈ isR, i ∉ isC) (hfst : wc'.map Prod.fst = wc.map Prod.fst) (hpm : perm.map (fun i => (wr ++ wc')[i]?) = ws2.map some) (hnp : va_nd perm = true)
    (k : ∀ (H1 : Heap) (locs1 : List Loc), va_P D vwCl ws2 H1 → va_D A ws2 → va_S A H0 H1 locs1 → W p l e R s m args below meth c H1 locs1 cells slots Q (F0 m (pc + 3) ls (o.toList ++ rest))) : W p l e R s m args below meth c H locs cells slots Q (F0 m pc ls st) := by
  obtain ⟨f1, f3, f4, f5⟩ := sf
  have hts := F.2.2.2.2
  have hPc : va_P D vwCl wc H := hP.sub isC (by
    have h3 : (isC.map (fun i => ws[i]?)).filterMap id = (wc.map some).filterMap id := by rw [hC]
    rw [List.filterMap_map, List.filterMap_map] at h3
    simpa using h3)
  have hDc := hD.sub isC hnC hC
  exact wr_after (va_runS (As := As) (rest := rest) F (hM H.size) ⟨callB_of As.length hts (lw_GC f4) rfl rfl rfl (hts _ f3) (hts _ hl) f5 hR, hts _ f1⟩ ⟨WD.blind, fun U hU hW => ⟨rfl, by rw [hU], by rw [hU]; exact hPc, hK.warm hW, hDc.weaken (fun _ _ _ _ => trivial)⟩⟩ rfl rfl hls.1 hst (lv_room hcat) hdg hc) hP hD hS hA isC isR perm hC hRr hnC hnR hdis hfst hpm hnp k
abbrev WQQ (below : List Frame) (args : Array Value) (s : State) (D : va_G) (ws ws' : va_W) (o : Option Value) : State → Prop := MQ below (WQ D ws ws' s.heap.size o) args s 0 0 (va_A ws s.heap.size)
theorem rr_wvret (F : FX p m c cc nL s args own) (hr : meth.sig.returnType = none) (hlocks : meth.locks = false) {ws' w2 : va_W} (hdg : decode cc pc = .ok (.return_, 1)) (hP : va_P D vwCl w2 H) (hS : va_S (va_A ws s.heap.size) s.heap H locs) (hw : w2 = ws') : W p l e R s m args below meth c H locs 0 0 (WQQ below args s D ws ws' none) (F0 m pc ls []) :=
  W.vret F.1 F.2.1 hr (fun t ht _ => ⟨rfl, by rw [ht, ← hw]; exact hP, hS.F ht⟩) hS.2.2 hdg hlocks
theorem rr_wiret (F : FX p m c cc nL s args own) (hr : meth.sig.returnType = some .int) (hlocks : meth.locks = false) {ws' w2 : va_W} {z v : Int} (hdg : decode cc pc = .ok (.ireturn, 1)) (hP : va_P D vwCl w2 H) (hS : va_S (va_A ws s.heap.size) s.heap H locs) (hw : w2 = ws') (hz : z = v) : W p l e R s m args below meth c H locs 0 0 (WQQ below args s D ws ws' (some (vI v))) (F0 m pc ls [vI z]) :=
  W.iret F.1 F.2.1 hr (fun t ht _ => ⟨by rw [hz], by rw [ht, ← hw]; exact hP, hS.F ht⟩) hS.2.2 hdg hlocks
theorem rr_wzret (F : FX p m c cc nL s args own) (hr : meth.sig.returnType = some .boolean) (hlocks : meth.locks = false) {ws' w2 : va_W} {b : Bool} {z v : Int} (hdg : decode cc pc = .ok (.ireturn, 1)) (hP : va_P D vwCl w2 H) (hS : va_S (va_A ws s.heap.size) s.heap H locs) (hw : w2 = ws') (hzb : z = b2i b) (hz : b2i b = v) : W p l e R s m args below meth c H locs 0 0 (WQQ below args s D ws ws' (some (vI v))) (F0 m pc ls [vI z]) :=
  W.zret F.1 F.2.1 hr (by rw [hzb]; exact b2i_bool b) (fun t ht _ => ⟨by rw [hzb, hz], by rw [ht, ← hw]; exact hP, hS.F ht⟩) hS.2.2 hdg hlocks
-- loops that write
theorem rr_loopW1 {A1 : Type} (Inv : A1 → Prop) (mu : A1 → Nat) (lo : A1 → List (Nat × Value)) (wf : A1 → va_W) {st : List Value} (step : ∀ i, Inv i → (∀ j, Inv j → mu j < mu i → ∀ (H : Heap) (locs : List Loc) (ls : Array Slot), va_P D vwCl (wf j) H → va_D A (wf j) → va_S A H0 H locs → lv_has ls nL (lo j) → W p l e R s m args below meth c H locs cells slots Q (F0 m pc ls st)) → ∀ (H : Heap) (locs : List Loc) (ls : Array Slot), va_P D vwCl (wf i) H → va_D A (wf i) → va_S A H0 H locs → lv_has ls nL (lo i) → W p l e R s m args below meth c H locs cells slots Q (F0 m pc ls st)) (i : A1) (h0 : Inv i) {H : Heap} {locs : List Loc} {ls : Array Slot} (hP : va_P D vwCl (wf i) H) (hD : va_D A (wf i)) (hS : va_S A H0 H locs) (hl : lv_has ls nL (lo i)) : W p l e R s m args below meth c H locs cells slots Q (F0 m pc ls st) := by
  have key : ∀ (N : Nat) (i : A1), mu i < N → Inv i → ∀ (H : Heap) (locs : List Loc) (ls : Array Slot), va_P D vwCl (wf i) H → va_D A (wf i) → va_S A H0 H locs → lv_has ls nL (lo i) → W p l e R s m args below meth c H locs cells slots Q (F0 m pc ls st) := by
    intro N
    induction N with
    | zero => intro i h; exact absurd h (Nat.not_lt_zero _)
    | succ N ih => intro i h hi H locs ls h1 h2 h3 hl; exact step i hi (fun j hj hm H locs ls h1 h2 h3 hl => ih j (by omega) hj H locs ls h1 h2 h3 hl) H locs ls h1 h2 h3 hl
  exact key (mu i + 1) i (Nat.lt_succ_self _) h0 H locs ls hP hD hS hl
theorem rr_loopW2 {A1 A2 : Type} (Inv : A1 → A2 → Prop) (mu : A1 → A2 → Nat) (lo : A1 → A2 → List (Nat × Value)) (wf : A1 → A2 → va_W) {st : List Value} (step : ∀ i x, Inv i x → (∀ j y, Inv j y → mu j y < mu i x → ∀ (H : Heap) (locs : List Loc) (ls : Array Slot), va_P D vwCl (wf j y) H → va_D A (wf j y) → va_S A H0 H locs → lv_has ls nL (lo j y) → W p l e R s m args below meth c H locs cells slots Q (F0 m pc ls st)) → ∀ (H : Heap) (locs : List Loc) (ls : Array Slot), va_P D vwCl (wf i x) H → va_D A (wf i x) → va_S A H0 H locs → lv_has ls nL (lo i x) → W p l e R s m args below meth c H locs cells slots Q (F0 m pc ls st)) (i : A1) (x : A2) (h0 : Inv i x) {H : Heap} {locs : List Loc} {ls : Array Slot} (hP : va_P D vwCl (wf i x) H) (hD : va_D A (wf i x)) (hS : va_S A H0 H locs) (hl : lv_has ls nL (lo i x)) : W p l e R s m args below meth c H locs cells slots Q (F0 m pc ls st) :=
  rr_loopW1 (A1 := A1 × A2) (fun q => Inv q.1 q.2) (fun q => mu q.1 q.2) (fun q => lo q.1 q.2) (fun q => wf q.1 q.2) (fun q hq ih H locs ls h1 h2 h3 hl => step q.1 q.2 hq (fun j y g1 g2 H locs ls h1 h2 h3 hl => ih (j, y) g1 g2 H locs ls h1 h2 h3 hl) H locs ls h1 h2 h3 hl) (i, x) h0 hP hD hS hl
end B06
theorem Wr.of {l : Launch} {y : MethodName} {cc : ByteArray} {maxL : Nat} {ret : Option FieldType} {d : Nat} {ar : List Value} {D : va_G} {cy : Nat → ClassId} {ws ws' : va_W} {o : Option Value} (own : String) (hown : own = y.cls) (lv : List (Nat × Value)) (hlv : lv_args 0 ar = lv) (hpn : plainName y.cls = true) (hfit : (lg_sl ar).length ≤ maxL)
    (body : ∀ (p : Program) (e : Env) (s : State) (m : MethodId) (args : Array Value) (below : List Frame) (meth : Method) (c : Code), FX p m c cc maxL s args own → meth.sig.returnType = ret → meth.locks = false → KK D cy s → va_P D vwCl ws s.heap → va_D (va_A ws s.heap.size) ws → va_S (va_A ws s.heap.size) s.heap s.heap [] → (∀ q : Nat, s.heap.size ≤ q → va_A ws s.heap.size q) → ∀ ls : Array Slot, lv_has ls maxL lv → W p l e (rmD d) s m args below meth c s.heap [] 0 0 (WQQ below args s D ws ws' o) (F0 m 0 ls [])) : Wr l y cc maxL ret d ar D cy ws ws' o := by
  intro sz
  refine Met.ofW (cc := cc) (maxL := maxL) (ret := ret) hpn rfl ?_
  intro p e s m args below meth c s₁ B hml hv
  obtain ⟨rfl, hsz, hP, hK, hD⟩ := hv
  have hts := atoms_spec (ws := Cond.code y cc maxL ret :: lw_G) B.pre
  have ho : s.vm.findClass y.cls = some m.cls := findClass_of_methodNamed B.named
  have hl := lv_entry ar hfit
  rw [lg_entry_eq]
  subst hlv hown hsz
  exact body p e s m _ below meth c ⟨B.exec, B.bytes, hml, ho, fun w h => hts w (List.mem_cons_of_mem _ h)⟩ B.returns B.notSynchronized hK hP hD.self va_S.rf (fun q h => Or.inr h) _ hl
