-- worlds up to the order of their cells, and calls over them
theorem va_P_iff {D : va_G} {cl : List vw_C} {ws : va_W} {H : Heap} : va_P D cl ws H ↔ ∀ q ∈ ws, va_at D cl q H :=
  ⟨fun h q hq => by obtain ⟨k, hk⟩ := List.mem_iff_getElem?.mp hq; exact h k q hk, fun h k q hk => h q (List.mem_iff_getElem?.mpr ⟨k, hk⟩)⟩
theorem va_D_iff {A : Nat → Prop} {ws : va_W} : va_D A ws ↔ (ws.map Prod.fst).Nodup ∧ ∀ q ∈ ws, A q.1 := by
  constructor
  · intro h
    refine ⟨?_, fun q hq => by obtain ⟨k, hk⟩ := List.mem_iff_getElem?.mp hq; exact h.2 k q hk⟩
    refine List.pairwise_iff_getElem.mpr fun i j hi hj hij he => ?_
    rw [List.getElem_map, List.getElem_map] at he
    rw [List.length_map] at hi hj
    have h3 := h.1 i j _ _ (List.getElem?_eq_getElem hi) (List.getElem?_eq_getElem hj) he
    omega
  · intro h
    refine ⟨fun i j x y hx hy hxy => ?_, fun k q hk => h.2 q (List.mem_iff_getElem?.mpr ⟨k, hk⟩)⟩
    have hn := List.pairwise_iff_getElem.mp h.1
    obtain ⟨li, ei⟩ := List.getElem?_eq_some_iff.mp hx
    obtain ⟨lj, ej⟩ := List.getElem?_eq_some_iff.mp hy
    rcases Nat.lt_trichotomy i j with z | z | z
    · exact absurd (by rw [List.getElem_map, List.getElem_map, ei, ej, hxy]) (hn i j (by rw [List.length_map]; exact li) (by rw [List.length_map]; exact lj) z)
    · exact z
    · exact absurd (by rw [List.getElem_map, List.getElem_map, ei, ej, hxy]) (hn j i (by rw [List.length_map]; exact lj) (by rw [List.length_map]; exact li) z)
theorem va_P.perm {D : va_G} {cl : List vw_C} {ws w2 : va_W} {H : Heap} (hp : ws.Perm w2) (h : va_P D cl ws H) : va_P D cl w2 H :=
  va_P_iff.mpr fun q hq => va_P_iff.mp h q (hp.mem_iff.mpr hq)
theorem va_D.perm {A : Nat → Prop} {ws w2 : va_W} (hp : ws.Perm w2) (h : va_D A ws) : va_D A w2 := by
  have h2 := va_D_iff.mp h
  exact va_D_iff.mpr ⟨(hp.map Prod.fst).nodup_iff.mp h2.1, fun q hq => h2.2 q (hp.mem_iff.mpr hq)⟩
theorem va_P.left {D : va_G} {cl : List vw_C} {a b : va_W} {H : Heap} (h : va_P D cl (a ++ b) H) : va_P D cl a H := va_P_iff.mpr fun q hq => va_P_iff.mp h q (List.mem_append_left _ hq)
theorem va_P.right {D : va_G} {cl : List vw_C} {a b : va_W} {H : Heap} (h : va_P D cl (a ++ b) H) : va_P D cl b H := va_P_iff.mpr fun q hq => va_P_iff.mp h q (List.mem_append_right _ hq)
theorem va_D.left {A : Nat → Prop} {a b : va_W} (h : va_D A (a ++ b)) : va_D A a := by
  have h2 := va_D_iff.mp h
  rw [List.map_append, List.nodup_append] at h2
  exact va_D_iff.mpr ⟨h2.1.1, fun q hq => h2.2 q (List.mem_append_left _ hq)⟩
theorem va_A_mem {wc : va_W} {sz q : Nat} : va_A wc sz q ↔ q ∈ wc.map Prod.fst ∨ sz ≤ q := by
  constructor
  · rintro (⟨k, e, h⟩ | h)
    · exact Or.inl (List.mem_map.mpr ⟨(q, e), List.mem_iff_getElem?.mpr ⟨k, h⟩, rfl⟩)
    · exact Or.inr h
  · rintro (h | h)
    · obtain ⟨⟨a, e⟩, h1, rfl⟩ := List.mem_map.mp h
      obtain ⟨k, hk⟩ := List.mem_iff_getElem?.mp h1
      exact Or.inl ⟨k, e, hk⟩
    · exact Or.inr h
/-- behind a call that had wc: what it left, and the rest -/
theorem va_joinp {A : Nat → Prop} {D : va_G} {cl : List vw_C} {ws wc wr w1 : va_W} {H H1 : Heap} (hp : ws.Perm (wc ++ wr)) (hP : va_P D cl ws H) (hD : va_D A ws) (hk : ∀ q : Nat, q < H.size → ¬ va_A wc H.size q → H1[q]? = H[q]?) (hF : ∀ q, va_A wc H.size q → A q) (hP1 : va_P D cl w1 H1) (hD1 : va_D (va_A wc H.size) w1) : va_P D cl (w1 ++ wr) H1 ∧ va_D A (w1 ++ wr) := by
  have hP2 := hP.perm hp
  have hD2 := va_D_iff.mp (hD.perm hp)
  rw [List.map_append, List.nodup_append] at hD2
  obtain ⟨⟨n1, n2, n3⟩, hA⟩ := hD2
  have lt : ∀ q ∈ wr, q.1 < H.size := fun q hq => by
    obtain ⟨k, hk⟩ := List.mem_iff_getElem?.mp (List.mem_append_right wc hq)
    exact (hP2 k q hk).lt
  have no : ∀ q ∈ wr, ¬ va_A wc H.size q.1 := fun q hq h => by
    rcases va_A_mem.mp h with h | h
    · exact n3 _ h _ (List.mem_map.mpr ⟨q, hq, rfl⟩) rfl
    · exact absurd (lt q hq) (Nat.not_lt.mpr h)
  have hd1 := va_D_iff.mp hD1
  refine ⟨va_P_iff.mpr fun q hq => ?_, va_D_iff.mpr ⟨?_, fun q hq => ?_⟩⟩
  · rcases List.mem_append.mp hq with h | h
    · exact va_P_iff.mp hP1 q h
    · exact (va_P_iff.mp hP2 q (List.mem_append_right _ h)).kept (hk q.1 (lt q h) (no q h))
  · rw [List.map_append, List.nodup_append]
    refine ⟨hd1.1, n2, fun a ha b hb hab => ?_⟩
    obtain ⟨x, hx, rfl⟩ := List.mem_map.mp ha
    obtain ⟨y, hy, rfl⟩ := List.mem_map.mp hb
    exact no y hy (hab ▸ hd1.2 x hx)
  · rcases List.mem_append.mp hq with h | h
    · exact hF _ (hd1.2 q h)
    · exact hA q (List.mem_append_right _ h)
theorem va_freep {A : Nat → Prop} {ws wc wr : va_W} {H0 H : Heap} {locs : List Loc} (hp : ws.Perm (wc ++ wr)) (hD : va_D A ws) (hS : va_S A H0 H locs) (hA : ∀ q, H0.size ≤ q → A q) : ∀ q, va_A wc H.size q → A q := by
  intro q h
  rcases va_A_mem.mp h with h | h
  · obtain ⟨x, hx, rfl⟩ := List.mem_map.mp h
    exact (va_D_iff.mp (hD.perm hp)).2 x (List.mem_append_left _ hx)
  · exact hA q (Nat.le_trans hS.1 h)
theorem va_P.moved' {D : va_G} {cl : List vw_C} {ws : va_W} {H H1 : Heap} (h : va_P D cl ws H) (hk : ∀ q : Nat, q < H.size → H1[q]? = H[q]?) : va_P D cl ws H1 := va_P_iff.mpr fun q hq => (va_P_iff.mp h q hq).kept (hk q.1 (va_P_iff.mp h q hq).lt)
/-- two sums of the same blocks -/
theorem perm_ct {α : Type} {l1 l2 : List α} (h : ∀ (c : List α → Nat), (∀ a b, c (a ++ b) = c a + c b) → c l1 = c l2) : l1.Perm l2 := by
  classical
  rw [List.perm_iff_count]
  intro a
  exact h (List.count a) (fun x y => List.count_append)
section B46
variable {p : Program} {l : Launch} {e : Env} {R : Room} {s : State} {m : MethodId} {args : Array Value} {below : List Frame} {meth : Method} {c : Code} {H : Heap} {locs : List Loc} {cells slots : Nat} {Q : State → Prop}
variable {cc : ByteArray} {pc : Nat} {ls : Array Slot} {rest : List Value} {nL : Nat} {own : String} {D : va_G} {cy : Nat → ClassId} {ws : va_W} {A : Nat → Prop} {H0 : Heap} {sa : Nat → Nat}
theorem wr_afterp {wc wc' wr : va_W} {o : Option Value} {st0 : List Value} {a : Array Value} (hr : va_Run p l e R s m args below meth c H locs cells slots 0 0 (F0 m pc ls st0) rest (WQ D wc wc' H.size o a) (va_A wc H.size)) (hP : va_P D vwCl ws H) (hD : va_D A ws) (hS : va_S A H0 H locs) (hA : ∀ q, H0.size ≤ q → A q)
    (hp : ws.Perm (wc ++ wr)) (hfst : wc'.map Prod.fst = wc.map Prod.fst)
    (k : ∀ (H1 : Heap) (locs1 : List Loc), va_P D vwCl (wc' ++ wr) H1 → va_D A (wc' ++ wr) → va_S A H0 H1 locs1 → (∀ q, q < H.size → ¬ A q → H1[q]? = H[q]?) → W p l e R s m args below meth c H1 locs1 cells slots Q (F0 m (pc + 3) ls (o.toList ++ rest))) : W p l e R s m args below meth c H locs cells slots Q (F0 m pc ls st0) := by
  have hF := va_freep hp hD hS hA
  intro T hT X
  obtain ⟨v, st₀, t, T', L, h0, X', hL, e1, e2, ⟨ho, hP1, hz, hk1⟩, stp⟩ := hr T hT X
  cases ho
  rw [h0] at hz hk1
  have hD1 : va_D (va_A wc H.size) wc' := ((hD.perm hp).left.self (sz := H.size)).like hfst
  obtain ⟨hP2, hD2⟩ := va_joinp hp hP hD hk1 hF hP1 hD1
  have hS2 : va_S A H0 t.heap (locs ++ L) := by
    refine ⟨Nat.le_trans hS.1 hz, fun q h1 h2 => ?_, fun q hq => ?_⟩
    · rw [hk1 q (Nat.lt_of_lt_of_le h1 hS.1) (fun h => h2 (hF q h))]
      exact hS.2.1 q h1 h2
    · rcases List.mem_append.mp hq with h | h
      · exact hS.2.2 q h
      · exact hF _ (hL q h)
  obtain ⟨t2, a1, b1⟩ := k t.heap (locs ++ L) hP2 hD2 hS2 (fun q h1 h2 => hk1 q h1 (fun z => h2 (hF q z))) T' e1 X'
  exact ⟨t2, stp t2 a1, b1⟩
/-- a writer's call, virtual -/
theorem rr_wrVp (F : FX p m c cc nL s args own) (hK : KK D cy s) {y : MethodName} {bytes : ByteArray} {maxL d index : Nat} {ret : Option FieldType} {wc wc' wr : va_W} {o : Option Value} {b : Nat} {As : List Value} (hM : Wr l y bytes maxL ret d (.ref b :: As) D cy wc wc' o) (hP : va_P D vwCl ws H) (hD : va_D A ws) (hS : va_S A H0 H locs) (hA : ∀ q, H0.size ≤ q → A q) (sf : SFV y bytes maxL ret As.length) (hl : Cond.methodLink own index y ∈ lw_G)
    (ci : Nat) {fs : List Value} {T : u_T} {N : Nat} (hq : wc[0]? = some (b, .inr (ci, fs))) (hcl : vwCl[ci]? = some (y.cls, T, N)) (hR : d + 1 ≤ R.frames ∧ 8 + (maxL + 11) + 39 * d ≤ R.locals) {lv : List (Nat × Value)} (hls : lv_has ls nL lv) {st : List Value} (hst : st = As.reverse ++ .ref b :: rest) (hcat : (rest.map fun v => v.category).sum ≤ 8) (hdg : decode cc pc = .ok (.invokevirtual index, 3)) (hc : cells ≤ R.cells ∧ slots ≤ R.slots)
    (hp : ws.Perm (wc ++ wr)) (hfst : wc'.map Prod.fst = wc.map Prod.fst)
    (k : ∀ (H1 : Heap) (locs1 : List Loc), va_P D vwCl (wc' ++ wr) H1 → va_D A (wc' ++ wr) → va_S A H0 H1 locs1 → (∀ q, q < H.size → ¬ A q → H1[q]? = H[q]?) → W p l e R s m args below meth c H1 locs1 cells slots Q (F0 m (pc + 3) ls (o.toList ++ rest))) : W p l e R s m args below meth c H locs cells slots Q (F0 m pc ls st) := by
  obtain ⟨f1, f2, f3, f4, f5⟩ := sf
  have hts := F.2.2.2.2
  have hPc : va_P D vwCl wc H := (hP.perm hp).left
  have hDc := (hD.perm hp).left
  exact wr_afterp (va_runV (As := As) (rest := rest) F (hM H.size) ⟨callB_of As.length hts (lw_GC f4) rfl rfl rfl (hts _ f3) (hts _ hl) f5 hR, hts _ f1, hts _ f2⟩ ⟨WD.blind, va_recv hK.1 hPc hcl hq, fun U hU hW => ⟨rfl, by rw [hU], by rw [hU]; exact hPc, hK.warm hW, hDc.weaken (fun _ _ _ _ => trivial)⟩⟩ rfl rfl hls.1 hst (lv_room hcat) hdg hc) hP hD hS hA hp hfst k
/-- the law's callers: static, with tables -/
def SFW (y : MethodName) (bytes : ByteArray) (maxL : Nat) (ret : Option FieldType) (hh : List (Nat × Nat × Nat × Nat)) (n : Nat) : Prop := Cond.static y ∈ lw_G ∧ Cond.initialized y.cls ∈ lw_G ∧ Cond.codeWith y bytes maxL ret hh ∈ lw_G ∧ (y.cls ≠ "java/lang/invoke/MethodHandle" ∧ y.cls ≠ "java/lang/invoke/VarHandle" ∧ (parseMethodDescriptor y.desc).map (fun d => d.parameters.length) = some n)
theorem lw_GCW {y : MethodName} {b : ByteArray} {n : Nat} {r : Option FieldType} {hh : List (Nat × Nat × Nat × Nat)} (h : Cond.codeWith y b n r hh ∈ lw_G) : GoodIn lw_G (Cond.codeWith y b n r hh :: lw_G) := fun w hw => (List.mem_cons.mp hw).elim (fun e => by rw [e]; exact lw_GG _ h) (fun h2 => lw_GG _ h2)
theorem csw_of {y : MethodName} {bytes : ByteArray} {maxL index : Nat} {ret : Option FieldType} {hh : List (Nat × Nat × Nat × Nat)} {n : Nat} (hts : ∀ w ∈ lw_G, w.before args s = true) (sf : SFW y bytes maxL ret hh n) (hl : Cond.methodLink own index y ∈ lw_G) (rm : Room) (hR : rm.frames + 1 ≤ R.frames ∧ 8 + (maxL + 11) + rm.locals ≤ R.locals) : vx_CSW R s args own index y bytes maxL ret hh (Cond.codeWith y bytes maxL ret hh :: lw_G) rm rm.cells rm.slots n := by
  obtain ⟨f1, f3, f4, f5⟩ := sf
  refine ⟨⟨rfl, rfl, hR.1, hR.2, pay_in hts (lw_GCW f4), List.mem_cons_self⟩, hts _ f4, hts _ f3, ⟨f5.1, f5.2.1⟩, fun sig h => ?_, hts _ hl, hts _ f1⟩
  have h2 := f5.2.2
  rw [h] at h2
  exact (Option.some.inj h2).symm
theorem rr_wwS (F : FX p m c cc nL s args own) (hK : KK D cy s) {y : MethodName} {bytes : ByteArray} {maxL d index : Nat} {ret : Option FieldType} {hh : List (Nat × Nat × Nat × Nat)} {wc wc' wr : va_W} {o : Option Value} {As : List Value} (hM : Ww l y bytes maxL ret hh d As D cy wc wc' o) (hP : va_P D vwCl ws H) (hD : va_D A ws) (hS : va_S A H0 H locs) (hA : ∀ q, H0.size ≤ q → A q) (sf : SFW y bytes maxL ret hh As.length) (hl : Cond.methodLink own index y ∈ lw_G)
    (hR : d + 1 ≤ R.frames ∧ 8 + (maxL + 11) + 39 * d ≤ R.locals) {lv : List (Nat × Value)} (hls : lv_has ls nL lv) {st : List Value} (hst : st = As.reverse ++ rest) (hcat : (rest.map fun v => v.category).sum ≤ 8) (hdg : decode cc pc = .ok (.invokestatic index, 3)) (hc : cells ≤ R.cells ∧ slots ≤ R.slots)
    (hp : ws.Perm (wc ++ wr)) (hfst : wc'.map Prod.fst = wc.map Prod.fst)
    (k : ∀ (H1 : Heap) (locs1 : List Loc), va_P D vwCl (wc' ++ wr) H1 → va_D A (wc' ++ wr) → va_S A H0 H1 locs1 → (∀ q, q < H.size → ¬ A q → H1[q]? = H[q]?) → W p l e R s m args below meth c H1 locs1 cells slots Q (F0 m (pc + 3) ls (o.toList ++ rest))) : W p l e R s m args below meth c H locs cells slots Q (F0 m pc ls st) := by
  have hts := F.2.2.2.2
  have hPc : va_P D vwCl wc H := (hP.perm hp).left
  have hDc := (hD.perm hp).left
  exact wr_afterp (vx_runSW (As := As) (rest := rest) F (hM H.size) (csw_of hts sf hl (rmD d) hR) ⟨WD.blind, fun U hU hW => ⟨rfl, by rw [hU], by rw [hU]; exact hPc, hK.warm hW, hDc.weaken (fun _ _ _ _ => trivial)⟩⟩ rfl rfl hls.1 hst (lv_room hcat) hdg hc) hP hD hS hA hp hfst k
/-- one whose call throws: nothing is changed, one thing is new -/
theorem rr_twS (F : FX p m c cc nL s args own) (hK : KK D cy s) (hX : XK sa s) (hZ : ZK nA s H) {y : MethodName} {bytes : ByteArray} {maxL d index : Nat} {ret : Option FieldType} {hh : List (Nat × Nat × Nat × Nat)} {wc wr : va_W} {r : Int} {As : List Value} (hM : Tw l y bytes maxL ret hh d As D cy sa wc r) (hP : va_P D vwCl ws H) (hS : va_S A H0 H locs) (sf : SFW y bytes maxL ret hh As.length) (hl : Cond.methodLink own index y ∈ lw_G)
    (hR : d + 1 ≤ R.frames ∧ 8 + (maxL + 11) + 39 * d ≤ R.locals) {lv : List (Nat × Value)} (hls : lv_has ls nL lv) {st : List Value} (hst : st = As.reverse ++ rest) (hcat : (rest.map fun v => v.category).sum ≤ 8) (hdg : decode cc pc = .ok (.invokestatic index, 3)) (hc : cells + 1 ≤ R.cells ∧ slots + 6 ≤ R.slots)
    (hp : ws.Perm (wc ++ wr))
    (k : ∀ (H1 : Heap) (locs1 : List Loc), va_P D vwCl ws H1 → va_S A H0 H1 locs1 → (∀ q, q < H.size → H1[q]? = H[q]?) → W p l e R s m args below meth c H1 locs1 (cells + 1) (slots + 6) Q (F0 m (pc + 3) ls (vI r :: rest))) : W p l e R s m args below meth c H locs cells slots Q (F0 m pc ls st) := by
  have hts := F.2.2.2.2
  have hPc : va_P D vwCl wc H := (hP.perm hp).left
  refine va_calli (A0 := A) (A1 := nA) (vx_runSW (As := As) (rest := rest) F hM (csw_of hts sf hl (rmX d) hR) ⟨TD.blind, fun U hU hW => ⟨rfl, by rw [hU]; exact hPc, hK.warm hW, hX.warm hW, by rw [hU]; exact hZ.moved hW.alike⟩⟩ rfl rfl hls.1 hst (lv_room hcat) hdg hc) hS (fun _ _ h => h.elim) (fun _ h => h.elim) ?_
  intro r' u t H1 locs1 _ _ hr' _ hz hk1 hS1
  rw [hr']
  exact k H1 locs1 (hP.moved' (fun q hq => hk1 q hq (fun h => h))) hS1 (fun q hq => hk1 q hq (fun h => h))
/-- a reader's call, virtual, out of a greater world -/
theorem rr_rdVp (F : FX p m c cc nL s args own) (hK : KK D cy s) {y : MethodName} {bytes : ByteArray} {maxL d index : Nat} {ret : Option FieldType} {wc wr : va_W} {v : Int} {b : Nat} {As : List Value} (hM : Rd l y bytes maxL ret d (.ref b :: As) D cy wc v) (hP : va_P D vwCl ws H) (hp : ws.Perm (wc ++ wr)) (sf : SFV y bytes maxL ret As.length) (hl : Cond.methodLink own index y ∈ lw_G)
    (ci : Nat) {fs : List Value} {T : u_T} {N : Nat} (hq : wc[0]? = some (b, .inr (ci, fs))) (hcl : vwCl[ci]? = some (y.cls, T, N)) (hR : d + 1 ≤ R.frames ∧ 8 + (maxL + 11) + 39 * d ≤ R.locals) {lv : List (Nat × Value)} (hls : lv_has ls nL lv) {st : List Value} (hst : st = As.reverse ++ .ref b :: rest) (hcat : (rest.map fun v => v.category).sum ≤ 8) (hdg : decode cc pc = .ok (.invokevirtual index, 3)) (hc : cells ≤ R.cells ∧ slots ≤ R.slots)
    (k : W p l e R s m args below meth c H locs cells slots Q (F0 m (pc + 3) ls (vI v :: rest))) : W p l e R s m args below meth c H locs cells slots Q (F0 m pc ls st) :=
  rr_rdV F hK hM (hP.perm hp).left sf hl ci hq hcl hR hls hst hcat hdg hc k
end B46
