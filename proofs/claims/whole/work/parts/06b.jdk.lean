-- the JDK's own members that the class calls
theorem jd_max : Cond.static Lib.Math.max.name ∈ lw_G ∧ Cond.initialized "java/lang/Math" ∈ lw_G ∧ Cond.code Lib.Math.max.name Lib.Math.max.code 2 (some .int) ∈ lw_G := ⟨tw232, tw15, tw233⟩
theorem jd_min : Cond.static Lib.Math.min.name ∈ lw_G ∧ Cond.initialized "java/lang/Math" ∈ lw_G ∧ Cond.code Lib.Math.min.name Lib.Math.min.code 2 (some .int) ∈ lw_G := ⟨tw567, tw15, tw568⟩
section B06b
variable {p : Program} {l : Launch} {e : Env} {R : Room} {s : State} {m : MethodId} {args : Array Value} {below : List Frame} {meth : Method} {c : Code} {H : Heap} {locs : List Loc} {cells slots : Nat} {Q : State → Prop}
variable {cc : ByteArray} {pc : Nat} {ls : Array Slot} {rest : List Value} {nL : Nat} {own : String}
theorem rr_mmax (F : FX p m c cc nL s args own) {index : Nat} {lv : List (Nat × Value)} (hls : lv_has ls nL lv) (hl : Cond.methodLink own index Lib.Math.max.name ∈ lw_G) (hf : 1 ≤ R.frames) (hlo : (rest.map fun v => v.category).sum + 13 ≤ R.locals) (hc : cells ≤ R.cells ∧ slots ≤ R.slots) {a b z : Int} (ha : inR a) (hb : inR b) (hdg : decode cc pc = .ok (.invokestatic index, 3)) (hz : (if a < b then b else a) = z) (k : W p l e R s m args below meth c H locs cells slots Q (F0 m (pc + 3) ls (vI z :: rest))) : W p l e R s m args below meth c H locs cells slots Q (F0 m pc ls (vI b :: vI a :: rest)) := by
  have ht := F.2.2.2.2
  refine va_mmax F.1 F.2.1 (F.2.2.1.trans hls.1.symm) F.2.2.2.1 (ht _ hl) (ht _ jd_max.1) (ht _ jd_max.2.1) (ht _ jd_max.2.2) hf hlo hc.1 hc.2 hdg ?_
  have e : (if iI a < iI b then iI b else iI a) = iI z := by
    rw [← hz]
    by_cases h : a < b
    · rw [if_pos h, if_pos ((iI_lt ha hb).mpr h)]
    · rw [if_neg h, if_neg (fun q => h ((iI_lt ha hb).mp q))]
  rw [e]; exact k
theorem rr_mmin (F : FX p m c cc nL s args own) {index : Nat} {lv : List (Nat × Value)} (hls : lv_has ls nL lv) (hl : Cond.methodLink own index Lib.Math.min.name ∈ lw_G) (hf : 1 ≤ R.frames) (hlo : (rest.map fun v => v.category).sum + 13 ≤ R.locals) (hc : cells ≤ R.cells ∧ slots ≤ R.slots) {a b z : Int} (ha : inR a) (hb : inR b) (hdg : decode cc pc = .ok (.invokestatic index, 3)) (hz : (if b < a then b else a) = z) (k : W p l e R s m args below meth c H locs cells slots Q (F0 m (pc + 3) ls (vI z :: rest))) : W p l e R s m args below meth c H locs cells slots Q (F0 m pc ls (vI b :: vI a :: rest)) := by
  have ht := F.2.2.2.2
  refine va_mmin F.1 F.2.1 (F.2.2.1.trans hls.1.symm) F.2.2.2.1 (ht _ hl) (ht _ jd_min.1) (ht _ jd_min.2.1) (ht _ jd_min.2.2) hf hlo hc.1 hc.2 hdg ?_
  have e : (if iI b < iI a then iI b else iI a) = iI z := by
    rw [← hz]
    by_cases h : b < a
    · rw [if_pos h, if_pos ((iI_lt hb ha).mpr h)]
    · rw [if_neg h, if_neg (fun q => h ((iI_lt hb ha).mp q))]
  rw [e]; exact k
end B06b
