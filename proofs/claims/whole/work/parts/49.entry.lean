-- the law's entry: what the tables and the Statement's start give
theorem KK_of {args : Array Value} {s : State} (h : ∀ w ∈ lw_tbl, w.before args s = true) : ∃ (D : va_G) (cy : Nat → ClassId), KK D cy s := by
  have hg : ∀ w ∈ lw_G, w.before args s = true := fun w hw => h w (lw_Gin w hw)
  obtain ⟨c0, i0, k0⟩ := u_known (N := 3) hg inX0 (hg _ nfX0.2.2.1)
  obtain ⟨c1, i1, k1⟩ := u_known (N := 3) hg inX1 (hg _ nfX1.2.2.1)
  obtain ⟨c2, i2, k2⟩ := u_known (N := 2) hg inX2 (hg _ nfX2.2.2.1)
  obtain ⟨c3, i3, k3⟩ := u_known (N := 5) hg inX3 (hg _ nfX3.2.2.1)
  obtain ⟨c4, i4, k4⟩ := u_known (N := 2) hg inX4 (hg _ nfX4.2.2.1)
  obtain ⟨c5, i5, k5⟩ := u_known (N := 5) hg inX5 (hg _ nfX5.2.2.1)
  obtain ⟨c6, i6, k6⟩ := u_known (N := 6) hg inX6 (hg _ nfX6.2.2.1)
  obtain ⟨c7, i7, k7⟩ := u_known (N := 9) hg inX7 (hg _ nfX7.2.2.1)
  obtain ⟨a0, ka0, m0, f0, e0, g0⟩ := Cond.arrayClass_spec (hg _ tw43)
  obtain ⟨a1, ka1, m1, f1, e1, g1⟩ := Cond.arrayClass_spec (hg _ tw84)
  obtain ⟨a2, ka2, m2, f2, e2, g2⟩ := Cond.arrayClass_spec (hg _ tw176)
  obtain ⟨a5, ka5, m5, f5, e5, g5⟩ := Cond.arrayClass_spec (hg _ tw1253)
  obtain ⟨m3, a3, ka3, p3, -, q3, r3, t3⟩ := Cond.arrayOver_spec (h (.arrayOver (.object RX3)) (by decide +kernel))
  obtain ⟨m4, a4, ka4, p4, -, q4, r4, t4⟩ := Cond.arrayOver_spec (h (.arrayOver (.object RX5)) (by decide +kernel))
  refine ⟨(fun k => [c0, c1, c2, c3, c4, c5, c6, c7].getD k 0, fun k => [i0, i1, i2, i3, i4, i5, i6, i7].getD k (fun _ => 0)), fun k => [a0, a1, a2, a3, a4, a5].getD k 0, ⟨fun c q hq => ?_, fun k q hq => ?_⟩, fun w hw => va_Nw.of (lw_N_on w hw) (h w (lw_Nin w hw))⟩
  · have hc : c < 8 := (List.getElem?_eq_some_iff.mp hq).1
    rcases (show c = 0 ∨ c = 1 ∨ c = 2 ∨ c = 3 ∨ c = 4 ∨ c = 5 ∨ c = 6 ∨ c = 7 by omega) with rfl | rfl | rfl | rfl | rfl | rfl | rfl | rfl <;> cases hq
    · exact k0
    · exact k1
    · exact k2
    · exact k3
    · exact k4
    · exact k5
    · exact k6
    · exact k7
  · have hc : k < 6 := (List.getElem?_eq_some_iff.mp hq).1
    rcases (show k = 0 ∨ k = 1 ∨ k = 2 ∨ k = 3 ∨ k = 4 ∨ k = 5 by omega) with rfl | rfl | rfl | rfl | rfl | rfl <;> cases hq
    · exact ⟨fun n z => ⟨(fun k h => by cases h), ka0, e0, m0, g0⟩, f0⟩
    · exact ⟨fun n z => ⟨(fun k h => by cases h), ka1, e1, m1, g1⟩, f1⟩
    · exact ⟨fun n z => ⟨(fun k h => by cases h), ka2, e2, m2, g2⟩, f2⟩
    · exact ⟨fun n z => ⟨(fun k h => by cases h), ka3, q3, m3, r3⟩, ka3, m3, q3, r3, p3, t3⟩
    · exact ⟨fun n z => ⟨(fun k h => by cases h), ka4, q4, m4, r4⟩, ka4, m4, q4, r4, p4, t4⟩
    · exact ⟨fun n z => ⟨(fun k h => by cases h), ka5, e5, m5, g5⟩, f5⟩
theorem AOK_of {args : Array Value} {s : State} (h : ∀ w ∈ lw_tbl, w.before args s = true) : AOK s :=
  ⟨va_AO.of (h (.arrayOver (.object RX3)) (by decide +kernel)), va_AO.of (h (.arrayOver (.object RX5)) (by decide +kernel))⟩
theorem XK_of {args : Array Value} {s : State} (h : ∀ w ∈ lw_tbl, w.before args s = true) (hf : ∀ c ∈ flatC narrow_1, c.before args s = true) : ∃ sa : Nat → Nat, XK sa s := by
  have hex : ∀ q ∈ lw_S, (Cond.exactly (.string RX6 q.1) "java/lang/String").before args s = true := by
    intro q hq
    have h2 : ∀ q ∈ lw_S, (Cond.exactly (.string RX6 q.1) "java/lang/String") ∈ flatC narrow_1 := by decide +kernel
    exact hf _ (h2 q hq)
  have hst : ∀ q ∈ lw_S, (Cond.stringRef RX6 q.1 q.2) ∈ lw_tbl := by decide +kernel
  have hev : ∀ k : Nat, ∃ a : Nat, ∀ q ∈ lw_S, q.1 = k → (Term.string RX6 k).eval args s none [] s = some (.ref a) := by
    intro k
    by_cases hk : ∃ q ∈ lw_S, q.1 = k
    · obtain ⟨q, hq, rfl⟩ := hk
      obtain ⟨a, _, _, _, e, -⟩ := Cond.exactly_spec (hex q hq)
      exact ⟨a, fun _ _ _ => e⟩
    · exact ⟨0, fun q hq e => absurd ⟨q, hq, e⟩ hk⟩
  obtain ⟨sa, hsa⟩ := Classical.axiomOfChoice hev
  refine ⟨sa, fun w hw => va_Nw.of (lw_Et hw) (h w (List.mem_filter.mp hw).1), fun q hq => vk_R.of (h _ (hst q hq)) (hsa q.1 q hq rfl), fun q hq => ?_⟩
  have h3 : ∀ q ∈ lw_C, (Cond.not (.castable q.1 q.2)) ∈ flatC narrow_1 := by decide +kernel
  exact va_Nc.of (hf _ (h3 q hq))
theorem ZK_of {args : Array Value} {s : State} (h : ∀ w ∈ lw_tbl, w.before args s = true) (hf : ∀ c ∈ flatC narrow_1, c.before args s = true) : ZK (fun q => s.heap.size ≤ q) s s.heap := by
  exact ⟨vx_Zqof (args := args) (h _ (by decide +kernel)) (h _ (by decide +kernel)) (hf _ (by decide +kernel)) (fun a ha => Nat.not_le.mpr ha), vx_Zqof (args := args) (h _ (by decide +kernel)) (h _ (by decide +kernel)) (hf _ (by decide +kernel)) (fun a ha => Nat.not_le.mpr ha)⟩
