-- constructors: laid by ctor.py
theorem va_at_rowR {D : va_G} {cl : List vw_C} {a : Nat} {cA : ClassId} {n : Nat} {f g : Nat → Option Nat} {H : Heap} (h : ∀ j : Nat, j < n → f j = g j) (hP : va_at D cl (a, .inl (cA, n, .inr (.inr (.inr (.inr f))))) H) : va_at D cl (a, .inl (cA, n, .inr (.inr (.inr (.inr g))))) H := by
  have e : vp_cell cA (n, .inr (.inr (.inr (.inr f)))) = vp_cell cA (n, .inr (.inr (.inr (.inr g)))) := by
    rw [vp_cell_q, vp_cell_q]
    unfold arrV
    congr 1
    apply Array.ext
    · simp
    · intro i h1 h2
      simp only [Array.getElem_ofFn]
      have hi : i < n := by simpa using h1
      rw [h i hi]
  show H[a]? = some (vp_cell cA (n, .inr (.inr (.inr (.inr g)))))
  rw [← e]
  exact hP
theorem va_P_rowR {D : va_G} {cl : List vw_C} {ws : va_W} {q1 a : Nat} {cA : ClassId} {n : Nat} {f g : Nat → Option Nat} {H : Heap} (h : ∀ j : Nat, j < n → f j = g j) (hP : va_P D cl (ws.set q1 (a, .inl (cA, n, .inr (.inr (.inr (.inr f)))))) H) : va_P D cl (ws.set q1 (a, .inl (cA, n, .inr (.inr (.inr (.inr g)))))) H := by
  intro k q hk
  have h1 := hP k
  rw [List.getElem?_set] at hk h1
  by_cases hq : q1 = k
  · rw [if_pos hq] at hk h1
    by_cases hl : k < ws.length
    · rw [if_pos (by omega)] at hk h1
      cases hk
      exact va_at_rowR h (h1 _ rfl)
    · rw [if_neg (by omega)] at hk
      cases hk
  · rw [if_neg hq] at hk h1
    exact h1 q hk
theorem rr_cvret {p : Program} {l : Launch} {e : Env} {R : Room} {s : State} {m : MethodId} {args : Array Value} {below : List Frame} {meth : Method} {c : Code} {H : Heap} {locs : List Loc} {cells slots : Nat} {cc : ByteArray} {pc : Nat} {ls : Array Slot} {nL : Nat} {own : String} {D : va_G} {w0 : va_W} {b : Nat} {Wn : NU → va_W} (F : FX p m c cc nL s args own) (hr : meth.sig.returnType = none) (hlocks : meth.locks = false) (u : NU) (hu : u 0 0 = b) (hP : va_P D vwCl (Wn u) H) (hD : va_D (va_A w0 s.heap.size) (Wn u)) (hS : va_S (va_A w0 s.heap.size) s.heap H locs) (hdg : decode cc pc = .ok (.return_, 1)) :
    W p l e R s m args below meth c H locs cells slots (MQ below (CQ D w0 s.heap.size b Wn) args s cells slots (va_A w0 s.heap.size)) (F0 m pc ls []) :=
  W.vret F.1 F.2.1 hr (fun t ht _ => ⟨⟨u, rfl, hu, by rw [ht]; exact hP, hD⟩, hS.F ht⟩) hS.2.2 hdg hlocks
abbrev z0 : Int → Int := fun _ => 0
abbrev Z0 : Int → Int → Int := fun _ _ => 0
/-- a state of the class, its cells at v -/
def SBK (cy : Nat → ClassId) (v : Nat → Nat) (a : Int → Int) (G : Int → Int → Int) : va_W := [((v 0), .inr (3, [.ref (v 1), .ref (v 3), .ref (v 6), vI (a 96), vI (a 117)])), ((v 1), .inr (2, [.ref (v 2), vI (a 0)])), ((v 2), .inl (cy 0, 24, .inl (iA (G 0)))), ((v 3), .inr (0, [.ref (v 4), .ref (v 5), vI (a 25)])), ((v 4), .inl (cy 0, 60, .inl (iA (G 6)))), ((v 5), .inl (cy 1, 10, .inl (iA (G 7)))), ((v 6), .inl (cy 4, 4, .inr (.inr (.inr (.inr (rA (fun i => v (7 + Int.toNat i)))))))), ((v (7 + Int.toNat 0)), .inr (5, [vI ((G 1) 0), vI ((G 2) 0), vI ((G 3) 0), vI ((G 4) 0), vI ((G 5) 0)])), ((v (7 + Int.toNat 1)), .inr (5, [vI ((G 1) 1), vI ((G 2) 1), vI ((G 3) 1), vI ((G 4) 1), vI ((G 5) 1)])), ((v (7 + Int.toNat 2)), .inr (5, [vI ((G 1) 2), vI ((G 2) 2), vI ((G 3) 2), vI ((G 4) 2), vI ((G 5) 2)])), ((v (7 + Int.toNat 3)), .inr (5, [vI ((G 1) 3), vI ((G 2) 3), vI ((G 3) 3), vI ((G 4) 3), vI ((G 5) 3)]))]
set_option maxRecDepth 100000 in
set_option maxHeartbeats 4000000 in
theorem c_X5_init (l : Launch) (D : va_G) (cy : Nat → ClassId) (b : Nat) : Cn l yX5_init cX5_init 1 1 0 0 D cy b [(b, .inr (5, [vI 0, vI 0, vI 0, vI 0, vI 0]))] (fun u => [(u 0 0, .inr (5, [vI 0, vI 0, vI 0, vI 0, vI 0]))]) := by
  refine Cn.of RX5 rfl (by decide +kernel) rfl (Nat.le_of_ble_eq_true rfl) ?_
  intro p e s m args below meth c F hr hlocks hin hK hAO hP hD hS hA ls hl
  refine lv_aload_n F.1 F.2.1 dX5_init_0 rfl (lv_at hl 0 rfl) ?_
  refine rr_objInit F tw91 hl dX5_init_1 (Nat.le_of_ble_eq_true rfl) (Nat.le_of_ble_eq_true rfl) ?_
  exact rr_cvret F hr hlocks (fun _ _ => b) rfl (hP.sub [0] rfl) (hD.sub [0] (by decide) rfl) hS dX5_init_4
set_option maxRecDepth 100000 in
set_option maxHeartbeats 4000000 in
theorem c_X2_init (l : Launch) (D : va_G) (cy : Nat → ClassId) (b : Nat) : Cn l yX2_init cX2_init 1 1 1 24 D cy b [(b, .inr (2, [.null, vI 0]))] (fun u => [(u 0 0, .inr (2, [.ref (u 0 1), vI 0])), (u 0 1, .inl (cy 0, 24, .inl (iA (fun _ => 0))))]) := by
  refine Cn.of RX2 rfl (by decide +kernel) rfl (Nat.le_of_ble_eq_true rfl) ?_
  intro p e s m args below meth c F hr hlocks hin hK hAO hP hD hS hA ls hl
  refine lv_aload_n F.1 F.2.1 dX2_init_0 rfl (lv_at hl 0 rfl) ?_
  refine rr_objInit F tw55 hl dX2_init_1 (Nat.le_of_ble_eq_true rfl) (Nat.le_of_ble_eq_true rfl) ?_
  refine lv_aload_n F.1 F.2.1 dX2_init_4 rfl (lv_at hl 0 rfl) ?_
  refine rr_bipush F dX2_init_5 (by decide) ?_
  refine rr_newa F hK hP hD hS hA 0 (ty := FieldType.char) rfl tw43 rfl (n := 24) (a0 := (24, .inl (iA (fun _ => 0)))) (fun _ => rfl) (by decide +kernel) (by decide +kernel) (by decide) ⟨Nat.le_of_ble_eq_true rfl, Nat.le_of_ble_eq_true rfl⟩ dX2_init_7 (fun q1 H hP hD hS => ?_)
  have hP : va_P D vwCl ([(b, .inr (2, [.null, vI 0])), (q1, .inl (cy 0, 24, .inl (iA (fun _ => 0))))]) H := hP
  have hD : va_D _ ([(b, .inr (2, [.null, vI 0])), (q1, .inl (cy 0, 24, .inl (iA (fun _ => 0))))]) := hD
  refine va_putF F.1 F.2.1 F.2.2.2.2 inX2 tyX2 tyX2_ok nmX2 F.2.2.2.1 hK.1 hP hD hS 0 rfl rfl 0 (by decide) (F.2.2.2.2 _ tw56) (fun _ h => h) rfl hin rfl (tyX2_ok 0 (by decide)) rfl rfl (Nat.le_of_ble_eq_true rfl) dX2_init_9 (fun H locs hP hD hS => ?_)
  have hP : va_P D vwCl ([(b, .inr (2, [.ref q1, vI 0])), (q1, .inl (cy 0, 24, .inl (iA (fun _ => 0))))]) H := hP
  have hD : va_D _ ([(b, .inr (2, [.ref q1, vI 0])), (q1, .inl (cy 0, 24, .inl (iA (fun _ => 0))))]) := hD
  exact rr_cvret F hr hlocks (fun _ k => [b, q1].getD k 0) rfl (hP.sub [0, 1] rfl) (hD.sub [0, 1] (by decide) rfl) hS dX2_init_12
set_option maxRecDepth 100000 in
set_option maxHeartbeats 4000000 in
theorem c_X0_init (l : Launch) (D : va_G) (cy : Nat → ClassId) (b : Nat) : Cn l yX0_init cX0_init 1 1 2 70 D cy b [(b, .inr (0, [.null, .null, vI 0]))] (fun u => [(u 0 0, .inr (0, [.ref (u 0 1), .ref (u 0 2), vI 0])), (u 0 1, .inl (cy 0, 60, .inl (iA (fun _ => 0)))), (u 0 2, .inl (cy 1, 10, .inl (iA (fun _ => 0))))]) := by
  refine Cn.of RX0 rfl (by decide +kernel) rfl (Nat.le_of_ble_eq_true rfl) ?_
  intro p e s m args below meth c F hr hlocks hin hK hAO hP hD hS hA ls hl
  refine lv_aload_n F.1 F.2.1 dX0_init_0 rfl (lv_at hl 0 rfl) ?_
  refine rr_objInit F tw72 hl dX0_init_1 (Nat.le_of_ble_eq_true rfl) (Nat.le_of_ble_eq_true rfl) ?_
  refine lv_aload_n F.1 F.2.1 dX0_init_4 rfl (lv_at hl 0 rfl) ?_
  refine rr_bipush F dX0_init_5 (by decide) ?_
  refine rr_newa F hK hP hD hS hA 0 (ty := FieldType.char) rfl tw43 rfl (n := 60) (a0 := (60, .inl (iA (fun _ => 0)))) (fun _ => rfl) (by decide +kernel) (by decide +kernel) (by decide) ⟨Nat.le_of_ble_eq_true rfl, Nat.le_of_ble_eq_true rfl⟩ dX0_init_7 (fun q1 H hP hD hS => ?_)
  have hP : va_P D vwCl ([(b, .inr (0, [.null, .null, vI 0])), (q1, .inl (cy 0, 60, .inl (iA (fun _ => 0))))]) H := hP
  have hD : va_D _ ([(b, .inr (0, [.null, .null, vI 0])), (q1, .inl (cy 0, 60, .inl (iA (fun _ => 0))))]) := hD
  refine va_putF F.1 F.2.1 F.2.2.2.2 inX0 tyX0 tyX0_ok nmX0 F.2.2.2.1 hK.1 hP hD hS 0 rfl rfl 0 (by decide) (F.2.2.2.2 _ tw73) (fun _ h => h) rfl hin rfl (tyX0_ok 0 (by decide)) rfl rfl (Nat.le_of_ble_eq_true rfl) dX0_init_9 (fun H locs hP hD hS => ?_)
  have hP : va_P D vwCl ([(b, .inr (0, [.ref q1, .null, vI 0])), (q1, .inl (cy 0, 60, .inl (iA (fun _ => 0))))]) H := hP
  have hD : va_D _ ([(b, .inr (0, [.ref q1, .null, vI 0])), (q1, .inl (cy 0, 60, .inl (iA (fun _ => 0))))]) := hD
  refine lv_aload_n F.1 F.2.1 dX0_init_12 rfl (lv_at hl 0 rfl) ?_
  refine rr_bipush F dX0_init_13 (by decide) ?_
  refine rr_newa F hK hP hD hS hA 1 (ty := FieldType.int) rfl tw84 rfl (n := 10) (a0 := (10, .inl (iA (fun _ => 0)))) (fun _ => rfl) (by decide +kernel) (by decide +kernel) (by decide) ⟨Nat.le_of_ble_eq_true rfl, Nat.le_of_ble_eq_true rfl⟩ dX0_init_15 (fun q2 H hP hD hS => ?_)
  have hP : va_P D vwCl ([(b, .inr (0, [.ref q1, .null, vI 0])), (q1, .inl (cy 0, 60, .inl (iA (fun _ => 0)))), (q2, .inl (cy 1, 10, .inl (iA (fun _ => 0))))]) H := hP
  have hD : va_D _ ([(b, .inr (0, [.ref q1, .null, vI 0])), (q1, .inl (cy 0, 60, .inl (iA (fun _ => 0)))), (q2, .inl (cy 1, 10, .inl (iA (fun _ => 0))))]) := hD
  refine va_putF F.1 F.2.1 F.2.2.2.2 inX0 tyX0 tyX0_ok nmX0 F.2.2.2.1 hK.1 hP hD hS 0 rfl rfl 1 (by decide) (F.2.2.2.2 _ tw74) (fun _ h => h) rfl hin rfl (tyX0_ok 1 (by decide)) rfl rfl (Nat.le_of_ble_eq_true rfl) dX0_init_17 (fun H locs hP hD hS => ?_)
  have hP : va_P D vwCl ([(b, .inr (0, [.ref q1, .ref q2, vI 0])), (q1, .inl (cy 0, 60, .inl (iA (fun _ => 0)))), (q2, .inl (cy 1, 10, .inl (iA (fun _ => 0))))]) H := hP
  have hD : va_D _ ([(b, .inr (0, [.ref q1, .ref q2, vI 0])), (q1, .inl (cy 0, 60, .inl (iA (fun _ => 0)))), (q2, .inl (cy 1, 10, .inl (iA (fun _ => 0))))]) := hD
  exact rr_cvret F hr hlocks (fun _ k => [b, q1, q2].getD k 0) rfl (hP.sub [0, 1, 2] rfl) (hD.sub [0, 1, 2] (by decide) rfl) hS dX0_init_20
set_option maxRecDepth 100000 in
set_option maxHeartbeats 4000000 in
theorem c_X4_init (l : Launch) (D : va_G) (cy : Nat → ClassId) (b : Nat) : Cn l yX4_init cX4_init 1 1 1 40 D cy b [(b, .inr (4, [.null, vI 0]))] (fun u => [(u 0 0, .inr (4, [.ref (u 0 1), vI 0])), (u 0 1, .inl (cy 0, 40, .inl (iA (fun _ => 0))))]) := by
  refine Cn.of RX4 rfl (by decide +kernel) rfl (Nat.le_of_ble_eq_true rfl) ?_
  intro p e s m args below meth c F hr hlocks hin hK hAO hP hD hS hA ls hl
  refine lv_aload_n F.1 F.2.1 dX4_init_0 rfl (lv_at hl 0 rfl) ?_
  refine rr_objInit F tw31 hl dX4_init_1 (Nat.le_of_ble_eq_true rfl) (Nat.le_of_ble_eq_true rfl) ?_
  refine lv_aload_n F.1 F.2.1 dX4_init_4 rfl (lv_at hl 0 rfl) ?_
  refine rr_bipush F dX4_init_5 (by decide) ?_
  refine rr_newa F hK hP hD hS hA 0 (ty := FieldType.char) rfl tw43 rfl (n := 40) (a0 := (40, .inl (iA (fun _ => 0)))) (fun _ => rfl) (by decide +kernel) (by decide +kernel) (by decide) ⟨Nat.le_of_ble_eq_true rfl, Nat.le_of_ble_eq_true rfl⟩ dX4_init_7 (fun q1 H hP hD hS => ?_)
  have hP : va_P D vwCl ([(b, .inr (4, [.null, vI 0])), (q1, .inl (cy 0, 40, .inl (iA (fun _ => 0))))]) H := hP
  have hD : va_D _ ([(b, .inr (4, [.null, vI 0])), (q1, .inl (cy 0, 40, .inl (iA (fun _ => 0))))]) := hD
  refine va_putF F.1 F.2.1 F.2.2.2.2 inX4 tyX4 tyX4_ok nmX4 F.2.2.2.1 hK.1 hP hD hS 0 rfl rfl 0 (by decide) (F.2.2.2.2 _ tw32) (fun _ h => h) rfl hin rfl (tyX4_ok 0 (by decide)) rfl rfl (Nat.le_of_ble_eq_true rfl) dX4_init_9 (fun H locs hP hD hS => ?_)
  have hP : va_P D vwCl ([(b, .inr (4, [.ref q1, vI 0])), (q1, .inl (cy 0, 40, .inl (iA (fun _ => 0))))]) H := hP
  have hD : va_D _ ([(b, .inr (4, [.ref q1, vI 0])), (q1, .inl (cy 0, 40, .inl (iA (fun _ => 0))))]) := hD
  exact rr_cvret F hr hlocks (fun _ k => [b, q1].getD k 0) rfl (hP.sub [0, 1] rfl) (hD.sub [0, 1] (by decide) rfl) hS dX4_init_12
set_option maxRecDepth 100000 in
set_option maxHeartbeats 4000000 in
theorem c_X3_init (l : Launch) (D : va_G) (cy : Nat → ClassId) (b : Nat) : Cn l yX3_init cX3_init 2 2 10 123 D cy b [(b, .inr (3, [.null, .null, .null, vI 0, vI 0]))] (fun u => SBK cy (u 0) z0 Z0) := by
  refine Cn.of RX3 rfl (by decide +kernel) rfl (Nat.le_of_ble_eq_true rfl) ?_
  intro p e s m args below meth c F hr hlocks hin hK hAO hP hD hS hA ls hl
  refine lv_aload_n F.1 F.2.1 dX3_init_0 rfl (lv_at hl 0 rfl) ?_
  refine rr_objInit F tw49 hl dX3_init_1 (Nat.le_of_ble_eq_true rfl) (Nat.le_of_ble_eq_true rfl) ?_
  refine lv_aload_n F.1 F.2.1 dX3_init_4 rfl (lv_at hl 0 rfl) ?_
  refine rr_mkN F hK hAO hP hD hS hA nfX2 tw50 (fun q => c_X2_init l D cy q) tn52 rfl rfl tw53 tw54 (by decide +kernel) ⟨Nat.le_of_ble_eq_true rfl, Nat.le_of_ble_eq_true rfl⟩ hl (Nat.le_of_ble_eq_true rfl) ⟨Nat.le_of_ble_eq_true rfl, Nat.le_of_ble_eq_true rfl⟩ dX3_init_5 dX3_init_8 dX3_init_9 (fun u1 H locs hP hD hS => ?_)
  have hP : va_P D vwCl ([(u1 0 0, .inr (2, [.ref (u1 0 1), vI 0])), (u1 0 1, .inl (cy 0, 24, .inl (iA (fun _ => 0)))), (b, .inr (3, [.null, .null, .null, vI 0, vI 0]))]) H := hP
  have hD : va_D _ ([(u1 0 0, .inr (2, [.ref (u1 0 1), vI 0])), (u1 0 1, .inl (cy 0, 24, .inl (iA (fun _ => 0)))), (b, .inr (3, [.null, .null, .null, vI 0, vI 0]))]) := hD
  refine va_putF F.1 F.2.1 F.2.2.2.2 inX3 tyX3 tyX3_ok nmX3 F.2.2.2.1 hK.1 hP hD hS 2 rfl rfl 0 (by decide) (F.2.2.2.2 _ tw117) (fun _ h => h) rfl hin rfl (tyX3_ok 0 (by decide)) rfl rfl (Nat.le_of_ble_eq_true rfl) dX3_init_12 (fun H locs hP hD hS => ?_)
  have hP : va_P D vwCl ([(u1 0 0, .inr (2, [.ref (u1 0 1), vI 0])), (u1 0 1, .inl (cy 0, 24, .inl (iA (fun _ => 0)))), (b, .inr (3, [.ref (u1 0 0), .null, .null, vI 0, vI 0]))]) H := hP
  have hD : va_D _ ([(u1 0 0, .inr (2, [.ref (u1 0 1), vI 0])), (u1 0 1, .inl (cy 0, 24, .inl (iA (fun _ => 0)))), (b, .inr (3, [.ref (u1 0 0), .null, .null, vI 0, vI 0]))]) := hD
  refine lv_aload_n F.1 F.2.1 dX3_init_15 rfl (lv_at hl 0 rfl) ?_
  refine rr_mkN F hK hAO hP hD hS hA nfX0 tw67 (fun q => c_X0_init l D cy q) tn69 rfl rfl tw70 tw71 (by decide +kernel) ⟨Nat.le_of_ble_eq_true rfl, Nat.le_of_ble_eq_true rfl⟩ hl (Nat.le_of_ble_eq_true rfl) ⟨Nat.le_of_ble_eq_true rfl, Nat.le_of_ble_eq_true rfl⟩ dX3_init_16 dX3_init_19 dX3_init_20 (fun u2 H locs hP hD hS => ?_)
  have hP : va_P D vwCl ([(u2 0 0, .inr (0, [.ref (u2 0 1), .ref (u2 0 2), vI 0])), (u2 0 1, .inl (cy 0, 60, .inl (iA (fun _ => 0)))), (u2 0 2, .inl (cy 1, 10, .inl (iA (fun _ => 0)))), (u1 0 0, .inr (2, [.ref (u1 0 1), vI 0])), (u1 0 1, .inl (cy 0, 24, .inl (iA (fun _ => 0)))), (b, .inr (3, [.ref (u1 0 0), .null, .null, vI 0, vI 0]))]) H := hP
  have hD : va_D _ ([(u2 0 0, .inr (0, [.ref (u2 0 1), .ref (u2 0 2), vI 0])), (u2 0 1, .inl (cy 0, 60, .inl (iA (fun _ => 0)))), (u2 0 2, .inl (cy 1, 10, .inl (iA (fun _ => 0)))), (u1 0 0, .inr (2, [.ref (u1 0 1), vI 0])), (u1 0 1, .inl (cy 0, 24, .inl (iA (fun _ => 0)))), (b, .inr (3, [.ref (u1 0 0), .null, .null, vI 0, vI 0]))]) := hD
  refine va_putF F.1 F.2.1 F.2.2.2.2 inX3 tyX3 tyX3_ok nmX3 F.2.2.2.1 hK.1 hP hD hS 5 rfl rfl 1 (by decide) (F.2.2.2.2 _ tw119) (fun _ h => h) rfl hin rfl (tyX3_ok 1 (by decide)) rfl rfl (Nat.le_of_ble_eq_true rfl) dX3_init_23 (fun H locs hP hD hS => ?_)
  have hP : va_P D vwCl ([(u2 0 0, .inr (0, [.ref (u2 0 1), .ref (u2 0 2), vI 0])), (u2 0 1, .inl (cy 0, 60, .inl (iA (fun _ => 0)))), (u2 0 2, .inl (cy 1, 10, .inl (iA (fun _ => 0)))), (u1 0 0, .inr (2, [.ref (u1 0 1), vI 0])), (u1 0 1, .inl (cy 0, 24, .inl (iA (fun _ => 0)))), (b, .inr (3, [.ref (u1 0 0), .ref (u2 0 0), .null, vI 0, vI 0]))]) H := hP
  have hD : va_D _ ([(u2 0 0, .inr (0, [.ref (u2 0 1), .ref (u2 0 2), vI 0])), (u2 0 1, .inl (cy 0, 60, .inl (iA (fun _ => 0)))), (u2 0 2, .inl (cy 1, 10, .inl (iA (fun _ => 0)))), (u1 0 0, .inr (2, [.ref (u1 0 1), vI 0])), (u1 0 1, .inl (cy 0, 24, .inl (iA (fun _ => 0)))), (b, .inr (3, [.ref (u1 0 0), .ref (u2 0 0), .null, vI 0, vI 0]))]) := hD
  refine lv_aload_n F.1 F.2.1 dX3_init_26 rfl (lv_at hl 0 rfl) ?_
  refine rr_iconst F dX3_init_27 ?_
  refine rr_newq F hK hP hD hS hA 4 (C := RX5) tw85 hAO.2 rfl (n := 4) (by decide +kernel) (by decide +kernel) (by decide) ⟨Nat.le_of_ble_eq_true rfl, Nat.le_of_ble_eq_true rfl⟩ dX3_init_28 (fun q3 H hP hD hS => ?_)
  have hP : va_P D vwCl ([(u2 0 0, .inr (0, [.ref (u2 0 1), .ref (u2 0 2), vI 0])), (u2 0 1, .inl (cy 0, 60, .inl (iA (fun _ => 0)))), (u2 0 2, .inl (cy 1, 10, .inl (iA (fun _ => 0)))), (u1 0 0, .inr (2, [.ref (u1 0 1), vI 0])), (u1 0 1, .inl (cy 0, 24, .inl (iA (fun _ => 0)))), (b, .inr (3, [.ref (u1 0 0), .ref (u2 0 0), .null, vI 0, vI 0])), (q3, .inl (cy 4, 4, .inr (.inr (.inr (.inr (fun _ => none))))))]) H := hP
  have hD : va_D _ ([(u2 0 0, .inr (0, [.ref (u2 0 1), .ref (u2 0 2), vI 0])), (u2 0 1, .inl (cy 0, 60, .inl (iA (fun _ => 0)))), (u2 0 2, .inl (cy 1, 10, .inl (iA (fun _ => 0)))), (u1 0 0, .inr (2, [.ref (u1 0 1), vI 0])), (u1 0 1, .inl (cy 0, 24, .inl (iA (fun _ => 0)))), (b, .inr (3, [.ref (u1 0 0), .ref (u2 0 0), .null, vI 0, vI 0])), (q3, .inl (cy 4, 4, .inr (.inr (.inr (.inr (fun _ => none))))))]) := hD
  refine va_putF F.1 F.2.1 F.2.2.2.2 inX3 tyX3 tyX3_ok nmX3 F.2.2.2.1 hK.1 hP hD hS 5 rfl rfl 2 (by decide) (F.2.2.2.2 _ tw121) (fun _ h => h) rfl hin rfl (tyX3_ok 2 (by decide)) rfl rfl (Nat.le_of_ble_eq_true rfl) dX3_init_31 (fun H locs hP hD hS => ?_)
  have hP : va_P D vwCl ([(u2 0 0, .inr (0, [.ref (u2 0 1), .ref (u2 0 2), vI 0])), (u2 0 1, .inl (cy 0, 60, .inl (iA (fun _ => 0)))), (u2 0 2, .inl (cy 1, 10, .inl (iA (fun _ => 0)))), (u1 0 0, .inr (2, [.ref (u1 0 1), vI 0])), (u1 0 1, .inl (cy 0, 24, .inl (iA (fun _ => 0)))), (b, .inr (3, [.ref (u1 0 0), .ref (u2 0 0), .ref q3, vI 0, vI 0])), (q3, .inl (cy 4, 4, .inr (.inr (.inr (.inr (fun _ => none))))))]) H := hP
  have hD : va_D _ ([(u2 0 0, .inr (0, [.ref (u2 0 1), .ref (u2 0 2), vI 0])), (u2 0 1, .inl (cy 0, 60, .inl (iA (fun _ => 0)))), (u2 0 2, .inl (cy 1, 10, .inl (iA (fun _ => 0)))), (u1 0 0, .inr (2, [.ref (u1 0 1), vI 0])), (u1 0 1, .inl (cy 0, 24, .inl (iA (fun _ => 0)))), (b, .inr (3, [.ref (u1 0 0), .ref (u2 0 0), .ref q3, vI 0, vI 0])), (q3, .inl (cy 4, 4, .inr (.inr (.inr (.inr (fun _ => none))))))]) := hD
  refine rr_iconst F dX3_init_34 ?_
  refine lv_istore_n (lv' := [(1, vI 0), (0, .ref b)]) F.1 F.2.1 dX3_init_35 rfl hl (by decide) rfl (fun ls hl => ?_)
  refine lv_iload_n F.1 F.2.1 dX3_init_36 rfl (lv_at hl 0 rfl) ?_
  refine rr_iconst F dX3_init_37 ?_
  refine rr_icmp_ge F (tgt := 60) dX3_init_38 (by decide) ⟨by omega, by omega⟩ ⟨by omega, by omega⟩ (fun z => by omega) (fun _ => ?_)
  refine lv_aload_n F.1 F.2.1 dX3_init_41 rfl (lv_at hl 1 rfl) ?_
  refine gf3_2 F hK hP 5 rfl tw121 dX3_init_42 ?_
  refine lv_iload_n F.1 F.2.1 dX3_init_45 rfl (lv_at hl 0 rfl) ?_
  refine rr_mkN F hK hAO hP hD hS hA nfX5 tw85 (fun q => c_X5_init l D cy q) tn88 rfl rfl tw89 tw90 (by decide +kernel) ⟨Nat.le_of_ble_eq_true rfl, Nat.le_of_ble_eq_true rfl⟩ hl (Nat.le_of_ble_eq_true rfl) ⟨Nat.le_of_ble_eq_true rfl, Nat.le_of_ble_eq_true rfl⟩ dX3_init_46 dX3_init_49 dX3_init_50 (fun w0 H locs hP hD hS => ?_)
  have hP : va_P D vwCl ([(w0 0 0, .inr (5, [vI 0, vI 0, vI 0, vI 0, vI 0])), (u2 0 0, .inr (0, [.ref (u2 0 1), .ref (u2 0 2), vI 0])), (u2 0 1, .inl (cy 0, 60, .inl (iA (fun _ => 0)))), (u2 0 2, .inl (cy 1, 10, .inl (iA (fun _ => 0)))), (u1 0 0, .inr (2, [.ref (u1 0 1), vI 0])), (u1 0 1, .inl (cy 0, 24, .inl (iA (fun _ => 0)))), (b, .inr (3, [.ref (u1 0 0), .ref (u2 0 0), .ref q3, vI 0, vI 0])), (q3, .inl (cy 4, 4, .inr (.inr (.inr (.inr (fun _ => none))))))]) H := hP
  have hD : va_D _ ([(w0 0 0, .inr (5, [vI 0, vI 0, vI 0, vI 0, vI 0])), (u2 0 0, .inr (0, [.ref (u2 0 1), .ref (u2 0 2), vI 0])), (u2 0 1, .inl (cy 0, 60, .inl (iA (fun _ => 0)))), (u2 0 2, .inl (cy 1, 10, .inl (iA (fun _ => 0)))), (u1 0 0, .inr (2, [.ref (u1 0 1), vI 0])), (u1 0 1, .inl (cy 0, 24, .inl (iA (fun _ => 0)))), (b, .inr (3, [.ref (u1 0 0), .ref (u2 0 0), .ref q3, vI 0, vI 0])), (q3, .inl (cy 4, 4, .inr (.inr (.inr (.inr (fun _ => none))))))]) := hD
  refine rr_aast F hK hP hD hS 7 4 0 5 rfl rfl rfl rfl (j := 0) rfl (by decide) (by decide) dX3_init_53 (fun H locs hP hD hS => ?_)
  have hP : va_P D vwCl ([(w0 0 0, .inr (5, [vI 0, vI 0, vI 0, vI 0, vI 0])), (u2 0 0, .inr (0, [.ref (u2 0 1), .ref (u2 0 2), vI 0])), (u2 0 1, .inl (cy 0, 60, .inl (iA (fun _ => 0)))), (u2 0 2, .inl (cy 1, 10, .inl (iA (fun _ => 0)))), (u1 0 0, .inr (2, [.ref (u1 0 1), vI 0])), (u1 0 1, .inl (cy 0, 24, .inl (iA (fun _ => 0)))), (b, .inr (3, [.ref (u1 0 0), .ref (u2 0 0), .ref q3, vI 0, vI 0])), (q3, .inl (cy 4, 4, .inr (.inr (.inr (.inr (va_up (fun _ => none) 0 (some (w0 0 0))))))))]) H := hP
  have hD : va_D _ ([(w0 0 0, .inr (5, [vI 0, vI 0, vI 0, vI 0, vI 0])), (u2 0 0, .inr (0, [.ref (u2 0 1), .ref (u2 0 2), vI 0])), (u2 0 1, .inl (cy 0, 60, .inl (iA (fun _ => 0)))), (u2 0 2, .inl (cy 1, 10, .inl (iA (fun _ => 0)))), (u1 0 0, .inr (2, [.ref (u1 0 1), vI 0])), (u1 0 1, .inl (cy 0, 24, .inl (iA (fun _ => 0)))), (b, .inr (3, [.ref (u1 0 0), .ref (u2 0 0), .ref q3, vI 0, vI 0])), (q3, .inl (cy 4, 4, .inr (.inr (.inr (.inr (va_up (fun _ => none) 0 (some (w0 0 0))))))))]) := hD
  refine lv_iinc (v := iI 1) (lv' := [(1, vI 1), (0, .ref b)]) F.1 F.2.1 dX3_init_54 hl (k := 0) rfl (iinc_ok (by first | rfl | omega)) (by decide) rfl (fun ls hl => ?_)
  refine lv_goto (tgt := 36) F.1 F.2.1 dX3_init_57 (by decide) ?_
  refine lv_iload_n F.1 F.2.1 dX3_init_36 rfl (lv_at hl 0 rfl) ?_
  refine rr_iconst F dX3_init_37 ?_
  refine rr_icmp_ge F (tgt := 60) dX3_init_38 (by decide) ⟨by omega, by omega⟩ ⟨by omega, by omega⟩ (fun z => by omega) (fun _ => ?_)
  refine lv_aload_n F.1 F.2.1 dX3_init_41 rfl (lv_at hl 1 rfl) ?_
  refine gf3_2 F hK hP 6 rfl tw121 dX3_init_42 ?_
  refine lv_iload_n F.1 F.2.1 dX3_init_45 rfl (lv_at hl 0 rfl) ?_
  refine rr_mkN F hK hAO hP hD hS hA nfX5 tw85 (fun q => c_X5_init l D cy q) tn88 rfl rfl tw89 tw90 (by decide +kernel) ⟨Nat.le_of_ble_eq_true rfl, Nat.le_of_ble_eq_true rfl⟩ hl (Nat.le_of_ble_eq_true rfl) ⟨Nat.le_of_ble_eq_true rfl, Nat.le_of_ble_eq_true rfl⟩ dX3_init_46 dX3_init_49 dX3_init_50 (fun w1 H locs hP hD hS => ?_)
  have hP : va_P D vwCl ([(w1 0 0, .inr (5, [vI 0, vI 0, vI 0, vI 0, vI 0])), (w0 0 0, .inr (5, [vI 0, vI 0, vI 0, vI 0, vI 0])), (u2 0 0, .inr (0, [.ref (u2 0 1), .ref (u2 0 2), vI 0])), (u2 0 1, .inl (cy 0, 60, .inl (iA (fun _ => 0)))), (u2 0 2, .inl (cy 1, 10, .inl (iA (fun _ => 0)))), (u1 0 0, .inr (2, [.ref (u1 0 1), vI 0])), (u1 0 1, .inl (cy 0, 24, .inl (iA (fun _ => 0)))), (b, .inr (3, [.ref (u1 0 0), .ref (u2 0 0), .ref q3, vI 0, vI 0])), (q3, .inl (cy 4, 4, .inr (.inr (.inr (.inr (va_up (fun _ => none) 0 (some (w0 0 0))))))))]) H := hP
  have hD : va_D _ ([(w1 0 0, .inr (5, [vI 0, vI 0, vI 0, vI 0, vI 0])), (w0 0 0, .inr (5, [vI 0, vI 0, vI 0, vI 0, vI 0])), (u2 0 0, .inr (0, [.ref (u2 0 1), .ref (u2 0 2), vI 0])), (u2 0 1, .inl (cy 0, 60, .inl (iA (fun _ => 0)))), (u2 0 2, .inl (cy 1, 10, .inl (iA (fun _ => 0)))), (u1 0 0, .inr (2, [.ref (u1 0 1), vI 0])), (u1 0 1, .inl (cy 0, 24, .inl (iA (fun _ => 0)))), (b, .inr (3, [.ref (u1 0 0), .ref (u2 0 0), .ref q3, vI 0, vI 0])), (q3, .inl (cy 4, 4, .inr (.inr (.inr (.inr (va_up (fun _ => none) 0 (some (w0 0 0))))))))]) := hD
  refine rr_aast F hK hP hD hS 8 4 0 5 rfl rfl rfl rfl (j := 1) rfl (by decide) (by decide) dX3_init_53 (fun H locs hP hD hS => ?_)
  have hP : va_P D vwCl ([(w1 0 0, .inr (5, [vI 0, vI 0, vI 0, vI 0, vI 0])), (w0 0 0, .inr (5, [vI 0, vI 0, vI 0, vI 0, vI 0])), (u2 0 0, .inr (0, [.ref (u2 0 1), .ref (u2 0 2), vI 0])), (u2 0 1, .inl (cy 0, 60, .inl (iA (fun _ => 0)))), (u2 0 2, .inl (cy 1, 10, .inl (iA (fun _ => 0)))), (u1 0 0, .inr (2, [.ref (u1 0 1), vI 0])), (u1 0 1, .inl (cy 0, 24, .inl (iA (fun _ => 0)))), (b, .inr (3, [.ref (u1 0 0), .ref (u2 0 0), .ref q3, vI 0, vI 0])), (q3, .inl (cy 4, 4, .inr (.inr (.inr (.inr (va_up (va_up (fun _ => none) 0 (some (w0 0 0))) 1 (some (w1 0 0))))))))]) H := hP
  have hD : va_D _ ([(w1 0 0, .inr (5, [vI 0, vI 0, vI 0, vI 0, vI 0])), (w0 0 0, .inr (5, [vI 0, vI 0, vI 0, vI 0, vI 0])), (u2 0 0, .inr (0, [.ref (u2 0 1), .ref (u2 0 2), vI 0])), (u2 0 1, .inl (cy 0, 60, .inl (iA (fun _ => 0)))), (u2 0 2, .inl (cy 1, 10, .inl (iA (fun _ => 0)))), (u1 0 0, .inr (2, [.ref (u1 0 1), vI 0])), (u1 0 1, .inl (cy 0, 24, .inl (iA (fun _ => 0)))), (b, .inr (3, [.ref (u1 0 0), .ref (u2 0 0), .ref q3, vI 0, vI 0])), (q3, .inl (cy 4, 4, .inr (.inr (.inr (.inr (va_up (va_up (fun _ => none) 0 (some (w0 0 0))) 1 (some (w1 0 0))))))))]) := hD
  refine lv_iinc (v := iI 2) (lv' := [(1, vI 2), (0, .ref b)]) F.1 F.2.1 dX3_init_54 hl (k := 0) rfl (iinc_ok (by first | rfl | omega)) (by decide) rfl (fun ls hl => ?_)
  refine lv_goto (tgt := 36) F.1 F.2.1 dX3_init_57 (by decide) ?_
  refine lv_iload_n F.1 F.2.1 dX3_init_36 rfl (lv_at hl 0 rfl) ?_
  refine rr_iconst F dX3_init_37 ?_
  refine rr_icmp_ge F (tgt := 60) dX3_init_38 (by decide) ⟨by omega, by omega⟩ ⟨by omega, by omega⟩ (fun z => by omega) (fun _ => ?_)
  refine lv_aload_n F.1 F.2.1 dX3_init_41 rfl (lv_at hl 1 rfl) ?_
  refine gf3_2 F hK hP 7 rfl tw121 dX3_init_42 ?_
  refine lv_iload_n F.1 F.2.1 dX3_init_45 rfl (lv_at hl 0 rfl) ?_
  refine rr_mkN F hK hAO hP hD hS hA nfX5 tw85 (fun q => c_X5_init l D cy q) tn88 rfl rfl tw89 tw90 (by decide +kernel) ⟨Nat.le_of_ble_eq_true rfl, Nat.le_of_ble_eq_true rfl⟩ hl (Nat.le_of_ble_eq_true rfl) ⟨Nat.le_of_ble_eq_true rfl, Nat.le_of_ble_eq_true rfl⟩ dX3_init_46 dX3_init_49 dX3_init_50 (fun w2 H locs hP hD hS => ?_)
  have hP : va_P D vwCl ([(w2 0 0, .inr (5, [vI 0, vI 0, vI 0, vI 0, vI 0])), (w1 0 0, .inr (5, [vI 0, vI 0, vI 0, vI 0, vI 0])), (w0 0 0, .inr (5, [vI 0, vI 0, vI 0, vI 0, vI 0])), (u2 0 0, .inr (0, [.ref (u2 0 1), .ref (u2 0 2), vI 0])), (u2 0 1, .inl (cy 0, 60, .inl (iA (fun _ => 0)))), (u2 0 2, .inl (cy 1, 10, .inl (iA (fun _ => 0)))), (u1 0 0, .inr (2, [.ref (u1 0 1), vI 0])), (u1 0 1, .inl (cy 0, 24, .inl (iA (fun _ => 0)))), (b, .inr (3, [.ref (u1 0 0), .ref (u2 0 0), .ref q3, vI 0, vI 0])), (q3, .inl (cy 4, 4, .inr (.inr (.inr (.inr (va_up (va_up (fun _ => none) 0 (some (w0 0 0))) 1 (some (w1 0 0))))))))]) H := hP
  have hD : va_D _ ([(w2 0 0, .inr (5, [vI 0, vI 0, vI 0, vI 0, vI 0])), (w1 0 0, .inr (5, [vI 0, vI 0, vI 0, vI 0, vI 0])), (w0 0 0, .inr (5, [vI 0, vI 0, vI 0, vI 0, vI 0])), (u2 0 0, .inr (0, [.ref (u2 0 1), .ref (u2 0 2), vI 0])), (u2 0 1, .inl (cy 0, 60, .inl (iA (fun _ => 0)))), (u2 0 2, .inl (cy 1, 10, .inl (iA (fun _ => 0)))), (u1 0 0, .inr (2, [.ref (u1 0 1), vI 0])), (u1 0 1, .inl (cy 0, 24, .inl (iA (fun _ => 0)))), (b, .inr (3, [.ref (u1 0 0), .ref (u2 0 0), .ref q3, vI 0, vI 0])), (q3, .inl (cy 4, 4, .inr (.inr (.inr (.inr (va_up (va_up (fun _ => none) 0 (some (w0 0 0))) 1 (some (w1 0 0))))))))]) := hD
  refine rr_aast F hK hP hD hS 9 4 0 5 rfl rfl rfl rfl (j := 2) rfl (by decide) (by decide) dX3_init_53 (fun H locs hP hD hS => ?_)
  have hP : va_P D vwCl ([(w2 0 0, .inr (5, [vI 0, vI 0, vI 0, vI 0, vI 0])), (w1 0 0, .inr (5, [vI 0, vI 0, vI 0, vI 0, vI 0])), (w0 0 0, .inr (5, [vI 0, vI 0, vI 0, vI 0, vI 0])), (u2 0 0, .inr (0, [.ref (u2 0 1), .ref (u2 0 2), vI 0])), (u2 0 1, .inl (cy 0, 60, .inl (iA (fun _ => 0)))), (u2 0 2, .inl (cy 1, 10, .inl (iA (fun _ => 0)))), (u1 0 0, .inr (2, [.ref (u1 0 1), vI 0])), (u1 0 1, .inl (cy 0, 24, .inl (iA (fun _ => 0)))), (b, .inr (3, [.ref (u1 0 0), .ref (u2 0 0), .ref q3, vI 0, vI 0])), (q3, .inl (cy 4, 4, .inr (.inr (.inr (.inr (va_up (va_up (va_up (fun _ => none) 0 (some (w0 0 0))) 1 (some (w1 0 0))) 2 (some (w2 0 0))))))))]) H := hP
  have hD : va_D _ ([(w2 0 0, .inr (5, [vI 0, vI 0, vI 0, vI 0, vI 0])), (w1 0 0, .inr (5, [vI 0, vI 0, vI 0, vI 0, vI 0])), (w0 0 0, .inr (5, [vI 0, vI 0, vI 0, vI 0, vI 0])), (u2 0 0, .inr (0, [.ref (u2 0 1), .ref (u2 0 2), vI 0])), (u2 0 1, .inl (cy 0, 60, .inl (iA (fun _ => 0)))), (u2 0 2, .inl (cy 1, 10, .inl (iA (fun _ => 0)))), (u1 0 0, .inr (2, [.ref (u1 0 1), vI 0])), (u1 0 1, .inl (cy 0, 24, .inl (iA (fun _ => 0)))), (b, .inr (3, [.ref (u1 0 0), .ref (u2 0 0), .ref q3, vI 0, vI 0])), (q3, .inl (cy 4, 4, .inr (.inr (.inr (.inr (va_up (va_up (va_up (fun _ => none) 0 (some (w0 0 0))) 1 (some (w1 0 0))) 2 (some (w2 0 0))))))))]) := hD
  refine lv_iinc (v := iI 3) (lv' := [(1, vI 3), (0, .ref b)]) F.1 F.2.1 dX3_init_54 hl (k := 0) rfl (iinc_ok (by first | rfl | omega)) (by decide) rfl (fun ls hl => ?_)
  refine lv_goto (tgt := 36) F.1 F.2.1 dX3_init_57 (by decide) ?_
  refine lv_iload_n F.1 F.2.1 dX3_init_36 rfl (lv_at hl 0 rfl) ?_
  refine rr_iconst F dX3_init_37 ?_
  refine rr_icmp_ge F (tgt := 60) dX3_init_38 (by decide) ⟨by omega, by omega⟩ ⟨by omega, by omega⟩ (fun z => by omega) (fun _ => ?_)
  refine lv_aload_n F.1 F.2.1 dX3_init_41 rfl (lv_at hl 1 rfl) ?_
  refine gf3_2 F hK hP 8 rfl tw121 dX3_init_42 ?_
  refine lv_iload_n F.1 F.2.1 dX3_init_45 rfl (lv_at hl 0 rfl) ?_
  refine rr_mkN F hK hAO hP hD hS hA nfX5 tw85 (fun q => c_X5_init l D cy q) tn88 rfl rfl tw89 tw90 (by decide +kernel) ⟨Nat.le_of_ble_eq_true rfl, Nat.le_of_ble_eq_true rfl⟩ hl (Nat.le_of_ble_eq_true rfl) ⟨Nat.le_of_ble_eq_true rfl, Nat.le_of_ble_eq_true rfl⟩ dX3_init_46 dX3_init_49 dX3_init_50 (fun w3 H locs hP hD hS => ?_)
  have hP : va_P D vwCl ([(w3 0 0, .inr (5, [vI 0, vI 0, vI 0, vI 0, vI 0])), (w2 0 0, .inr (5, [vI 0, vI 0, vI 0, vI 0, vI 0])), (w1 0 0, .inr (5, [vI 0, vI 0, vI 0, vI 0, vI 0])), (w0 0 0, .inr (5, [vI 0, vI 0, vI 0, vI 0, vI 0])), (u2 0 0, .inr (0, [.ref (u2 0 1), .ref (u2 0 2), vI 0])), (u2 0 1, .inl (cy 0, 60, .inl (iA (fun _ => 0)))), (u2 0 2, .inl (cy 1, 10, .inl (iA (fun _ => 0)))), (u1 0 0, .inr (2, [.ref (u1 0 1), vI 0])), (u1 0 1, .inl (cy 0, 24, .inl (iA (fun _ => 0)))), (b, .inr (3, [.ref (u1 0 0), .ref (u2 0 0), .ref q3, vI 0, vI 0])), (q3, .inl (cy 4, 4, .inr (.inr (.inr (.inr (va_up (va_up (va_up (fun _ => none) 0 (some (w0 0 0))) 1 (some (w1 0 0))) 2 (some (w2 0 0))))))))]) H := hP
  have hD : va_D _ ([(w3 0 0, .inr (5, [vI 0, vI 0, vI 0, vI 0, vI 0])), (w2 0 0, .inr (5, [vI 0, vI 0, vI 0, vI 0, vI 0])), (w1 0 0, .inr (5, [vI 0, vI 0, vI 0, vI 0, vI 0])), (w0 0 0, .inr (5, [vI 0, vI 0, vI 0, vI 0, vI 0])), (u2 0 0, .inr (0, [.ref (u2 0 1), .ref (u2 0 2), vI 0])), (u2 0 1, .inl (cy 0, 60, .inl (iA (fun _ => 0)))), (u2 0 2, .inl (cy 1, 10, .inl (iA (fun _ => 0)))), (u1 0 0, .inr (2, [.ref (u1 0 1), vI 0])), (u1 0 1, .inl (cy 0, 24, .inl (iA (fun _ => 0)))), (b, .inr (3, [.ref (u1 0 0), .ref (u2 0 0), .ref q3, vI 0, vI 0])), (q3, .inl (cy 4, 4, .inr (.inr (.inr (.inr (va_up (va_up (va_up (fun _ => none) 0 (some (w0 0 0))) 1 (some (w1 0 0))) 2 (some (w2 0 0))))))))]) := hD
  refine rr_aast F hK hP hD hS 10 4 0 5 rfl rfl rfl rfl (j := 3) rfl (by decide) (by decide) dX3_init_53 (fun H locs hP hD hS => ?_)
  have hP : va_P D vwCl ([(w3 0 0, .inr (5, [vI 0, vI 0, vI 0, vI 0, vI 0])), (w2 0 0, .inr (5, [vI 0, vI 0, vI 0, vI 0, vI 0])), (w1 0 0, .inr (5, [vI 0, vI 0, vI 0, vI 0, vI 0])), (w0 0 0, .inr (5, [vI 0, vI 0, vI 0, vI 0, vI 0])), (u2 0 0, .inr (0, [.ref (u2 0 1), .ref (u2 0 2), vI 0])), (u2 0 1, .inl (cy 0, 60, .inl (iA (fun _ => 0)))), (u2 0 2, .inl (cy 1, 10, .inl (iA (fun _ => 0)))), (u1 0 0, .inr (2, [.ref (u1 0 1), vI 0])), (u1 0 1, .inl (cy 0, 24, .inl (iA (fun _ => 0)))), (b, .inr (3, [.ref (u1 0 0), .ref (u2 0 0), .ref q3, vI 0, vI 0])), (q3, .inl (cy 4, 4, .inr (.inr (.inr (.inr (va_up (va_up (va_up (va_up (fun _ => none) 0 (some (w0 0 0))) 1 (some (w1 0 0))) 2 (some (w2 0 0))) 3 (some (w3 0 0))))))))]) H := hP
  have hD : va_D _ ([(w3 0 0, .inr (5, [vI 0, vI 0, vI 0, vI 0, vI 0])), (w2 0 0, .inr (5, [vI 0, vI 0, vI 0, vI 0, vI 0])), (w1 0 0, .inr (5, [vI 0, vI 0, vI 0, vI 0, vI 0])), (w0 0 0, .inr (5, [vI 0, vI 0, vI 0, vI 0, vI 0])), (u2 0 0, .inr (0, [.ref (u2 0 1), .ref (u2 0 2), vI 0])), (u2 0 1, .inl (cy 0, 60, .inl (iA (fun _ => 0)))), (u2 0 2, .inl (cy 1, 10, .inl (iA (fun _ => 0)))), (u1 0 0, .inr (2, [.ref (u1 0 1), vI 0])), (u1 0 1, .inl (cy 0, 24, .inl (iA (fun _ => 0)))), (b, .inr (3, [.ref (u1 0 0), .ref (u2 0 0), .ref q3, vI 0, vI 0])), (q3, .inl (cy 4, 4, .inr (.inr (.inr (.inr (va_up (va_up (va_up (va_up (fun _ => none) 0 (some (w0 0 0))) 1 (some (w1 0 0))) 2 (some (w2 0 0))) 3 (some (w3 0 0))))))))]) := hD
  refine lv_iinc (v := iI 4) (lv' := [(1, vI 4), (0, .ref b)]) F.1 F.2.1 dX3_init_54 hl (k := 0) rfl (iinc_ok (by first | rfl | omega)) (by decide) rfl (fun ls hl => ?_)
  refine lv_goto (tgt := 36) F.1 F.2.1 dX3_init_57 (by decide) ?_
  refine lv_iload_n F.1 F.2.1 dX3_init_36 rfl (lv_at hl 0 rfl) ?_
  refine rr_iconst F dX3_init_37 ?_
  refine rr_icmp_ge F (tgt := 60) dX3_init_38 (by decide) ⟨by omega, by omega⟩ ⟨by omega, by omega⟩ (fun _ => ?_) (fun z => by omega)
  have hP := va_P_rowR (ws := [(w3 0 0, .inr (5, [vI 0, vI 0, vI 0, vI 0, vI 0])), (w2 0 0, .inr (5, [vI 0, vI 0, vI 0, vI 0, vI 0])), (w1 0 0, .inr (5, [vI 0, vI 0, vI 0, vI 0, vI 0])), (w0 0 0, .inr (5, [vI 0, vI 0, vI 0, vI 0, vI 0])), (u2 0 0, .inr (0, [.ref (u2 0 1), .ref (u2 0 2), vI 0])), (u2 0 1, .inl (cy 0, 60, .inl (iA (fun _ => 0)))), (u2 0 2, .inl (cy 1, 10, .inl (iA (fun _ => 0)))), (u1 0 0, .inr (2, [.ref (u1 0 1), vI 0])), (u1 0 1, .inl (cy 0, 24, .inl (iA (fun _ => 0)))), (b, .inr (3, [.ref (u1 0 0), .ref (u2 0 0), .ref q3, vI 0, vI 0])), (q3, .inl (cy 4, 4, .inr (.inr (.inr (.inr (va_up (va_up (va_up (va_up (fun _ => none) 0 (some (w0 0 0))) 1 (some (w1 0 0))) 2 (some (w2 0 0))) 3 (some (w3 0 0))))))))]) (q1 := 10) (g := rA (fun i => ([b, u1 0 0, u1 0 1, u2 0 0, u2 0 1, u2 0 2, q3, w0 0 0, w1 0 0, w2 0 0, w3 0 0]).getD (7 + Int.toNat i) 0)) (fun j hj => by rcases (show j = 0 ∨ j = 1 ∨ j = 2 ∨ j = 3 by omega) with rfl | rfl | rfl | rfl <;> rfl) hP
  have hD := hD.like (w' := ([(w3 0 0, .inr (5, [vI 0, vI 0, vI 0, vI 0, vI 0])), (w2 0 0, .inr (5, [vI 0, vI 0, vI 0, vI 0, vI 0])), (w1 0 0, .inr (5, [vI 0, vI 0, vI 0, vI 0, vI 0])), (w0 0 0, .inr (5, [vI 0, vI 0, vI 0, vI 0, vI 0])), (u2 0 0, .inr (0, [.ref (u2 0 1), .ref (u2 0 2), vI 0])), (u2 0 1, .inl (cy 0, 60, .inl (iA (fun _ => 0)))), (u2 0 2, .inl (cy 1, 10, .inl (iA (fun _ => 0)))), (u1 0 0, .inr (2, [.ref (u1 0 1), vI 0])), (u1 0 1, .inl (cy 0, 24, .inl (iA (fun _ => 0)))), (b, .inr (3, [.ref (u1 0 0), .ref (u2 0 0), .ref q3, vI 0, vI 0])), (q3, .inl (cy 4, 4, .inr (.inr (.inr (.inr (va_up (va_up (va_up (va_up (fun _ => none) 0 (some (w0 0 0))) 1 (some (w1 0 0))) 2 (some (w2 0 0))) 3 (some (w3 0 0))))))))]).set 10 (q3, .inl (cy 4, 4, .inr (.inr (.inr (.inr (rA (fun i => ([b, u1 0 0, u1 0 1, u2 0 0, u2 0 1, u2 0 2, q3, w0 0 0, w1 0 0, w2 0 0, w3 0 0]).getD (7 + Int.toNat i) 0)))))))) rfl
  exact rr_cvret F hr hlocks (fun _ k => ([b, u1 0 0, u1 0 1, u2 0 0, u2 0 1, u2 0 2, q3, w0 0 0, w1 0 0, w2 0 0, w3 0 0]).getD k 0) rfl (hP.sub [9, 7, 8, 4, 5, 6, 10, 3, 2, 1, 0] rfl) (hD.sub [9, 7, 8, 4, 5, 6, 10, 3, 2, 1, 0] (by decide) rfl) hS dX3_init_60
set_option maxRecDepth 100000 in
set_option maxHeartbeats 4000000 in
theorem c_X7_init (l : Launch) (D : va_G) (cy : Nat → ClassId) (b : Nat) : Cn l yX7_init cX7_init 1 1 6 2166 D cy b [(b, .inr (7, [vI 0, .null, .null, .null, vI 0, .null, .null, .null, vI 0]))] (fun u => [(u 0 0, .inr (7, [vI 0, .ref (u 0 1), .ref (u 0 2), .ref (u 0 3), vI 0, .ref (u 0 4), .ref (u 0 5), .ref (u 0 6), vI 0])), (u 0 1, .inl (cy 1, 118, .inl (iA (fun _ => 0)))), (u 0 2, .inl (cy 1, 118, .inl (iA (fun _ => 0)))), (u 0 3, .inl (cy 1, 1652, .inl (iA (fun _ => 0)))), (u 0 4, .inl (cy 1, 236, .inl (iA (fun _ => 0)))), (u 0 5, .inl (cy 2, 2, .inl (iA (fun _ => 0)))), (u 0 6, .inl (cy 0, 40, .inl (iA (fun _ => 0))))]) := by
  refine Cn.of RX7 rfl (by decide +kernel) rfl (Nat.le_of_ble_eq_true rfl) ?_
  intro p e s m args below meth c F hr hlocks hin hK hAO hP hD hS hA ls hl
  refine lv_aload_n F.1 F.2.1 dX7_init_0 rfl (lv_at hl 0 rfl) ?_
  refine rr_objInit F tw873 hl dX7_init_1 (Nat.le_of_ble_eq_true rfl) (Nat.le_of_ble_eq_true rfl) ?_
  refine lv_aload_n F.1 F.2.1 dX7_init_4 rfl (lv_at hl 0 rfl) ?_
  refine rr_bipush F dX7_init_5 (by decide) ?_
  refine rr_newa F hK hP hD hS hA 1 (ty := FieldType.int) rfl tw84 rfl (n := 118) (a0 := (118, .inl (iA (fun _ => 0)))) (fun _ => rfl) (by decide +kernel) (by decide +kernel) (by decide) ⟨Nat.le_of_ble_eq_true rfl, Nat.le_of_ble_eq_true rfl⟩ dX7_init_7 (fun q1 H hP hD hS => ?_)
  have hP : va_P D vwCl ([(b, .inr (7, [vI 0, .null, .null, .null, vI 0, .null, .null, .null, vI 0])), (q1, .inl (cy 1, 118, .inl (iA (fun _ => 0))))]) H := hP
  have hD : va_D _ ([(b, .inr (7, [vI 0, .null, .null, .null, vI 0, .null, .null, .null, vI 0])), (q1, .inl (cy 1, 118, .inl (iA (fun _ => 0))))]) := hD
  refine va_putF F.1 F.2.1 F.2.2.2.2 inX7 tyX7 tyX7_ok nmX7 F.2.2.2.1 hK.1 hP hD hS 0 rfl rfl 1 (by decide) (F.2.2.2.2 _ tw875) (fun _ h => h) rfl hin rfl (tyX7_ok 1 (by decide)) rfl rfl (Nat.le_of_ble_eq_true rfl) dX7_init_9 (fun H locs hP hD hS => ?_)
  have hP : va_P D vwCl ([(b, .inr (7, [vI 0, .ref q1, .null, .null, vI 0, .null, .null, .null, vI 0])), (q1, .inl (cy 1, 118, .inl (iA (fun _ => 0))))]) H := hP
  have hD : va_D _ ([(b, .inr (7, [vI 0, .ref q1, .null, .null, vI 0, .null, .null, .null, vI 0])), (q1, .inl (cy 1, 118, .inl (iA (fun _ => 0))))]) := hD
  refine lv_aload_n F.1 F.2.1 dX7_init_12 rfl (lv_at hl 0 rfl) ?_
  refine rr_bipush F dX7_init_13 (by decide) ?_
  refine rr_newa F hK hP hD hS hA 1 (ty := FieldType.int) rfl tw84 rfl (n := 118) (a0 := (118, .inl (iA (fun _ => 0)))) (fun _ => rfl) (by decide +kernel) (by decide +kernel) (by decide) ⟨Nat.le_of_ble_eq_true rfl, Nat.le_of_ble_eq_true rfl⟩ dX7_init_15 (fun q2 H hP hD hS => ?_)
  have hP : va_P D vwCl ([(b, .inr (7, [vI 0, .ref q1, .null, .null, vI 0, .null, .null, .null, vI 0])), (q1, .inl (cy 1, 118, .inl (iA (fun _ => 0)))), (q2, .inl (cy 1, 118, .inl (iA (fun _ => 0))))]) H := hP
  have hD : va_D _ ([(b, .inr (7, [vI 0, .ref q1, .null, .null, vI 0, .null, .null, .null, vI 0])), (q1, .inl (cy 1, 118, .inl (iA (fun _ => 0)))), (q2, .inl (cy 1, 118, .inl (iA (fun _ => 0))))]) := hD
  refine va_putF F.1 F.2.1 F.2.2.2.2 inX7 tyX7 tyX7_ok nmX7 F.2.2.2.1 hK.1 hP hD hS 0 rfl rfl 2 (by decide) (F.2.2.2.2 _ tw876) (fun _ h => h) rfl hin rfl (tyX7_ok 2 (by decide)) rfl rfl (Nat.le_of_ble_eq_true rfl) dX7_init_17 (fun H locs hP hD hS => ?_)
  have hP : va_P D vwCl ([(b, .inr (7, [vI 0, .ref q1, .ref q2, .null, vI 0, .null, .null, .null, vI 0])), (q1, .inl (cy 1, 118, .inl (iA (fun _ => 0)))), (q2, .inl (cy 1, 118, .inl (iA (fun _ => 0))))]) H := hP
  have hD : va_D _ ([(b, .inr (7, [vI 0, .ref q1, .ref q2, .null, vI 0, .null, .null, .null, vI 0])), (q1, .inl (cy 1, 118, .inl (iA (fun _ => 0)))), (q2, .inl (cy 1, 118, .inl (iA (fun _ => 0))))]) := hD
  refine lv_aload_n F.1 F.2.1 dX7_init_20 rfl (lv_at hl 0 rfl) ?_
  refine rr_sipush F dX7_init_21 (by decide) ?_
  refine rr_newa F hK hP hD hS hA 1 (ty := FieldType.int) rfl tw84 rfl (n := 1652) (a0 := (1652, .inl (iA (fun _ => 0)))) (fun _ => rfl) (by decide +kernel) (by decide +kernel) (by decide) ⟨Nat.le_of_ble_eq_true rfl, Nat.le_of_ble_eq_true rfl⟩ dX7_init_24 (fun q3 H hP hD hS => ?_)
  have hP : va_P D vwCl ([(b, .inr (7, [vI 0, .ref q1, .ref q2, .null, vI 0, .null, .null, .null, vI 0])), (q1, .inl (cy 1, 118, .inl (iA (fun _ => 0)))), (q2, .inl (cy 1, 118, .inl (iA (fun _ => 0)))), (q3, .inl (cy 1, 1652, .inl (iA (fun _ => 0))))]) H := hP
  have hD : va_D _ ([(b, .inr (7, [vI 0, .ref q1, .ref q2, .null, vI 0, .null, .null, .null, vI 0])), (q1, .inl (cy 1, 118, .inl (iA (fun _ => 0)))), (q2, .inl (cy 1, 118, .inl (iA (fun _ => 0)))), (q3, .inl (cy 1, 1652, .inl (iA (fun _ => 0))))]) := hD
  refine va_putF F.1 F.2.1 F.2.2.2.2 inX7 tyX7 tyX7_ok nmX7 F.2.2.2.1 hK.1 hP hD hS 0 rfl rfl 3 (by decide) (F.2.2.2.2 _ tw877) (fun _ h => h) rfl hin rfl (tyX7_ok 3 (by decide)) rfl rfl (Nat.le_of_ble_eq_true rfl) dX7_init_26 (fun H locs hP hD hS => ?_)
  have hP : va_P D vwCl ([(b, .inr (7, [vI 0, .ref q1, .ref q2, .ref q3, vI 0, .null, .null, .null, vI 0])), (q1, .inl (cy 1, 118, .inl (iA (fun _ => 0)))), (q2, .inl (cy 1, 118, .inl (iA (fun _ => 0)))), (q3, .inl (cy 1, 1652, .inl (iA (fun _ => 0))))]) H := hP
  have hD : va_D _ ([(b, .inr (7, [vI 0, .ref q1, .ref q2, .ref q3, vI 0, .null, .null, .null, vI 0])), (q1, .inl (cy 1, 118, .inl (iA (fun _ => 0)))), (q2, .inl (cy 1, 118, .inl (iA (fun _ => 0)))), (q3, .inl (cy 1, 1652, .inl (iA (fun _ => 0))))]) := hD
  refine lv_aload_n F.1 F.2.1 dX7_init_29 rfl (lv_at hl 0 rfl) ?_
  refine rr_sipush F dX7_init_30 (by decide) ?_
  refine rr_newa F hK hP hD hS hA 1 (ty := FieldType.int) rfl tw84 rfl (n := 236) (a0 := (236, .inl (iA (fun _ => 0)))) (fun _ => rfl) (by decide +kernel) (by decide +kernel) (by decide) ⟨Nat.le_of_ble_eq_true rfl, Nat.le_of_ble_eq_true rfl⟩ dX7_init_33 (fun q4 H hP hD hS => ?_)
  have hP : va_P D vwCl ([(b, .inr (7, [vI 0, .ref q1, .ref q2, .ref q3, vI 0, .null, .null, .null, vI 0])), (q1, .inl (cy 1, 118, .inl (iA (fun _ => 0)))), (q2, .inl (cy 1, 118, .inl (iA (fun _ => 0)))), (q3, .inl (cy 1, 1652, .inl (iA (fun _ => 0)))), (q4, .inl (cy 1, 236, .inl (iA (fun _ => 0))))]) H := hP
  have hD : va_D _ ([(b, .inr (7, [vI 0, .ref q1, .ref q2, .ref q3, vI 0, .null, .null, .null, vI 0])), (q1, .inl (cy 1, 118, .inl (iA (fun _ => 0)))), (q2, .inl (cy 1, 118, .inl (iA (fun _ => 0)))), (q3, .inl (cy 1, 1652, .inl (iA (fun _ => 0)))), (q4, .inl (cy 1, 236, .inl (iA (fun _ => 0))))]) := hD
  refine va_putF F.1 F.2.1 F.2.2.2.2 inX7 tyX7 tyX7_ok nmX7 F.2.2.2.1 hK.1 hP hD hS 0 rfl rfl 5 (by decide) (F.2.2.2.2 _ tw879) (fun _ h => h) rfl hin rfl (tyX7_ok 5 (by decide)) rfl rfl (Nat.le_of_ble_eq_true rfl) dX7_init_35 (fun H locs hP hD hS => ?_)
  have hP : va_P D vwCl ([(b, .inr (7, [vI 0, .ref q1, .ref q2, .ref q3, vI 0, .ref q4, .null, .null, vI 0])), (q1, .inl (cy 1, 118, .inl (iA (fun _ => 0)))), (q2, .inl (cy 1, 118, .inl (iA (fun _ => 0)))), (q3, .inl (cy 1, 1652, .inl (iA (fun _ => 0)))), (q4, .inl (cy 1, 236, .inl (iA (fun _ => 0))))]) H := hP
  have hD : va_D _ ([(b, .inr (7, [vI 0, .ref q1, .ref q2, .ref q3, vI 0, .ref q4, .null, .null, vI 0])), (q1, .inl (cy 1, 118, .inl (iA (fun _ => 0)))), (q2, .inl (cy 1, 118, .inl (iA (fun _ => 0)))), (q3, .inl (cy 1, 1652, .inl (iA (fun _ => 0)))), (q4, .inl (cy 1, 236, .inl (iA (fun _ => 0))))]) := hD
  refine lv_aload_n F.1 F.2.1 dX7_init_38 rfl (lv_at hl 0 rfl) ?_
  refine rr_iconst F dX7_init_39 ?_
  refine rr_newa F hK hP hD hS hA 2 (ty := FieldType.boolean) rfl tw176 rfl (n := 2) (a0 := (2, .inl (iA (fun _ => 0)))) (fun _ => rfl) (by decide +kernel) (by decide +kernel) (by decide) ⟨Nat.le_of_ble_eq_true rfl, Nat.le_of_ble_eq_true rfl⟩ dX7_init_40 (fun q5 H hP hD hS => ?_)
  have hP : va_P D vwCl ([(b, .inr (7, [vI 0, .ref q1, .ref q2, .ref q3, vI 0, .ref q4, .null, .null, vI 0])), (q1, .inl (cy 1, 118, .inl (iA (fun _ => 0)))), (q2, .inl (cy 1, 118, .inl (iA (fun _ => 0)))), (q3, .inl (cy 1, 1652, .inl (iA (fun _ => 0)))), (q4, .inl (cy 1, 236, .inl (iA (fun _ => 0)))), (q5, .inl (cy 2, 2, .inl (iA (fun _ => 0))))]) H := hP
  have hD : va_D _ ([(b, .inr (7, [vI 0, .ref q1, .ref q2, .ref q3, vI 0, .ref q4, .null, .null, vI 0])), (q1, .inl (cy 1, 118, .inl (iA (fun _ => 0)))), (q2, .inl (cy 1, 118, .inl (iA (fun _ => 0)))), (q3, .inl (cy 1, 1652, .inl (iA (fun _ => 0)))), (q4, .inl (cy 1, 236, .inl (iA (fun _ => 0)))), (q5, .inl (cy 2, 2, .inl (iA (fun _ => 0))))]) := hD
  refine va_putF F.1 F.2.1 F.2.2.2.2 inX7 tyX7 tyX7_ok nmX7 F.2.2.2.1 hK.1 hP hD hS 0 rfl rfl 6 (by decide) (F.2.2.2.2 _ tw880) (fun _ h => h) rfl hin rfl (tyX7_ok 6 (by decide)) rfl rfl (Nat.le_of_ble_eq_true rfl) dX7_init_42 (fun H locs hP hD hS => ?_)
  have hP : va_P D vwCl ([(b, .inr (7, [vI 0, .ref q1, .ref q2, .ref q3, vI 0, .ref q4, .ref q5, .null, vI 0])), (q1, .inl (cy 1, 118, .inl (iA (fun _ => 0)))), (q2, .inl (cy 1, 118, .inl (iA (fun _ => 0)))), (q3, .inl (cy 1, 1652, .inl (iA (fun _ => 0)))), (q4, .inl (cy 1, 236, .inl (iA (fun _ => 0)))), (q5, .inl (cy 2, 2, .inl (iA (fun _ => 0))))]) H := hP
  have hD : va_D _ ([(b, .inr (7, [vI 0, .ref q1, .ref q2, .ref q3, vI 0, .ref q4, .ref q5, .null, vI 0])), (q1, .inl (cy 1, 118, .inl (iA (fun _ => 0)))), (q2, .inl (cy 1, 118, .inl (iA (fun _ => 0)))), (q3, .inl (cy 1, 1652, .inl (iA (fun _ => 0)))), (q4, .inl (cy 1, 236, .inl (iA (fun _ => 0)))), (q5, .inl (cy 2, 2, .inl (iA (fun _ => 0))))]) := hD
  refine lv_aload_n F.1 F.2.1 dX7_init_45 rfl (lv_at hl 0 rfl) ?_
  refine rr_bipush F dX7_init_46 (by decide) ?_
  refine rr_newa F hK hP hD hS hA 0 (ty := FieldType.char) rfl tw43 rfl (n := 40) (a0 := (40, .inl (iA (fun _ => 0)))) (fun _ => rfl) (by decide +kernel) (by decide +kernel) (by decide) ⟨Nat.le_of_ble_eq_true rfl, Nat.le_of_ble_eq_true rfl⟩ dX7_init_48 (fun q6 H hP hD hS => ?_)
  have hP : va_P D vwCl ([(b, .inr (7, [vI 0, .ref q1, .ref q2, .ref q3, vI 0, .ref q4, .ref q5, .null, vI 0])), (q1, .inl (cy 1, 118, .inl (iA (fun _ => 0)))), (q2, .inl (cy 1, 118, .inl (iA (fun _ => 0)))), (q3, .inl (cy 1, 1652, .inl (iA (fun _ => 0)))), (q4, .inl (cy 1, 236, .inl (iA (fun _ => 0)))), (q5, .inl (cy 2, 2, .inl (iA (fun _ => 0)))), (q6, .inl (cy 0, 40, .inl (iA (fun _ => 0))))]) H := hP
  have hD : va_D _ ([(b, .inr (7, [vI 0, .ref q1, .ref q2, .ref q3, vI 0, .ref q4, .ref q5, .null, vI 0])), (q1, .inl (cy 1, 118, .inl (iA (fun _ => 0)))), (q2, .inl (cy 1, 118, .inl (iA (fun _ => 0)))), (q3, .inl (cy 1, 1652, .inl (iA (fun _ => 0)))), (q4, .inl (cy 1, 236, .inl (iA (fun _ => 0)))), (q5, .inl (cy 2, 2, .inl (iA (fun _ => 0)))), (q6, .inl (cy 0, 40, .inl (iA (fun _ => 0))))]) := hD
  refine va_putF F.1 F.2.1 F.2.2.2.2 inX7 tyX7 tyX7_ok nmX7 F.2.2.2.1 hK.1 hP hD hS 0 rfl rfl 7 (by decide) (F.2.2.2.2 _ tw881) (fun _ h => h) rfl hin rfl (tyX7_ok 7 (by decide)) rfl rfl (Nat.le_of_ble_eq_true rfl) dX7_init_50 (fun H locs hP hD hS => ?_)
  have hP : va_P D vwCl ([(b, .inr (7, [vI 0, .ref q1, .ref q2, .ref q3, vI 0, .ref q4, .ref q5, .ref q6, vI 0])), (q1, .inl (cy 1, 118, .inl (iA (fun _ => 0)))), (q2, .inl (cy 1, 118, .inl (iA (fun _ => 0)))), (q3, .inl (cy 1, 1652, .inl (iA (fun _ => 0)))), (q4, .inl (cy 1, 236, .inl (iA (fun _ => 0)))), (q5, .inl (cy 2, 2, .inl (iA (fun _ => 0)))), (q6, .inl (cy 0, 40, .inl (iA (fun _ => 0))))]) H := hP
  have hD : va_D _ ([(b, .inr (7, [vI 0, .ref q1, .ref q2, .ref q3, vI 0, .ref q4, .ref q5, .ref q6, vI 0])), (q1, .inl (cy 1, 118, .inl (iA (fun _ => 0)))), (q2, .inl (cy 1, 118, .inl (iA (fun _ => 0)))), (q3, .inl (cy 1, 1652, .inl (iA (fun _ => 0)))), (q4, .inl (cy 1, 236, .inl (iA (fun _ => 0)))), (q5, .inl (cy 2, 2, .inl (iA (fun _ => 0)))), (q6, .inl (cy 0, 40, .inl (iA (fun _ => 0))))]) := hD
  refine lv_aload_n F.1 F.2.1 dX7_init_53 rfl (lv_at hl 0 rfl) ?_
  refine rr_iconst F dX7_init_54 ?_
  refine pf7_0 F hK hP hD hS 0 rfl tw874 dX7_init_55 (fun H locs hP hD hS => ?_)
  have hP : va_P D vwCl ([(b, .inr (7, [vI 0, .ref q1, .ref q2, .ref q3, vI 0, .ref q4, .ref q5, .ref q6, vI 0])), (q1, .inl (cy 1, 118, .inl (iA (fun _ => 0)))), (q2, .inl (cy 1, 118, .inl (iA (fun _ => 0)))), (q3, .inl (cy 1, 1652, .inl (iA (fun _ => 0)))), (q4, .inl (cy 1, 236, .inl (iA (fun _ => 0)))), (q5, .inl (cy 2, 2, .inl (iA (fun _ => 0)))), (q6, .inl (cy 0, 40, .inl (iA (fun _ => 0))))]) H := hP
  have hD : va_D _ ([(b, .inr (7, [vI 0, .ref q1, .ref q2, .ref q3, vI 0, .ref q4, .ref q5, .ref q6, vI 0])), (q1, .inl (cy 1, 118, .inl (iA (fun _ => 0)))), (q2, .inl (cy 1, 118, .inl (iA (fun _ => 0)))), (q3, .inl (cy 1, 1652, .inl (iA (fun _ => 0)))), (q4, .inl (cy 1, 236, .inl (iA (fun _ => 0)))), (q5, .inl (cy 2, 2, .inl (iA (fun _ => 0)))), (q6, .inl (cy 0, 40, .inl (iA (fun _ => 0))))]) := hD
  exact rr_cvret F hr hlocks (fun _ k => [b, q1, q2, q3, q4, q5, q6].getD k 0) rfl (hP.sub [0, 1, 2, 3, 4, 5, 6] rfl) (hD.sub [0, 1, 2, 3, 4, 5, 6] (by decide) rfl) hS dX7_init_58
