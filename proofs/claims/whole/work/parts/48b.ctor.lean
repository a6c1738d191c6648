-- History(), RingReadings(): laid by ctor2.py
/-- blocks, one behind the other -/
def poolB (f : Nat → va_W) : Nat → va_W
  | 0 => []
  | k + 1 => poolB f k ++ f k
theorem poolB_congr {f g : Nat → va_W} : ∀ {k : Nat}, (∀ j, j < k → f j = g j) → poolB f k = poolB g k
  | 0, _ => rfl
  | k + 1, h => by show poolB f k ++ f k = poolB g k ++ g k; rw [poolB_congr (fun j hj => h j (by omega)), h k (by omega)]
def skipB (r : Nat) (f : Nat → va_W) : Nat → va_W := fun j => if j = r then [] else f j
theorem poolB_split {f : Nat → va_W} {r : Nat} : ∀ {k : Nat}, r < k → (poolB f k).Perm (f r ++ poolB (skipB r f) k)
  | 0, h => absurd h (Nat.not_lt_zero _)
  | k + 1, h => by
    by_cases e : r = k
    · subst e
      show (poolB f r ++ f r).Perm (f r ++ (poolB (skipB r f) r ++ skipB r f r))
      rw [show skipB r f r = [] from if_pos rfl, List.append_nil, poolB_congr (f := skipB r f) (g := f) (fun j hj => if_neg (by omega))]
      exact List.perm_append_comm
    · have ih := poolB_split (f := f) (r := r) (k := k) (by omega)
      show (poolB f k ++ f k).Perm (f r ++ (poolB (skipB r f) k ++ skipB r f k))
      rw [show skipB r f k = f k from if_neg (fun h => e h.symm), ← List.append_assoc]
      exact ih.append_right _
abbrev hsW (b rw : Nat) (cy : Nat → ClassId) (f : Nat → Option Nat) : va_W := [(b, .inr (1, [.ref rw, vI 0, vI 0])), (rw, .inl (cy 3, 14, .inr (.inr (.inr (.inr f)))))]
set_option maxRecDepth 100000 in
set_option maxHeartbeats 4000000 in
theorem X1_loop {p : Program} {l : Launch} {e : Env} {s : State} {m : MethodId} {args : Array Value} {below : List Frame} {meth : Method} {c : Code} {Q : State → Prop} {D : va_G} {cy : Nat → ClassId} {A : Nat → Prop} {H0 : Heap} {b rw : Nat} (F : FX p m c cX1_init 2 s args RX1) (hK : KK D cy s) (hAO : AOK s) (hA : ∀ q, H0.size ≤ q → A q)
    (kend : ∀ (V : Nat → Nat → Nat) (f : Nat → Option Nat) (H : Heap) (locs : List Loc) (ls : Array Slot), (∀ j, j < 14 → f j = some (V j 0)) → va_P D vwCl (hsW b rw cy f ++ poolB (fun j => SBK cy (V j) z0 Z0) 14) H → va_D A (hsW b rw cy f ++ poolB (fun j => SBK cy (V j) z0 Z0) 14) → va_S A H0 H locs → W p l e (rmC 3 155 1806) s m args below meth c H locs 155 1806 Q (F0 m 40 ls [])) :
    ∀ (n k : Nat), k + n = 14 → ∀ (V : Nat → Nat → Nat) (f : Nat → Option Nat) (H : Heap) (locs : List Loc) (ls : Array Slot), (∀ j, j < k → f j = some (V j 0)) → va_P D vwCl (hsW b rw cy f ++ poolB (fun j => SBK cy (V j) z0 Z0) k) H → va_D A (hsW b rw cy f ++ poolB (fun j => SBK cy (V j) z0 Z0) k) → va_S A H0 H locs → lv_has ls 2 [(1, vI (k : Int)), (0, .ref b)] → W p l e (rmC 3 155 1806) s m args below meth c H locs (1 + 11 * k) (14 + 128 * k) Q (F0 m 15 ls []) := by
  intro n
  induction n with
  | zero =>
    intro k hk V f H locs ls hf hP hD hS hl
    obtain rfl : k = 14 := by omega
    refine lv_iload_n F.1 F.2.1 dX1_init_15 rfl (lv_at hl 0 rfl) ?_
    refine rr_bipush F dX1_init_16 (by decide) ?_
    refine rr_icmp_ge F (tgt := 40) dX1_init_18 (by decide) ⟨by omega, by omega⟩ ⟨by omega, by omega⟩ (fun _ => ?_) (fun z => by omega)
    exact kend V f H locs ls hf hP hD hS
  | succ n ih =>
    intro k hk V f H locs ls hf hP hD hS hl
    refine lv_iload_n F.1 F.2.1 dX1_init_15 rfl (lv_at hl 0 rfl) ?_
    refine rr_bipush F dX1_init_16 (by decide) ?_
    refine rr_icmp_ge F (tgt := 40) dX1_init_18 (by decide) ⟨by omega, by omega⟩ ⟨by omega, by omega⟩ (fun z => by omega) (fun _ => ?_)
    refine lv_aload_n F.1 F.2.1 dX1_init_21 rfl (lv_at hl 1 rfl) ?_
    refine gf1_0 F hK hP 0 rfl tw147 dX1_init_22 ?_
    refine lv_iload_n F.1 F.2.1 dX1_init_25 rfl (lv_at hl 0 rfl) ?_
    refine rr_mkI F hK hAO hP hD hS hA nfX3 tw144 (fun q => c_X3_init l D cy q) tw146 rfl rfl tw47 tw48 (by decide +kernel) ⟨Nat.le_of_ble_eq_true rfl, Nat.le_of_ble_eq_true rfl⟩ hl (Nat.le_of_ble_eq_true rfl) ⟨by show 1 + 11 * k + 1 + 10 ≤ 155; omega, by show 14 + 128 * k + 5 + 123 ≤ 1806; omega⟩ dX1_init_26 dX1_init_29 dX1_init_30 (fun u H locs hP hD hS => ?_)
    generalize hpl : poolB (fun j => SBK cy (V j) z0 Z0) k = pl at hP hD
    refine rr_aast F hK hP hD hS 12 3 0 3 rfl rfl rfl rfl (j := k) rfl (by omega) (by decide) dX1_init_33 (fun H locs hP hD hS => ?_)
    have hP : va_P D vwCl (SBK cy (u 0) z0 Z0 ++ (hsW b rw cy (va_up f k (some (u 0 0))) ++ pl)) H := hP
    have hD : va_D _ (SBK cy (u 0) z0 Z0 ++ (hsW b rw cy (va_up f k (some (u 0 0))) ++ pl)) := hD
    have e1 : pl = poolB (fun j => SBK cy (if j = k then u 0 else V j) z0 Z0) k := by
      rw [← hpl]
      exact poolB_congr (fun j hj => by rw [if_neg (by omega)])
    have e2 : SBK cy (u 0) z0 Z0 = SBK cy (if k = k then u 0 else V k) z0 Z0 := by rw [if_pos rfl]
    have pp : (SBK cy (u 0) z0 Z0 ++ (hsW b rw cy (va_up f k (some (u 0 0))) ++ pl)).Perm (hsW b rw cy (va_up f k (some (u 0 0))) ++ poolB (fun j => SBK cy (if j = k then u 0 else V j) z0 Z0) (k + 1)) := by
      show List.Perm _ (_ ++ (poolB (fun j => SBK cy (if j = k then u 0 else V j) z0 Z0) k ++ SBK cy (if k = k then u 0 else V k) z0 Z0))
      rw [← e1, ← e2]
      exact perm_ct (fun c hc => by simp only [hc]; omega)
    refine lv_iinc (v := iI ((k + 1 : Nat) : Int)) (lv' := [(1, vI ((k + 1 : Nat) : Int)), (0, .ref b)]) F.1 F.2.1 dX1_init_34 hl (k := 0) rfl (iinc_ok (by omega)) (by decide) rfl (fun ls hl => ?_)
    refine lv_goto (tgt := 15) F.1 F.2.1 dX1_init_37 (by decide) ?_
    have hc1 : 1 + 11 * k + 1 + 10 = 1 + 11 * (k + 1) := by omega
    have hc2 : 14 + 128 * k + 5 + 123 = 14 + 128 * (k + 1) := by omega
    rw [hc1, hc2]
    refine ih (k + 1) (by omega) (fun j => if j = k then u 0 else V j) (va_up f k (some (u 0 0))) H locs ls (fun j hj => ?_) (hP.perm pp) (hD.perm pp) hS hl
    show (if j = k then some (u 0 0) else f j) = some ((if j = k then u 0 else V j) 0)
    by_cases e : j = k
    · rw [if_pos e, if_pos e]
    · rw [if_neg e, if_neg e]; exact hf j (by omega)
set_option maxRecDepth 100000 in
set_option maxHeartbeats 4000000 in
theorem c_X1_init (l : Launch) (D : va_G) (cy : Nat → ClassId) (b : Nat) : Cn l yX1_init cX1_init 2 3 155 1806 D cy b [(b, .inr (1, [.null, vI 0, vI 0]))] (fun u => hsW (u 0 0) (u 0 1) cy (rA (fun i => u (i.toNat + 1) 0)) ++ poolB (fun j => SBK cy (u (j + 1)) z0 Z0) 14) := by
  refine Cn.of RX1 rfl (by decide +kernel) rfl (Nat.le_of_ble_eq_true rfl) ?_
  intro p e s m args below meth c F hr hlocks hin hK hAO hP hD hS hA ls hl
  refine lv_aload_n F.1 F.2.1 dX1_init_0 rfl (lv_at hl 0 rfl) ?_
  refine rr_objInit F tw143 hl dX1_init_1 (Nat.le_of_ble_eq_true rfl) (Nat.le_of_ble_eq_true rfl) ?_
  refine lv_aload_n F.1 F.2.1 dX1_init_4 rfl (lv_at hl 0 rfl) ?_
  refine rr_bipush F dX1_init_5 (by decide) ?_
  refine rr_newq F hK hP hD hS hA 3 (C := RX3) tw144 hAO.1 rfl (n := 14) (by decide +kernel) (by decide +kernel) (by decide) ⟨Nat.le_of_ble_eq_true rfl, Nat.le_of_ble_eq_true rfl⟩ dX1_init_7 (fun q H hP hD hS => ?_)
  refine va_putF F.1 F.2.1 F.2.2.2.2 inX1 tyX1 tyX1_ok nmX1 F.2.2.2.1 hK.1 hP hD hS 0 rfl rfl 0 (by decide) (F.2.2.2.2 _ tw147) (fun _ h => h) rfl hin rfl (tyX1_ok 0 (by decide)) rfl rfl (Nat.le_of_ble_eq_true rfl) dX1_init_10 (fun H locs hP hD hS => ?_)
  refine rr_iconst F dX1_init_13 ?_
  refine lv_istore_n (lv' := [(1, vI ((0 : Nat) : Int)), (0, .ref b)]) F.1 F.2.1 dX1_init_14 rfl hl (by decide) rfl (fun ls hl => ?_)
  refine X1_loop F hK hAO hA (fun V f H locs ls hf hP hD hS => ?_) 14 0 rfl (fun _ _ => b) (fun _ => none) H locs ls (fun j hj => absurd hj (Nat.not_lt_zero _)) hP hD hS hl
  have hP : va_P D vwCl (hsW b q cy (rA (fun i => V i.toNat 0)) ++ poolB (fun j => SBK cy (V j) z0 Z0) 14) H := va_P_rowR (ws := hsW b q cy f ++ poolB (fun j => SBK cy (V j) z0 Z0) 14) (q1 := 1) (g := rA (fun i => V i.toNat 0)) (fun j hj => by rw [hf j hj]; rfl) hP
  have hD : va_D _ (hsW b q cy (rA (fun i => V i.toNat 0)) ++ poolB (fun j => SBK cy (V j) z0 Z0) 14) := hD.like rfl
  exact rr_cvret F hr hlocks (fun i => match i with | 0 => (fun k => [b, q].getD k 0) | j + 1 => V j) rfl hP hD hS dX1_init_40
