-- RingReadings(): laid by ctor3.py
abbrev obW (b ci : Nat) (fs : List Value) : va_W := [(b, .inr (ci, fs))]
abbrev txW (u : NU) (cy : Nat → ClassId) : va_W := [(u 0 0, .inr (4, [.ref (u 0 1), vI 0])), (u 0 1, .inl (cy 0, 40, .inl (iA (fun _ => 0))))]
abbrev hyW (u : NU) (cy : Nat → ClassId) : va_W := hsW (u 0 0) (u 0 1) cy (rA (fun i => u (i.toNat + 1) 0)) ++ poolB (fun j => SBK cy (u (j + 1)) z0 Z0) 14
abbrev slW (q : Nat) (cy : Nat → ClassId) (f : Nat → Option Nat) : va_W := [(q, .inl (cy 3, 2, .inr (.inr (.inr (.inr f)))))]
abbrev fiW (q : Nat) (cy : Nat → ClassId) (f : Int → Int) : va_W := [(q, .inl (cy 2, 2, .inl (iA f)))]
def x6u (b qs qf : Nat) (ut us uk uh u5 u6 : NU) : NU := fun i => match i with
  | 0 => fun k => [b, qs, qf].getD k 0
  | 1 => ut 0
  | 2 => us 0
  | 3 => uk 0
  | 4 => uh 0
  | 5 => u5 0
  | 6 => u6 0
  | j + 7 => uh (j + 1)
def x6W (cy : Nat → ClassId) (u : NU) : va_W := [(u 0 0, .inr (6, [.ref (u 1 0), .ref (u 2 0), .ref (u 3 0), .ref (u 4 0), .ref (u 0 1), .ref (u 0 2)]))] ++ ([(u 1 0, .inr (4, [.ref (u 1 1), vI 0])), (u 1 1, .inl (cy 0, 40, .inl (iA (fun _ => 0))))] ++ (SBK cy (u 2) z0 Z0 ++ (SBK cy (u 3) z0 Z0 ++ ((hsW (u 4 0) (u 4 1) cy (rA (fun i => u (i.toNat + 7) 0)) ++ poolB (fun j => SBK cy (u (j + 7)) z0 Z0) 14) ++ (slW (u 0 1) cy (rA (fun i => u (i.toNat + 5) 0)) ++ (fiW (u 0 2) cy (fun _ => 0) ++ (SBK cy (u 5) z0 Z0 ++ SBK cy (u 6) z0 Z0)))))))
set_option maxRecDepth 100000 in
set_option maxHeartbeats 8000000 in
theorem c_X6_init (l : Launch) (D : va_G) (cy : Nat → ClassId) (b : Nat) : Cn l yX6_init cX6_init 2 4 204 2367 D cy b [(b, .inr (6, [.null, .null, .null, .null, .null, .null]))] (x6W cy) := by
  refine Cn.of RX6 rfl (by decide +kernel) rfl (Nat.le_of_ble_eq_true rfl) ?_
  intro p e s m args below meth c F hr hlocks hin hK hAO hP hD hS hA ls hl
  refine lv_aload_n F.1 F.2.1 dX6_init_0 rfl (lv_at hl 0 rfl) ?_
  refine rr_objInit F tw23 hl dX6_init_1 (Nat.le_of_ble_eq_true rfl) (Nat.le_of_ble_eq_true rfl) ?_
  refine lv_aload_n F.1 F.2.1 dX6_init_4 rfl (lv_at hl 0 rfl) ?_
  refine rr_mkN F hK hAO hP hD hS hA nfX4 tw26 (fun q => c_X4_init l D cy q) tn28 rfl rfl tw29 tw30 (by decide +kernel) ⟨Nat.le_of_ble_eq_true rfl, Nat.le_of_ble_eq_true rfl⟩ hl (Nat.le_of_ble_eq_true rfl) ⟨Nat.le_of_ble_eq_true rfl, Nat.le_of_ble_eq_true rfl⟩ dX6_init_5 dX6_init_8 dX6_init_9 (fun ut H locs hP hD hS => ?_)
  have hP : va_P D vwCl (txW ut cy ++ (obW b 6 [.null, .null, .null, .null, .null, .null])) H := hP
  have hD : va_D _ (txW ut cy ++ (obW b 6 [.null, .null, .null, .null, .null, .null])) := hD
  have hP : va_P D vwCl (obW b 6 [.null, .null, .null, .null, .null, .null] ++ (txW ut cy)) H := hP.perm (perm_ct (fun c hc => by simp only [hc]; omega))
  have hD : va_D _ (obW b 6 [.null, .null, .null, .null, .null, .null] ++ (txW ut cy)) := hD.perm (perm_ct (fun c hc => by simp only [hc]; omega))
  refine va_putF F.1 F.2.1 F.2.2.2.2 inX6 tyX6 tyX6_ok nmX6 F.2.2.2.1 hK.1 hP hD hS 0 rfl rfl 0 (by decide) (F.2.2.2.2 _ tw157) (fun _ h => h) rfl hin rfl (tyX6_ok 0 (by decide)) rfl rfl (Nat.le_of_ble_eq_true rfl) dX6_init_12 (fun H locs hP hD hS => ?_)
  have hP : va_P D vwCl (obW b 6 [.ref (ut 0 0), .null, .null, .null, .null, .null] ++ (txW ut cy)) H := hP
  have hD : va_D _ (obW b 6 [.ref (ut 0 0), .null, .null, .null, .null, .null] ++ (txW ut cy)) := hD
  refine lv_aload_n F.1 F.2.1 dX6_init_15 rfl (lv_at hl 0 rfl) ?_
  refine rr_mkI F hK hAO hP hD hS hA nfX3 tw44 (fun q => c_X3_init l D cy q) tw46 rfl rfl tw47 tw48 (by decide +kernel) ⟨Nat.le_of_ble_eq_true rfl, Nat.le_of_ble_eq_true rfl⟩ hl (Nat.le_of_ble_eq_true rfl) ⟨Nat.le_of_ble_eq_true rfl, Nat.le_of_ble_eq_true rfl⟩ dX6_init_16 dX6_init_19 dX6_init_20 (fun us H locs hP hD hS => ?_)
  have hP : va_P D vwCl (SBK cy (us 0) z0 Z0 ++ (obW b 6 [.ref (ut 0 0), .null, .null, .null, .null, .null] ++ (txW ut cy))) H := hP
  have hD : va_D _ (SBK cy (us 0) z0 Z0 ++ (obW b 6 [.ref (ut 0 0), .null, .null, .null, .null, .null] ++ (txW ut cy))) := hD
  have hP : va_P D vwCl (obW b 6 [.ref (ut 0 0), .null, .null, .null, .null, .null] ++ (SBK cy (us 0) z0 Z0 ++ (txW ut cy))) H := hP.perm (perm_ct (fun c hc => by simp only [hc]; omega))
  have hD : va_D _ (obW b 6 [.ref (ut 0 0), .null, .null, .null, .null, .null] ++ (SBK cy (us 0) z0 Z0 ++ (txW ut cy))) := hD.perm (perm_ct (fun c hc => by simp only [hc]; omega))
  refine va_putF F.1 F.2.1 F.2.2.2.2 inX6 tyX6 tyX6_ok nmX6 F.2.2.2.1 hK.1 hP hD hS 0 rfl rfl 1 (by decide) (F.2.2.2.2 _ tw158) (fun _ h => h) rfl hin rfl (tyX6_ok 1 (by decide)) rfl rfl (Nat.le_of_ble_eq_true rfl) dX6_init_23 (fun H locs hP hD hS => ?_)
  have hP : va_P D vwCl (obW b 6 [.ref (ut 0 0), .ref (us 0 0), .null, .null, .null, .null] ++ (SBK cy (us 0) z0 Z0 ++ (txW ut cy))) H := hP
  have hD : va_D _ (obW b 6 [.ref (ut 0 0), .ref (us 0 0), .null, .null, .null, .null] ++ (SBK cy (us 0) z0 Z0 ++ (txW ut cy))) := hD
  refine lv_aload_n F.1 F.2.1 dX6_init_26 rfl (lv_at hl 0 rfl) ?_
  refine rr_mkI F hK hAO hP hD hS hA nfX3 tw44 (fun q => c_X3_init l D cy q) tw46 rfl rfl tw47 tw48 (by decide +kernel) ⟨Nat.le_of_ble_eq_true rfl, Nat.le_of_ble_eq_true rfl⟩ hl (Nat.le_of_ble_eq_true rfl) ⟨Nat.le_of_ble_eq_true rfl, Nat.le_of_ble_eq_true rfl⟩ dX6_init_27 dX6_init_30 dX6_init_31 (fun uk H locs hP hD hS => ?_)
  have hP : va_P D vwCl (SBK cy (uk 0) z0 Z0 ++ (obW b 6 [.ref (ut 0 0), .ref (us 0 0), .null, .null, .null, .null] ++ (SBK cy (us 0) z0 Z0 ++ (txW ut cy)))) H := hP
  have hD : va_D _ (SBK cy (uk 0) z0 Z0 ++ (obW b 6 [.ref (ut 0 0), .ref (us 0 0), .null, .null, .null, .null] ++ (SBK cy (us 0) z0 Z0 ++ (txW ut cy)))) := hD
  have hP : va_P D vwCl (obW b 6 [.ref (ut 0 0), .ref (us 0 0), .null, .null, .null, .null] ++ (SBK cy (uk 0) z0 Z0 ++ (SBK cy (us 0) z0 Z0 ++ (txW ut cy)))) H := hP.perm (perm_ct (fun c hc => by simp only [hc]; omega))
  have hD : va_D _ (obW b 6 [.ref (ut 0 0), .ref (us 0 0), .null, .null, .null, .null] ++ (SBK cy (uk 0) z0 Z0 ++ (SBK cy (us 0) z0 Z0 ++ (txW ut cy)))) := hD.perm (perm_ct (fun c hc => by simp only [hc]; omega))
  refine va_putF F.1 F.2.1 F.2.2.2.2 inX6 tyX6 tyX6_ok nmX6 F.2.2.2.1 hK.1 hP hD hS 0 rfl rfl 2 (by decide) (F.2.2.2.2 _ tw159) (fun _ h => h) rfl hin rfl (tyX6_ok 2 (by decide)) rfl rfl (Nat.le_of_ble_eq_true rfl) dX6_init_34 (fun H locs hP hD hS => ?_)
  have hP : va_P D vwCl (obW b 6 [.ref (ut 0 0), .ref (us 0 0), .ref (uk 0 0), .null, .null, .null] ++ (SBK cy (uk 0) z0 Z0 ++ (SBK cy (us 0) z0 Z0 ++ (txW ut cy)))) H := hP
  have hD : va_D _ (obW b 6 [.ref (ut 0 0), .ref (us 0 0), .ref (uk 0 0), .null, .null, .null] ++ (SBK cy (uk 0) z0 Z0 ++ (SBK cy (us 0) z0 Z0 ++ (txW ut cy)))) := hD
  refine lv_aload_n F.1 F.2.1 dX6_init_37 rfl (lv_at hl 0 rfl) ?_
  refine rr_mkI F hK hAO hP hD hS hA nfX1 tw138 (fun q => c_X1_init l D cy q) tw140 rfl rfl tw141 tw142 (by decide +kernel) ⟨Nat.le_of_ble_eq_true rfl, Nat.le_of_ble_eq_true rfl⟩ hl (Nat.le_of_ble_eq_true rfl) ⟨Nat.le_of_ble_eq_true rfl, Nat.le_of_ble_eq_true rfl⟩ dX6_init_38 dX6_init_41 dX6_init_42 (fun uh H locs hP hD hS => ?_)
  have hP : va_P D vwCl (hyW uh cy ++ (obW b 6 [.ref (ut 0 0), .ref (us 0 0), .ref (uk 0 0), .null, .null, .null] ++ (SBK cy (uk 0) z0 Z0 ++ (SBK cy (us 0) z0 Z0 ++ (txW ut cy))))) H := hP
  have hD : va_D _ (hyW uh cy ++ (obW b 6 [.ref (ut 0 0), .ref (us 0 0), .ref (uk 0 0), .null, .null, .null] ++ (SBK cy (uk 0) z0 Z0 ++ (SBK cy (us 0) z0 Z0 ++ (txW ut cy))))) := hD
  have hP : va_P D vwCl (obW b 6 [.ref (ut 0 0), .ref (us 0 0), .ref (uk 0 0), .null, .null, .null] ++ (hyW uh cy ++ (SBK cy (uk 0) z0 Z0 ++ (SBK cy (us 0) z0 Z0 ++ (txW ut cy))))) H := hP.perm (perm_ct (fun c hc => by simp only [hc]; omega))
  have hD : va_D _ (obW b 6 [.ref (ut 0 0), .ref (us 0 0), .ref (uk 0 0), .null, .null, .null] ++ (hyW uh cy ++ (SBK cy (uk 0) z0 Z0 ++ (SBK cy (us 0) z0 Z0 ++ (txW ut cy))))) := hD.perm (perm_ct (fun c hc => by simp only [hc]; omega))
  refine va_putF F.1 F.2.1 F.2.2.2.2 inX6 tyX6 tyX6_ok nmX6 F.2.2.2.1 hK.1 hP hD hS 0 rfl rfl 3 (by decide) (F.2.2.2.2 _ tw160) (fun _ h => h) rfl hin rfl (tyX6_ok 3 (by decide)) rfl rfl (Nat.le_of_ble_eq_true rfl) dX6_init_45 (fun H locs hP hD hS => ?_)
  have hP : va_P D vwCl (obW b 6 [.ref (ut 0 0), .ref (us 0 0), .ref (uk 0 0), .ref (uh 0 0), .null, .null] ++ (hyW uh cy ++ (SBK cy (uk 0) z0 Z0 ++ (SBK cy (us 0) z0 Z0 ++ (txW ut cy))))) H := hP
  have hD : va_D _ (obW b 6 [.ref (ut 0 0), .ref (us 0 0), .ref (uk 0 0), .ref (uh 0 0), .null, .null] ++ (hyW uh cy ++ (SBK cy (uk 0) z0 Z0 ++ (SBK cy (us 0) z0 Z0 ++ (txW ut cy))))) := hD
  refine lv_aload_n F.1 F.2.1 dX6_init_48 rfl (lv_at hl 0 rfl) ?_
  refine rr_iconst F dX6_init_49 ?_
  refine rr_newq F hK hP hD hS hA 3 (C := RX3) tw44 hAO.1 rfl (n := 2) (by decide +kernel) (by decide +kernel) (by decide) ⟨Nat.le_of_ble_eq_true rfl, Nat.le_of_ble_eq_true rfl⟩ dX6_init_50 (fun qs H hP hD hS => ?_)
  have hP : va_P D vwCl ((obW b 6 [.ref (ut 0 0), .ref (us 0 0), .ref (uk 0 0), .ref (uh 0 0), .null, .null] ++ (hyW uh cy ++ (SBK cy (uk 0) z0 Z0 ++ (SBK cy (us 0) z0 Z0 ++ (txW ut cy))))) ++ slW qs cy (fun _ => none)) H := hP
  have hD : va_D _ ((obW b 6 [.ref (ut 0 0), .ref (us 0 0), .ref (uk 0 0), .ref (uh 0 0), .null, .null] ++ (hyW uh cy ++ (SBK cy (uk 0) z0 Z0 ++ (SBK cy (us 0) z0 Z0 ++ (txW ut cy))))) ++ slW qs cy (fun _ => none)) := hD
  have hP : va_P D vwCl (obW b 6 [.ref (ut 0 0), .ref (us 0 0), .ref (uk 0 0), .ref (uh 0 0), .null, .null] ++ (slW qs cy (fun _ => none) ++ (hyW uh cy ++ (SBK cy (uk 0) z0 Z0 ++ (SBK cy (us 0) z0 Z0 ++ (txW ut cy)))))) H := hP.perm (perm_ct (fun c hc => by simp only [hc]; omega))
  have hD : va_D _ (obW b 6 [.ref (ut 0 0), .ref (us 0 0), .ref (uk 0 0), .ref (uh 0 0), .null, .null] ++ (slW qs cy (fun _ => none) ++ (hyW uh cy ++ (SBK cy (uk 0) z0 Z0 ++ (SBK cy (us 0) z0 Z0 ++ (txW ut cy)))))) := hD.perm (perm_ct (fun c hc => by simp only [hc]; omega))
  refine va_putF F.1 F.2.1 F.2.2.2.2 inX6 tyX6 tyX6_ok nmX6 F.2.2.2.1 hK.1 hP hD hS 0 rfl rfl 4 (by decide) (F.2.2.2.2 _ tw161) (fun _ h => h) rfl hin rfl (tyX6_ok 4 (by decide)) rfl rfl (Nat.le_of_ble_eq_true rfl) dX6_init_53 (fun H locs hP hD hS => ?_)
  have hP : va_P D vwCl (obW b 6 [.ref (ut 0 0), .ref (us 0 0), .ref (uk 0 0), .ref (uh 0 0), .ref qs, .null] ++ (slW qs cy (fun _ => none) ++ (hyW uh cy ++ (SBK cy (uk 0) z0 Z0 ++ (SBK cy (us 0) z0 Z0 ++ (txW ut cy)))))) H := hP
  have hD : va_D _ (obW b 6 [.ref (ut 0 0), .ref (us 0 0), .ref (uk 0 0), .ref (uh 0 0), .ref qs, .null] ++ (slW qs cy (fun _ => none) ++ (hyW uh cy ++ (SBK cy (uk 0) z0 Z0 ++ (SBK cy (us 0) z0 Z0 ++ (txW ut cy)))))) := hD
  refine rr_iconst F dX6_init_56 ?_
  refine lv_istore_n (lv' := [(1, vI 0), (0, .ref b)]) F.1 F.2.1 dX6_init_57 rfl hl (by decide) rfl (fun ls hl => ?_)
  refine lv_iload_n F.1 F.2.1 dX6_init_58 rfl (lv_at hl 0 rfl) ?_
  refine rr_iconst F dX6_init_59 ?_
  refine rr_icmp_ge F (tgt := 82) dX6_init_60 (by decide) ⟨by omega, by omega⟩ ⟨by omega, by omega⟩ (fun z => by omega) (fun _ => ?_)
  refine lv_aload_n F.1 F.2.1 dX6_init_63 rfl (lv_at hl 1 rfl) ?_
  refine gf6_4 F hK hP 0 rfl tw161 dX6_init_64 ?_
  refine lv_iload_n F.1 F.2.1 dX6_init_67 rfl (lv_at hl 0 rfl) ?_
  refine rr_mkI F hK hAO hP hD hS hA nfX3 tw44 (fun q => c_X3_init l D cy q) tw46 rfl rfl tw47 tw48 (by decide +kernel) ⟨Nat.le_of_ble_eq_true rfl, Nat.le_of_ble_eq_true rfl⟩ hl (Nat.le_of_ble_eq_true rfl) ⟨Nat.le_of_ble_eq_true rfl, Nat.le_of_ble_eq_true rfl⟩ dX6_init_68 dX6_init_71 dX6_init_72 (fun u5 H locs hP hD hS => ?_)
  have hP : va_P D vwCl (SBK cy (u5 0) z0 Z0 ++ (obW b 6 [.ref (ut 0 0), .ref (us 0 0), .ref (uk 0 0), .ref (uh 0 0), .ref qs, .null] ++ (slW qs cy (fun _ => none) ++ (hyW uh cy ++ (SBK cy (uk 0) z0 Z0 ++ (SBK cy (us 0) z0 Z0 ++ (txW ut cy))))))) H := hP
  have hD : va_D _ (SBK cy (u5 0) z0 Z0 ++ (obW b 6 [.ref (ut 0 0), .ref (us 0 0), .ref (uk 0 0), .ref (uh 0 0), .ref qs, .null] ++ (slW qs cy (fun _ => none) ++ (hyW uh cy ++ (SBK cy (uk 0) z0 Z0 ++ (SBK cy (us 0) z0 Z0 ++ (txW ut cy))))))) := hD
  have hP : va_P D vwCl (obW b 6 [.ref (ut 0 0), .ref (us 0 0), .ref (uk 0 0), .ref (uh 0 0), .ref qs, .null] ++ (slW qs cy (fun _ => none) ++ (SBK cy (u5 0) z0 Z0 ++ (hyW uh cy ++ (SBK cy (uk 0) z0 Z0 ++ (SBK cy (us 0) z0 Z0 ++ (txW ut cy))))))) H := hP.perm (perm_ct (fun c hc => by simp only [hc]; omega))
  have hD : va_D _ (obW b 6 [.ref (ut 0 0), .ref (us 0 0), .ref (uk 0 0), .ref (uh 0 0), .ref qs, .null] ++ (slW qs cy (fun _ => none) ++ (SBK cy (u5 0) z0 Z0 ++ (hyW uh cy ++ (SBK cy (uk 0) z0 Z0 ++ (SBK cy (us 0) z0 Z0 ++ (txW ut cy))))))) := hD.perm (perm_ct (fun c hc => by simp only [hc]; omega))
  refine rr_aast F hK hP hD hS 1 3 2 3 rfl rfl rfl rfl (j := 0) rfl (by decide) (by decide) dX6_init_75 (fun H locs hP hD hS => ?_)
  have hP : va_P D vwCl (obW b 6 [.ref (ut 0 0), .ref (us 0 0), .ref (uk 0 0), .ref (uh 0 0), .ref qs, .null] ++ (slW qs cy (va_up (fun _ => none) 0 (some (u5 0 0))) ++ (SBK cy (u5 0) z0 Z0 ++ (hyW uh cy ++ (SBK cy (uk 0) z0 Z0 ++ (SBK cy (us 0) z0 Z0 ++ (txW ut cy))))))) H := hP
  have hD : va_D _ (obW b 6 [.ref (ut 0 0), .ref (us 0 0), .ref (uk 0 0), .ref (uh 0 0), .ref qs, .null] ++ (slW qs cy (va_up (fun _ => none) 0 (some (u5 0 0))) ++ (SBK cy (u5 0) z0 Z0 ++ (hyW uh cy ++ (SBK cy (uk 0) z0 Z0 ++ (SBK cy (us 0) z0 Z0 ++ (txW ut cy))))))) := hD
  refine lv_iinc (v := iI 1) (lv' := [(1, vI 1), (0, .ref b)]) F.1 F.2.1 dX6_init_76 hl (k := 0) rfl (iinc_ok (by first | rfl | omega)) (by decide) rfl (fun ls hl => ?_)
  refine lv_goto (tgt := 58) F.1 F.2.1 dX6_init_79 (by decide) ?_
  refine lv_iload_n F.1 F.2.1 dX6_init_58 rfl (lv_at hl 0 rfl) ?_
  refine rr_iconst F dX6_init_59 ?_
  refine rr_icmp_ge F (tgt := 82) dX6_init_60 (by decide) ⟨by omega, by omega⟩ ⟨by omega, by omega⟩ (fun z => by omega) (fun _ => ?_)
  refine lv_aload_n F.1 F.2.1 dX6_init_63 rfl (lv_at hl 1 rfl) ?_
  refine gf6_4 F hK hP 0 rfl tw161 dX6_init_64 ?_
  refine lv_iload_n F.1 F.2.1 dX6_init_67 rfl (lv_at hl 0 rfl) ?_
  refine rr_mkI F hK hAO hP hD hS hA nfX3 tw44 (fun q => c_X3_init l D cy q) tw46 rfl rfl tw47 tw48 (by decide +kernel) ⟨Nat.le_of_ble_eq_true rfl, Nat.le_of_ble_eq_true rfl⟩ hl (Nat.le_of_ble_eq_true rfl) ⟨Nat.le_of_ble_eq_true rfl, Nat.le_of_ble_eq_true rfl⟩ dX6_init_68 dX6_init_71 dX6_init_72 (fun u6 H locs hP hD hS => ?_)
  have hP : va_P D vwCl (SBK cy (u6 0) z0 Z0 ++ (obW b 6 [.ref (ut 0 0), .ref (us 0 0), .ref (uk 0 0), .ref (uh 0 0), .ref qs, .null] ++ (slW qs cy (va_up (fun _ => none) 0 (some (u5 0 0))) ++ (SBK cy (u5 0) z0 Z0 ++ (hyW uh cy ++ (SBK cy (uk 0) z0 Z0 ++ (SBK cy (us 0) z0 Z0 ++ (txW ut cy)))))))) H := hP
  have hD : va_D _ (SBK cy (u6 0) z0 Z0 ++ (obW b 6 [.ref (ut 0 0), .ref (us 0 0), .ref (uk 0 0), .ref (uh 0 0), .ref qs, .null] ++ (slW qs cy (va_up (fun _ => none) 0 (some (u5 0 0))) ++ (SBK cy (u5 0) z0 Z0 ++ (hyW uh cy ++ (SBK cy (uk 0) z0 Z0 ++ (SBK cy (us 0) z0 Z0 ++ (txW ut cy)))))))) := hD
  have hP : va_P D vwCl (obW b 6 [.ref (ut 0 0), .ref (us 0 0), .ref (uk 0 0), .ref (uh 0 0), .ref qs, .null] ++ (slW qs cy (va_up (fun _ => none) 0 (some (u5 0 0))) ++ (SBK cy (u6 0) z0 Z0 ++ (SBK cy (u5 0) z0 Z0 ++ (hyW uh cy ++ (SBK cy (uk 0) z0 Z0 ++ (SBK cy (us 0) z0 Z0 ++ (txW ut cy)))))))) H := hP.perm (perm_ct (fun c hc => by simp only [hc]; omega))
  have hD : va_D _ (obW b 6 [.ref (ut 0 0), .ref (us 0 0), .ref (uk 0 0), .ref (uh 0 0), .ref qs, .null] ++ (slW qs cy (va_up (fun _ => none) 0 (some (u5 0 0))) ++ (SBK cy (u6 0) z0 Z0 ++ (SBK cy (u5 0) z0 Z0 ++ (hyW uh cy ++ (SBK cy (uk 0) z0 Z0 ++ (SBK cy (us 0) z0 Z0 ++ (txW ut cy)))))))) := hD.perm (perm_ct (fun c hc => by simp only [hc]; omega))
  refine rr_aast F hK hP hD hS 1 3 2 3 rfl rfl rfl rfl (j := 1) rfl (by decide) (by decide) dX6_init_75 (fun H locs hP hD hS => ?_)
  have hP : va_P D vwCl (obW b 6 [.ref (ut 0 0), .ref (us 0 0), .ref (uk 0 0), .ref (uh 0 0), .ref qs, .null] ++ (slW qs cy (va_up (va_up (fun _ => none) 0 (some (u5 0 0))) 1 (some (u6 0 0))) ++ (SBK cy (u6 0) z0 Z0 ++ (SBK cy (u5 0) z0 Z0 ++ (hyW uh cy ++ (SBK cy (uk 0) z0 Z0 ++ (SBK cy (us 0) z0 Z0 ++ (txW ut cy)))))))) H := hP
  have hD : va_D _ (obW b 6 [.ref (ut 0 0), .ref (us 0 0), .ref (uk 0 0), .ref (uh 0 0), .ref qs, .null] ++ (slW qs cy (va_up (va_up (fun _ => none) 0 (some (u5 0 0))) 1 (some (u6 0 0))) ++ (SBK cy (u6 0) z0 Z0 ++ (SBK cy (u5 0) z0 Z0 ++ (hyW uh cy ++ (SBK cy (uk 0) z0 Z0 ++ (SBK cy (us 0) z0 Z0 ++ (txW ut cy)))))))) := hD
  refine lv_iinc (v := iI 2) (lv' := [(1, vI 2), (0, .ref b)]) F.1 F.2.1 dX6_init_76 hl (k := 0) rfl (iinc_ok (by first | rfl | omega)) (by decide) rfl (fun ls hl => ?_)
  refine lv_goto (tgt := 58) F.1 F.2.1 dX6_init_79 (by decide) ?_
  refine lv_iload_n F.1 F.2.1 dX6_init_58 rfl (lv_at hl 0 rfl) ?_
  refine rr_iconst F dX6_init_59 ?_
  refine rr_icmp_ge F (tgt := 82) dX6_init_60 (by decide) ⟨by omega, by omega⟩ ⟨by omega, by omega⟩ (fun _ => ?_) (fun z => by omega)
  refine lv_aload_n F.1 F.2.1 dX6_init_82 rfl (lv_at hl 1 rfl) ?_
  refine rr_iconst F dX6_init_83 ?_
  refine rr_newa F hK hP hD hS hA 2 (ty := FieldType.boolean) rfl tw176 rfl (n := 2) (a0 := (2, .inl (iA (fun _ => 0)))) (fun _ => rfl) (by decide +kernel) (by decide +kernel) (by decide) ⟨Nat.le_of_ble_eq_true rfl, Nat.le_of_ble_eq_true rfl⟩ dX6_init_84 (fun qf H hP hD hS => ?_)
  have hP : va_P D vwCl ((obW b 6 [.ref (ut 0 0), .ref (us 0 0), .ref (uk 0 0), .ref (uh 0 0), .ref qs, .null] ++ (slW qs cy (va_up (va_up (fun _ => none) 0 (some (u5 0 0))) 1 (some (u6 0 0))) ++ (SBK cy (u6 0) z0 Z0 ++ (SBK cy (u5 0) z0 Z0 ++ (hyW uh cy ++ (SBK cy (uk 0) z0 Z0 ++ (SBK cy (us 0) z0 Z0 ++ (txW ut cy)))))))) ++ fiW qf cy (fun _ => 0)) H := hP
  have hD : va_D _ ((obW b 6 [.ref (ut 0 0), .ref (us 0 0), .ref (uk 0 0), .ref (uh 0 0), .ref qs, .null] ++ (slW qs cy (va_up (va_up (fun _ => none) 0 (some (u5 0 0))) 1 (some (u6 0 0))) ++ (SBK cy (u6 0) z0 Z0 ++ (SBK cy (u5 0) z0 Z0 ++ (hyW uh cy ++ (SBK cy (uk 0) z0 Z0 ++ (SBK cy (us 0) z0 Z0 ++ (txW ut cy)))))))) ++ fiW qf cy (fun _ => 0)) := hD
  have hP : va_P D vwCl (obW b 6 [.ref (ut 0 0), .ref (us 0 0), .ref (uk 0 0), .ref (uh 0 0), .ref qs, .null] ++ (fiW qf cy (fun _ => 0) ++ (slW qs cy (va_up (va_up (fun _ => none) 0 (some (u5 0 0))) 1 (some (u6 0 0))) ++ (SBK cy (u6 0) z0 Z0 ++ (SBK cy (u5 0) z0 Z0 ++ (hyW uh cy ++ (SBK cy (uk 0) z0 Z0 ++ (SBK cy (us 0) z0 Z0 ++ (txW ut cy))))))))) H := hP.perm (perm_ct (fun c hc => by simp only [hc]; omega))
  have hD : va_D _ (obW b 6 [.ref (ut 0 0), .ref (us 0 0), .ref (uk 0 0), .ref (uh 0 0), .ref qs, .null] ++ (fiW qf cy (fun _ => 0) ++ (slW qs cy (va_up (va_up (fun _ => none) 0 (some (u5 0 0))) 1 (some (u6 0 0))) ++ (SBK cy (u6 0) z0 Z0 ++ (SBK cy (u5 0) z0 Z0 ++ (hyW uh cy ++ (SBK cy (uk 0) z0 Z0 ++ (SBK cy (us 0) z0 Z0 ++ (txW ut cy))))))))) := hD.perm (perm_ct (fun c hc => by simp only [hc]; omega))
  refine va_putF F.1 F.2.1 F.2.2.2.2 inX6 tyX6 tyX6_ok nmX6 F.2.2.2.1 hK.1 hP hD hS 0 rfl rfl 5 (by decide) (F.2.2.2.2 _ tw162) (fun _ h => h) rfl hin rfl (tyX6_ok 5 (by decide)) rfl rfl (Nat.le_of_ble_eq_true rfl) dX6_init_86 (fun H locs hP hD hS => ?_)
  have hP : va_P D vwCl (obW b 6 [.ref (ut 0 0), .ref (us 0 0), .ref (uk 0 0), .ref (uh 0 0), .ref qs, .ref qf] ++ (fiW qf cy (fun _ => 0) ++ (slW qs cy (va_up (va_up (fun _ => none) 0 (some (u5 0 0))) 1 (some (u6 0 0))) ++ (SBK cy (u6 0) z0 Z0 ++ (SBK cy (u5 0) z0 Z0 ++ (hyW uh cy ++ (SBK cy (uk 0) z0 Z0 ++ (SBK cy (us 0) z0 Z0 ++ (txW ut cy))))))))) H := hP
  have hD : va_D _ (obW b 6 [.ref (ut 0 0), .ref (us 0 0), .ref (uk 0 0), .ref (uh 0 0), .ref qs, .ref qf] ++ (fiW qf cy (fun _ => 0) ++ (slW qs cy (va_up (va_up (fun _ => none) 0 (some (u5 0 0))) 1 (some (u6 0 0))) ++ (SBK cy (u6 0) z0 Z0 ++ (SBK cy (u5 0) z0 Z0 ++ (hyW uh cy ++ (SBK cy (uk 0) z0 Z0 ++ (SBK cy (us 0) z0 Z0 ++ (txW ut cy))))))))) := hD
  have hP := va_P_rowR (ws := obW b 6 [.ref (ut 0 0), .ref (us 0 0), .ref (uk 0 0), .ref (uh 0 0), .ref qs, .ref qf] ++ (fiW qf cy (fun _ => 0) ++ (slW qs cy (va_up (va_up (fun _ => none) 0 (some (u5 0 0))) 1 (some (u6 0 0))) ++ (SBK cy (u6 0) z0 Z0 ++ (SBK cy (u5 0) z0 Z0 ++ (hyW uh cy ++ (SBK cy (uk 0) z0 Z0 ++ (SBK cy (us 0) z0 Z0 ++ (txW ut cy))))))))) (q1 := 2) (g := (rA (fun i => x6u b qs qf ut us uk uh u5 u6 (i.toNat + 5) 0))) (fun j hj => by rcases (show j = 0 ∨ j = 1 by omega) with rfl | rfl <;> rfl) hP
  have hD := hD.like (w' := (obW b 6 [.ref (ut 0 0), .ref (us 0 0), .ref (uk 0 0), .ref (uh 0 0), .ref qs, .ref qf] ++ (fiW qf cy (fun _ => 0) ++ (slW qs cy (va_up (va_up (fun _ => none) 0 (some (u5 0 0))) 1 (some (u6 0 0))) ++ (SBK cy (u6 0) z0 Z0 ++ (SBK cy (u5 0) z0 Z0 ++ (hyW uh cy ++ (SBK cy (uk 0) z0 Z0 ++ (SBK cy (us 0) z0 Z0 ++ (txW ut cy))))))))).set 2 (qs, .inl (cy 3, 2, .inr (.inr (.inr (.inr (rA (fun i => x6u b qs qf ut us uk uh u5 u6 (i.toNat + 5) 0)))))))) rfl
  have hP : va_P D vwCl (obW b 6 [.ref (ut 0 0), .ref (us 0 0), .ref (uk 0 0), .ref (uh 0 0), .ref qs, .ref qf] ++ (fiW qf cy (fun _ => 0) ++ (slW qs cy (rA (fun i => x6u b qs qf ut us uk uh u5 u6 (i.toNat + 5) 0)) ++ (SBK cy (u6 0) z0 Z0 ++ (SBK cy (u5 0) z0 Z0 ++ (hyW uh cy ++ (SBK cy (uk 0) z0 Z0 ++ (SBK cy (us 0) z0 Z0 ++ (txW ut cy))))))))) H := hP
  have hD : va_D _ (obW b 6 [.ref (ut 0 0), .ref (us 0 0), .ref (uk 0 0), .ref (uh 0 0), .ref qs, .ref qf] ++ (fiW qf cy (fun _ => 0) ++ (slW qs cy (rA (fun i => x6u b qs qf ut us uk uh u5 u6 (i.toNat + 5) 0)) ++ (SBK cy (u6 0) z0 Z0 ++ (SBK cy (u5 0) z0 Z0 ++ (hyW uh cy ++ (SBK cy (uk 0) z0 Z0 ++ (SBK cy (us 0) z0 Z0 ++ (txW ut cy))))))))) := hD
  have hP : va_P D vwCl (obW b 6 [.ref (ut 0 0), .ref (us 0 0), .ref (uk 0 0), .ref (uh 0 0), .ref qs, .ref qf] ++ (txW ut cy ++ (SBK cy (us 0) z0 Z0 ++ (SBK cy (uk 0) z0 Z0 ++ (hyW uh cy ++ (slW qs cy (rA (fun i => x6u b qs qf ut us uk uh u5 u6 (i.toNat + 5) 0)) ++ (fiW qf cy (fun _ => 0) ++ (SBK cy (u5 0) z0 Z0 ++ SBK cy (u6 0) z0 Z0)))))))) H := hP.perm (perm_ct (fun c hc => by simp only [hc]; omega))
  have hD : va_D _ (obW b 6 [.ref (ut 0 0), .ref (us 0 0), .ref (uk 0 0), .ref (uh 0 0), .ref qs, .ref qf] ++ (txW ut cy ++ (SBK cy (us 0) z0 Z0 ++ (SBK cy (uk 0) z0 Z0 ++ (hyW uh cy ++ (slW qs cy (rA (fun i => x6u b qs qf ut us uk uh u5 u6 (i.toNat + 5) 0)) ++ (fiW qf cy (fun _ => 0) ++ (SBK cy (u5 0) z0 Z0 ++ SBK cy (u6 0) z0 Z0)))))))) := hD.perm (perm_ct (fun c hc => by simp only [hc]; omega))
  exact rr_cvret F hr hlocks (x6u b qs qf ut us uk uh u5 u6) rfl hP hD hS dX6_init_89
