-- the start of the law's world
theorem INV_0 : INV 0 0 z0 0 0 z0 z0 Z0 (fun _ => z0) (fun _ => Z0) (fun _ => z0) (fun _ => Z0) z0 z0 := by
  have hM : MR z0 := ⟨⟨by decide, by decide⟩, fun j x y => absurd y (by show ¬ j < 0; omega), ⟨by decide, by decide⟩, fun w x y => absurd y (by show ¬ w < 0; omega), ⟨by decide, by decide⟩, fun w x y => absurd y (by show ¬ w < 0; omega)⟩
  have hC : ∀ n : Int, CH n z0 := fun n j _ _ => ⟨Int.le_refl 0, (by decide : (0 : Int) < 65536)⟩
  have hZ : SBG z0 Z0 := ⟨hM, fun j x y => absurd y (by show ¬ j < 0; omega), fun w x y => absurd y (by show ¬ w < 0; omega), fun w x y => absurd y (by show ¬ w < 0; omega), hC 24, hC 60⟩
  exact ⟨⟨⟨by decide, by decide⟩, hC 40⟩, ⟨hZ, fun w x y => absurd y (by show ¬ w < 0; omega), by decide, by decide⟩, ⟨by decide, by decide⟩, ⟨by decide, by decide⟩, fun j x y => absurd y (by omega), fun k _ _ => ⟨Or.inl rfl, fun h => absurd (show (0 : Int) = 1 from h) (by decide)⟩⟩
def w7W (cy : Nat → ClassId) (u : NU) : va_W := [(u 0 0, .inr (7, [vI 0, .ref (u 0 1), .ref (u 0 2), .ref (u 0 3), vI 0, .ref (u 0 4), .ref (u 0 5), .ref (u 0 6), vI 0])), (u 0 1, .inl (cy 1, 118, .inl (iA (fun _ => 0)))), (u 0 2, .inl (cy 1, 118, .inl (iA (fun _ => 0)))), (u 0 3, .inl (cy 1, 1652, .inl (iA (fun _ => 0)))), (u 0 4, .inl (cy 1, 236, .inl (iA (fun _ => 0)))), (u 0 5, .inl (cy 2, 2, .inl (iA (fun _ => 0)))), (u 0 6, .inl (cy 0, 40, .inl (iA (fun _ => 0))))]
theorem w7_eq (cy : Nat → ClassId) (w : NU) : w7W cy w = bM w 0 0 0 ++ (bN cy w z0 ++ (bTh cy w z0 ++ (bPa cy w z0 ++ (bSl cy w z0 ++ (bSv cy w z0 ++ bTx cy w z0))))) := rfl
theorem x6_H (cy : Nat → ClassId) (u : NU) : hsW (u 4 0) (u 4 1) cy (rA (fun i => u (i.toNat + 7) 0)) = bH cy u 0 0 := rfl
theorem x6_P (cy : Nat → ClassId) (u : NU) : poolB (fun j => SBK cy (u (j + 7)) z0 Z0) 14 = poolB (bR cy u (fun _ => z0) (fun _ => Z0)) 14 := poolB_congr (fun j _ => rfl)
theorem x6_T (cy : Nat → ClassId) (u : NU) : ([(u 1 0, .inr (4, [.ref (u 1 1), vI 0])), (u 1 1, .inl (cy 0, 40, .inl (iA (fun _ => 0))))] : va_W) = bT cy u 0 z0 := rfl
theorem x6_X (u : NU) : ([(u 0 0, .inr (6, [.ref (u 1 0), .ref (u 2 0), .ref (u 3 0), .ref (u 4 0), .ref (u 0 1), .ref (u 0 2)]))] : va_W) = bX u := rfl
theorem x6_L (cy : Nat → ClassId) (u : NU) : slW (u 0 1) cy (rA (fun i => u (i.toNat + 5) 0)) = bL cy u := rfl
theorem x6_F (cy : Nat → ClassId) (u : NU) : fiW (u 0 2) cy (fun _ => 0) = bF cy u z0 := rfl
theorem x6_eq (cy : Nat → ClassId) (u : NU) : x6W cy u = bX u ++ (bT cy u 0 z0 ++ ((bA (u 2) z0 ++ (bB cy (u 2) z0 Z0 ++ bC cy (u 2) Z0)) ++ (SBK cy (u 3) z0 Z0 ++ ((bH cy u 0 0 ++ poolB (bR cy u (fun _ => z0) (fun _ => Z0)) 14) ++ (bL cy u ++ (bF cy u z0 ++ (SBK cy (u 5) z0 Z0 ++ SBK cy (u 6) z0 Z0))))))) := by
  unfold x6W
  rw [x6_X, x6_T, SBK_eq cy (u 2), x6_H, x6_P, x6_L, x6_F]
theorem bO_eq (cy : Nat → ClassId) (out : Nat) : ([(out, .inl (cy 5, 1, .inr (.inl (fun _ => 0))))] : va_W) = bO cy out (fun _ => 0) := rfl
theorem LW_0 (cy : Nat → ClassId) (u w : NU) (out : Nat) : ((w7W cy w ++ (x6W cy u ++ [])) ++ ([(out, .inl (cy 5, 1, .inr (.inl (fun _ => 0))))] : va_W)).Perm (LW cy u w out 0 z0 0 0 0 z0 z0 Z0 z0 Z0 (fun _ => z0) (fun _ => Z0) (fun _ => z0) (fun _ => Z0) z0 z0 z0 (fun _ => 0) 0 z0 0 z0 z0) := by
  rw [List.append_nil, w7_eq, x6_eq, bO_eq]
  exact perm_ct (fun c hc => by unfold LW; simp only [hc] <;> omega)
