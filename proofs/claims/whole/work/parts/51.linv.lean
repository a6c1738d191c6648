-- what holds at the head of the law's loop
def SV (a : Int → Int) : Prop := ∀ w, 0 ≤ w → w < a 96 → bor (a (97 + 5 * w + 4)) (vw (a 0) (a (97 + 5 * w + 0)) (a (97 + 5 * w + 1)) (a (97 + 5 * w + 3))) = a (97 + 5 * w + 4)
def GD (N : Int) (a : Int → Int) (G : Int → Int → Int) : Prop := SBG a G ∧ SV a ∧ 0 ≤ a 117 ∧ a 117 ≤ N
def INV (N tl : Int) (tc : Int → Int) (ol ct : Int) (fv a : Int → Int) (G : Int → Int → Int) (As : Nat → Int → Int) (Gs : Nat → Int → Int → Int) (Ah : Nat → Int → Int) (Gh : Nat → Int → Int → Int) (ap asl : Int → Int) : Prop :=
  ((0 ≤ tl ∧ tl ≤ 40) ∧ CH 40 tc) ∧ GD N a G ∧ (0 ≤ ol ∧ ol < 14) ∧ (0 ≤ ct ∧ ct ≤ 14) ∧ (∀ j : Int, 0 ≤ j → j < ct → GD N (Ah ((ol + j) % 14).toNat) (Gh ((ol + j) % 14).toNat) ∧ ∀ i : Int, 0 ≤ i → i < 118 → ap (118 * j + i) = Ah ((ol + j) % 14).toNat i) ∧ (∀ k : Int, 0 ≤ k → k < 2 → (fv k = 0 ∨ fv k = 1) ∧ (fv k = 1 → GD N (As k.toNat) (Gs k.toNat) ∧ ∀ i : Int, 0 ≤ i → i < 118 → asl (118 * k + i) = As k.toNat i))
def upN {α : Type} (f : Nat → α) (r : Nat) (v : α) : Nat → α := fun j => if j = r then v else f j
theorem upN_s {α : Type} {f : Nat → α} {r : Nat} {v : α} : upN f r v r = v := if_pos rfl
theorem upN_n {α : Type} {f : Nat → α} {r j : Nat} {v : α} (h : ¬ j = r) : upN f r v j = f j := if_neg h
theorem GD.mono {N M : Int} {a : Int → Int} {G : Int → Int → Int} (h : N ≤ M) (g : GD N a G) : GD M a G := ⟨g.1, g.2.1, g.2.2.1, by have := g.2.2.2; omega⟩
section B51
variable {N tl : Int} {tc : Int → Int} {ol ct : Int} {fv a : Int → Int} {G : Int → Int → Int} {As : Nat → Int → Int} {Gs : Nat → Int → Int → Int} {Ah : Nat → Int → Int} {Gh : Nat → Int → Int → Int} {ap asl : Int → Int}
theorem INV.mono {M : Int} (h : N ≤ M) (k : INV N tl tc ol ct fv a G As Gs Ah Gh ap asl) : INV M tl tc ol ct fv a G As Gs Ah Gh ap asl := by
  obtain ⟨h1, h2, h3, h4, h5, h6⟩ := k
  exact ⟨h1, h2.mono h, h3, h4, fun j x y => ⟨(h5 j x y).1.mono h, (h5 j x y).2⟩, fun k x y => ⟨(h6 k x y).1, fun z => ⟨((h6 k x y).2 z).1.mono h, ((h6 k x y).2 z).2⟩⟩⟩
theorem INV.text {tl2 : Int} {tc2 : Int → Int} (h : (0 ≤ tl2 ∧ tl2 ≤ 40) ∧ CH 40 tc2) (k : INV N tl tc ol ct fv a G As Gs Ah Gh ap asl) : INV N tl2 tc2 ol ct fv a G As Gs Ah Gh ap asl := ⟨h, k.2⟩
theorem remN_ct (h : 0 ≤ ct ∧ ct ≤ 14) : remN ct = if ct < 14 then ct + 1 else ct := by
  unfold remN
  by_cases e : ct = 14
  · rw [if_pos e, if_neg (by omega)]; exact e.symm
  · rw [if_neg e, if_pos (by omega)]
theorem INV.rem {M : Int} {a2 : Int → Int} {G2 : Int → Int → Int} (h : N ≤ M) (k : INV N tl tc ol ct fv a G As Gs Ah Gh ap asl) (g : GD M a2 G2) :
    INV M tl tc (if ct < 14 then ol else (ol + 1) % 14) (if ct < 14 then ct + 1 else ct) fv a2 G2 As Gs (upN Ah ((ol + ct) % 14).toNat a) (upN Gh ((ol + ct) % 14).toNat G) (remA a ap ct) asl := by
  obtain ⟨h1, h2, h3, h4, h5, h6⟩ := k
  refine ⟨h1, g, ?_, ?_, ?_, fun k x y => ⟨(h6 k x y).1, fun z => ⟨((h6 k x y).2 z).1.mono h, ((h6 k x y).2 z).2⟩⟩⟩
  · split <;> omega
  · split <;> omega
  · by_cases hc : ct < 14
    · rw [if_pos hc, if_pos hc]
      intro j x y
      by_cases e : j = ct
      · subst e
        refine ⟨by rw [upN_s, upN_s]; exact h2.mono h, fun i y0 y1 => ?_⟩
        rw [upN_s]
        unfold remA
        rw [if_neg (show ¬ j = 14 by omega), if_neg (show ¬ j = 14 by omega), cpZ_in (by omega) (by omega)]
        congr 1; omega
      · have hne : ¬ ((ol + j) % 14).toNat = ((ol + ct) % 14).toNat := by omega
        rw [upN_n hne, upN_n hne]
        refine ⟨(h5 j x (by omega)).1.mono h, fun i y0 y1 => ?_⟩
        rw [← (h5 j x (by omega)).2 i y0 y1]
        unfold remA cpZ
        rw [if_neg (show ¬ ct = 14 by omega), if_neg (show ¬ ct = 14 by omega), if_neg (by omega)]
    · obtain rfl : ct = 14 := by omega
      rw [if_neg hc, if_neg hc]
      intro j x y
      have e0 : (ol + 14) % 14 = ol := by omega
      rw [e0]
      by_cases e : j = 13
      · subst e
        have e1 : ((ol + 1) % 14 + 13) % 14 = ol := by omega
        rw [e1]
        refine ⟨by rw [upN_s, upN_s]; exact h2.mono h, fun i y0 y1 => ?_⟩
        rw [upN_s]
        unfold remA
        rw [if_pos rfl, if_pos rfl, cpZ_in (by omega) (by omega)]
        congr 1; omega
      · have e1 : ((ol + 1) % 14 + j) % 14 = (ol + (j + 1)) % 14 := by omega
        have hne : ¬ ((ol + (j + 1)) % 14).toNat = ol.toNat := by omega
        rw [e1, upN_n hne, upN_n hne]
        refine ⟨(h5 (j + 1) (by omega) (by omega)).1.mono h, fun i y0 y1 => ?_⟩
        rw [← (h5 (j + 1) (by omega) (by omega)).2 i y0 y1]
        unfold remA cpZ
        rw [if_pos rfl, if_pos rfl, if_neg (by omega)]
        unfold shZ
        rw [if_pos (by omega)]
        congr 1; omega
theorem INV.back (h : 0 < ct) (k : INV N tl tc ol ct fv a G As Gs Ah Gh ap asl) : INV N tl tc ol (ct - 1) fv (Ah ((ol + (ct - 1)) % 14).toNat) (Gh ((ol + (ct - 1)) % 14).toNat) As Gs Ah Gh ap asl := by
  obtain ⟨h1, h2, h3, h4, h5, h6⟩ := k
  exact ⟨h1, (h5 (ct - 1) (by omega) (by omega)).1, h3, by omega, fun j x y => h5 j x (by omega), h6⟩
theorem INV.save {k0 : Int} (hk : 0 ≤ k0 ∧ k0 ≤ 1) (k : INV N tl tc ol ct fv a G As Gs Ah Gh ap asl) : INV N tl tc ol ct (updZ fv k0 1) a G (upN As k0.toNat a) (upN Gs k0.toNat G) Ah Gh ap (cpZ a asl 0 (118 * k0) 118) := by
  obtain ⟨h1, h2, h3, h4, h5, h6⟩ := k
  refine ⟨h1, h2, h3, h4, h5, fun k x y => ?_⟩
  by_cases e : k = k0
  · subst e
    rw [updZ_s, upN_s, upN_s]
    refine ⟨Or.inr rfl, fun _ => ⟨h2, fun i y0 y1 => ?_⟩⟩
    rw [cpZ_in (by omega) (by omega)]
    congr 1; omega
  · have hne : ¬ k.toNat = k0.toNat := by omega
    rw [updZ_n e, upN_n hne, upN_n hne]
    refine ⟨(h6 k x y).1, fun z => ⟨((h6 k x y).2 z).1, fun i y0 y1 => ?_⟩⟩
    rw [← ((h6 k x y).2 z).2 i y0 y1]
    unfold cpZ
    rw [if_neg (by omega)]
theorem INV.rest {k0 : Int} (hk : 0 ≤ k0 ∧ k0 ≤ 1) (hf : fv k0 = 1) (k : INV N tl tc ol ct fv a G As Gs Ah Gh ap asl) : INV N tl tc ol 0 fv (As k0.toNat) (Gs k0.toNat) As Gs Ah Gh ap asl := by
  obtain ⟨h1, h2, h3, h4, h5, h6⟩ := k
  exact ⟨h1, ((h6 k0 (by omega) (by omega)).2 hf).1, h3, by omega, fun j x y => by omega, h6⟩
end B51
