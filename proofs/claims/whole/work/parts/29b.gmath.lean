theorem GTry_n {a : Int → Int} {G : Int → Int → Int} {kd i c : Int} (h : ¬ okA a kd i c) : GTry a G kd i c = G := by
  funext x; unfold GTry; rw [gTry_n h]; split
  · rename_i hx; rw [hx]
  · rfl
theorem GTry_0 {a : Int → Int} {G : Int → Int → Int} {kd i c : Int} (h : okA a kd i c) : GTry a G kd i c 0 = gAct a (G 0) kd i c := by
  unfold GTry; rw [if_pos rfl, gTry_y h]
theorem F_try1 {a : Int → Int} {G : Int → Int → Int} {i c : Int} (hn : 0 ≤ a 0 ∧ a 0 ≤ 24) (h : okA a 1 i c) : tryR a 1 i c 0 = a 0 ∧ tryR a 1 i c 25 = a 25 ∧ tryR a 1 i c 96 = a 96 ∧ tryR a 1 i c 117 = a 117 ∧ GTry a G 1 i c 0 = updZ (G 0) i (sc c) :=
  ⟨tryR_12 hn (Or.inl rfl) (by omega), tryR_12 hn (Or.inl rfl) (by omega), tryR_12 hn (Or.inl rfl) (by omega), tryR_12 hn (Or.inl rfl) (by omega), GTry_0 h⟩
theorem F_try2 {a : Int → Int} {G : Int → Int → Int} {i c : Int} (hn : 0 ≤ a 0 ∧ a 0 ≤ 24) (h : okA a 2 i c) : tryR a 2 i c 0 = a 0 ∧ tryR a 2 i c 25 = a 25 ∧ tryR a 2 i c 96 = a 96 ∧ tryR a 2 i c 117 = a 117 ∧ GTry a G 2 i c 0 = updZ (G 0) i (sc (if rq a i = 0 then 0 else 9)) :=
  ⟨tryR_12 hn (Or.inr rfl) (by omega), tryR_12 hn (Or.inr rfl) (by omega), tryR_12 hn (Or.inr rfl) (by omega), tryR_12 hn (Or.inr rfl) (by omega), GTry_0 h⟩
theorem F_try3 {a : Int → Int} {G : Int → Int → Int} {i c : Int} (hn : 0 ≤ a 0 ∧ a 0 ≤ 24) (h : okA a 3 i c) : tryR a 3 i c 0 = a 0 + 1 ∧ tryR a 3 i c 25 = a 25 ∧ tryR a 3 i c 96 = 0 ∧ tryR a 3 i c 117 = a 117 ∧ GTry a G 3 i c 0 = updZ (insZ (G 0) (a 0) i) i (sc c) :=
  ⟨(tryR_3 hn h).1, (tryR_3 hn h).2.2 25 (by omega), (tryR_3 hn h).2.1, (tryR_3 hn h).2.2 117 (by omega), GTry_0 h⟩
theorem F_try4 {a : Int → Int} {G : Int → Int → Int} {i c : Int} (hn : 0 ≤ a 0 ∧ a 0 ≤ 24) (h : okA a 4 i c) : tryR a 4 i c 0 = a 0 - 1 ∧ tryR a 4 i c 25 = a 25 ∧ tryR a 4 i c 96 = 0 ∧ tryR a 4 i c 117 = a 117 ∧ GTry a G 4 i c 0 = delZ (G 0) i (a 0 - 1) :=
  ⟨(tryR_4 hn h).1, (tryR_4 hn h).2.2 25 (by omega), (tryR_4 hn h).2.1, (tryR_4 hn h).2.2 117 (by omega), GTry_0 h⟩
theorem F_com {a : Int → Int} {i d pa si : Int} (hc : 0 ≤ a 96 ∧ a 96 < 4) : comR a i d pa si 0 = a 0 ∧ comR a i d pa si 25 = a 25 ∧ comR a i d pa si 96 = a 96 + 1 ∧ comR a i d pa si 117 = a 117 :=
  ⟨comR_n hc.1 (by omega), comR_n hc.1 (by omega), comR_at.resolve_right (fun h => h hc.1), comR_n hc.1 (by omega)⟩
theorem F_tur {a : Int → Int} {w : Int} (hw : 0 ≤ w ∧ w < 4) : turR a w 0 = a 0 ∧ turR a w 25 = a 25 ∧ turR a w 96 = a 96 ∧ turR a w 117 = a 117 :=
  ⟨turR_n (by omega) (by omega), turR_n (by omega) (by omega), turR_n (by omega) (by omega), turR_n (by omega) (by omega)⟩
theorem F_go {a : Int → Int} {t : Int} : goT a t 0 = a 0 ∧ goT a t 25 = a 25 ∧ goT a t 96 = a 96 ∧ goT a t 117 = a 117 + t :=
  ⟨goT_n (by omega), goT_n (by omega), goT_n (by omega), goT_117 a t⟩
noncomputable def GTurn (a : Int → Int) (G : Int → Int → Int) (r : Int) : Int → Int → Int :=
  if r % 16 < 3 then GTry a G 1 (r / 16 % 24) (r / 512 % 9) else if r % 16 = 3 then GTry a G 2 (r / 16 % 24) 0 else if r % 16 < 6 then GTry a G 3 (r / 16 % 24) (r / 512 % 9) else if r % 16 = 6 then GTry a G 4 (r / 16 % 24) 0
  else if r % 16 = 7 then (if r / 16 % 24 < a 0 ∧ a 96 < 4 then GCom a G (r / 16 % 24) (r / 512 % 2) (1 + r / 1024 % 3) (1 + r / 4096 % 5) else G)
  else if r % 16 = 8 then (if r / 16 % 4 < a 96 then GTur a G (r / 16 % 4) else G) else GGo a G (1 + r / 16 % 9)
theorem SBG_turn {a : Int → Int} {G : Int → Int → Int} (h : SBG a G) {r : Int} : SBG (turnR a r) (GTurn a G r) := by
  unfold turnR GTurn
  by_cases h1 : r % 16 < 3
  · rw [if_pos h1, if_pos h1]; exact SBG_try h (by omega)
  rw [if_neg h1, if_neg h1]
  by_cases h2 : r % 16 = 3
  · rw [if_pos h2, if_pos h2]; exact SBG_try h (by omega)
  rw [if_neg h2, if_neg h2]
  by_cases h3 : r % 16 < 6
  · rw [if_pos h3, if_pos h3]; exact SBG_try h (by omega)
  rw [if_neg h3, if_neg h3]
  by_cases h4 : r % 16 = 6
  · rw [if_pos h4, if_pos h4]; exact SBG_try h (by omega)
  rw [if_neg h4, if_neg h4]
  by_cases h5 : r % 16 = 7
  · rw [if_pos h5, if_pos h5]
    by_cases h6 : r / 16 % 24 < a 0 ∧ a 96 < 4
    · rw [if_pos h6, if_pos h6]; exact SBG_com h h6.2 ⟨by omega, h6.1⟩ (by omega) (by omega) (by omega)
    · rw [if_neg h6, if_neg h6]; exact h
  rw [if_neg h5, if_neg h5]
  by_cases h7 : r % 16 = 8
  · rw [if_pos h7, if_pos h7]
    by_cases h8 : r / 16 % 4 < a 96
    · rw [if_pos h8, if_pos h8]; exact SBG_tur h ⟨by omega, h8⟩
    · rw [if_neg h8, if_neg h8]; exact h
  rw [if_neg h7, if_neg h7]; exact SBG_go h
noncomputable def GTryT (a : Int → Int) (G : Int → Int → Int) (x : Int) : Int → Int → Int :=
  if 1 ≤ x / 1000 ∧ x / 1000 ≤ 4 then GTry a G (x / 1000) (x % 1000 / 10) (x % 1000 % 10) else if x / 1000 = 5 ∧ 1 ≤ x % 1000 ∧ x % 1000 ≤ 50 then GGo a G (x % 1000) else G
theorem SBG_tryT {a : Int → Int} {G : Int → Int → Int} (h : SBG a G) {x : Int} : SBG (tryT a x) (GTryT a G x) := by
  unfold tryT GTryT
  by_cases h1 : 1 ≤ x / 1000 ∧ x / 1000 ≤ 4
  · rw [if_pos h1, if_pos h1]; exact SBG_try h h1
  rw [if_neg h1, if_neg h1]
  by_cases h2 : x / 1000 = 5 ∧ 1 ≤ x % 1000 ∧ x % 1000 ≤ 50
  · rw [if_pos h2, if_pos h2]; exact SBG_go h
  · rw [if_neg h2, if_neg h2]; exact h
