theorem io_Pair_4 : gIo 4 "GlkPanes$Pair" = some 0 := by decide +kernel
theorem io_Pair_6 : gIo 6 "GlkPanes$Pair" = some 0 := by decide +kernel
theorem io_Pair_1 : gIo 1 "GlkPanes$Pair" = some 0 := by decide +kernel
theorem io_Pair_5 : gIo 5 "GlkPanes$Pair" = some 0 := by decide +kernel
theorem io_Pair_3 : gIo 3 "GlkPanes$Pair" = some 1 := by decide +kernel
theorem io_Writing_4 : gIo 4 "GlkPanes$Writing" = some 0 := by decide +kernel
theorem io_Writing_6 : gIo 6 "GlkPanes$Writing" = some 1 := by decide +kernel
theorem io_Writing_1 : gIo 1 "GlkPanes$Writing" = some 1 := by decide +kernel
theorem io_Writing_5 : gIo 5 "GlkPanes$Writing" = some 0 := by decide +kernel
theorem io_Writing_3 : gIo 3 "GlkPanes$Writing" = some 0 := by decide +kernel
theorem io_Grid_4 : gIo 4 "GlkPanes$Grid" = some 0 := by decide +kernel
theorem io_Grid_6 : gIo 6 "GlkPanes$Grid" = some 0 := by decide +kernel
theorem io_Grid_1 : gIo 1 "GlkPanes$Grid" = some 1 := by decide +kernel
theorem io_Grid_5 : gIo 5 "GlkPanes$Grid" = some 0 := by decide +kernel
theorem io_Grid_3 : gIo 3 "GlkPanes$Grid" = some 0 := by decide +kernel
theorem io_Text_4 : gIo 4 "GlkPanes$Text" = some 0 := by decide +kernel
theorem io_Text_6 : gIo 6 "GlkPanes$Text" = some 1 := by decide +kernel
theorem io_Text_1 : gIo 1 "GlkPanes$Text" = some 0 := by decide +kernel
theorem io_Text_5 : gIo 5 "GlkPanes$Text" = some 0 := by decide +kernel
theorem io_Text_3 : gIo 3 "GlkPanes$Text" = some 0 := by decide +kernel
theorem io_Picture_4 : gIo 4 "GlkPanes$Picture" = some 0 := by decide +kernel
theorem io_Picture_6 : gIo 6 "GlkPanes$Picture" = some 0 := by decide +kernel
theorem io_Picture_1 : gIo 1 "GlkPanes$Picture" = some 0 := by decide +kernel
theorem io_Picture_5 : gIo 5 "GlkPanes$Picture" = some 1 := by decide +kernel
theorem io_Picture_3 : gIo 3 "GlkPanes$Picture" = some 0 := by decide +kernel
theorem p_at {n b L ax am j : Nat} {h : gHp} (hI : Iv b L ax am j h) (z1 z2 : Int32) : PO_at n (Iv b L ax am (j + 1)) b L ax am h z1 z2 := by
  obtain ⟨A, ρ, K, S, a, e, ly, rfl, rfl, rfl, H⟩ := hI
  obtain ⟨H1, H2, H3, H4, H5⟩ := id H
  obtain ⟨f1, f2, f3, f4, f5⟩ := top_facts H1 H3.1
  have hf := e_find H1 H3.1 H3.2.1 n z1
  by_cases c1 : opB S z1 = true
  case neg => exact PO_sm (r := -1) rfl rfl rfl H (by simp [f_G_at, f1, f2, f4, g99, g77, hf, c1]) (by show f_M_at n S _ _ = _; simp [f_M_at, e_isPane, c1, b32])
  obtain ⟨P, rfl, p1, p2, p3, p4⟩ := opB_nI H4.1 c1
  have iP := ixn (show P < 2 ^ 31 by omega)
  have bP : inB (nI P) 61 = true := inn (by omega) (by decide)
  have t7 : cT L a (S.2 5) 7 P = some (cTag (S.2 5 P)) := cT7 p3
  have k5 := H4.1.2.2.2.2.2 P p3
  by_cases c2 : rgB z2 0 1 = true
  case neg => exact PO_sm (r := -1) rfl rfl rfl H (by rcases rgB_f c2 with c2' | c2' <;> simp [f_G_at, f1, f2, f4, g99, g77, hf, c1, c2']) (by show f_M_at n S _ _ = _; simp [f_M_at, e_isPane, e_in, c1, c2, b32])
  have c2' := rgB_t.mp c2
  by_cases c3 : S.2 5 P = 2
  · have tg : gtag h (A 7 P) = some (1, 16) := by rw [H1.tag t7, c3]; rfl
    have k14 : gint h (A 7 P) 14 = S.2 34 P := by rw [H1.int t7, ((H3.2.2.2.1 P p3).2.2.1 c3).1]
    have k15 : gint h (A 7 P) 15 = S.2 35 P := by rw [H1.int t7, ((H3.2.2.2.1 P p3).2.2.1 c3).2]
    have g1 : gtin (some (1, 16)) [1] = true := rfl
    by_cases c4 : z2 = 0
    · exact PO_sm (r := S.2 34 P) rfl rfl rfl H (by simp [f_G_at, f1, f2, f4, g99, g77, hf, c1, iP, tg, c2'.1, c2'.2, gInst, gCas, io_Pair_4, io_Pair_6, io_Pair_1, io_Pair_5, io_Pair_3, io_Writing_4, io_Writing_6, io_Writing_1, io_Writing_5, io_Writing_3, io_Grid_4, io_Grid_6, io_Grid_1, io_Grid_5, io_Grid_3, io_Text_4, io_Text_6, io_Text_1, io_Text_5, io_Text_3, io_Picture_4, io_Picture_6, io_Picture_1, io_Picture_5, io_Picture_3, g1, k14, k15, c4]) (by show f_M_at n S _ _ = _; rw [c4] at c2; simp [f_M_at, e_isPane, e_in, c1, c2, b32, bP, iP, c3, c4])
    · exact PO_sm (r := S.2 35 P) rfl rfl rfl H (by simp [f_G_at, f1, f2, f4, g99, g77, hf, c1, iP, tg, c2'.1, c2'.2, gInst, gCas, io_Pair_4, io_Pair_6, io_Pair_1, io_Pair_5, io_Pair_3, io_Writing_4, io_Writing_6, io_Writing_1, io_Writing_5, io_Writing_3, io_Grid_4, io_Grid_6, io_Grid_1, io_Grid_5, io_Grid_3, io_Text_4, io_Text_6, io_Text_1, io_Text_5, io_Text_3, io_Picture_4, io_Picture_6, io_Picture_1, io_Picture_5, io_Picture_3, g1, k14, k15, c4]) (by show f_M_at n S _ _ = _; simp [f_M_at, e_isPane, e_in, c1, c2, b32, bP, iP, c3, c4])
  · refine PO_sm (r := -3) rfl rfl rfl H ?_ (by show f_M_at n S _ _ = _; simp [f_M_at, e_isPane, e_in, c1, c2, b32, bP, iP, c3])
    rcases k5 with k5 | k5 | k5 | k5 | k5
    · have tg : gtag h (A 7 P) = some (4, 11) := by rw [H1.tag t7, k5]; rfl
      simp [f_G_at, f1, f2, f4, g99, g77, hf, c1, iP, tg, c2'.1, c2'.2, gInst, gCas, io_Pair_4, io_Pair_6, io_Pair_1, io_Pair_5, io_Pair_3, io_Writing_4, io_Writing_6, io_Writing_1, io_Writing_5, io_Writing_3, io_Grid_4, io_Grid_6, io_Grid_1, io_Grid_5, io_Grid_3, io_Text_4, io_Text_6, io_Text_1, io_Text_5, io_Text_3, io_Picture_4, io_Picture_6, io_Picture_1, io_Picture_5, io_Picture_3]
    · have tg : gtag h (A 7 P) = some (6, 16) := by rw [H1.tag t7, k5]; rfl
      simp [f_G_at, f1, f2, f4, g99, g77, hf, c1, iP, tg, c2'.1, c2'.2, gInst, gCas, io_Pair_4, io_Pair_6, io_Pair_1, io_Pair_5, io_Pair_3, io_Writing_4, io_Writing_6, io_Writing_1, io_Writing_5, io_Writing_3, io_Grid_4, io_Grid_6, io_Grid_1, io_Grid_5, io_Grid_3, io_Text_4, io_Text_6, io_Text_1, io_Text_5, io_Text_3, io_Picture_4, io_Picture_6, io_Picture_1, io_Picture_5, io_Picture_3]
    · exact absurd k5 c3
    · have tg : gtag h (A 7 P) = some (5, 12) := by rw [H1.tag t7, k5]; rfl
      simp [f_G_at, f1, f2, f4, g99, g77, hf, c1, iP, tg, c2'.1, c2'.2, gInst, gCas, io_Pair_4, io_Pair_6, io_Pair_1, io_Pair_5, io_Pair_3, io_Writing_4, io_Writing_6, io_Writing_1, io_Writing_5, io_Writing_3, io_Grid_4, io_Grid_6, io_Grid_1, io_Grid_5, io_Grid_3, io_Text_4, io_Text_6, io_Text_1, io_Text_5, io_Text_3, io_Picture_4, io_Picture_6, io_Picture_1, io_Picture_5, io_Picture_3]
    · have tg : gtag h (A 7 P) = some (3, 16) := by rw [H1.tag t7, k5]; rfl
      simp [f_G_at, f1, f2, f4, g99, g77, hf, c1, iP, tg, c2'.1, c2'.2, gInst, gCas, io_Pair_4, io_Pair_6, io_Pair_1, io_Pair_5, io_Pair_3, io_Writing_4, io_Writing_6, io_Writing_1, io_Writing_5, io_Writing_3, io_Grid_4, io_Grid_6, io_Grid_1, io_Grid_5, io_Grid_3, io_Text_4, io_Text_6, io_Text_1, io_Text_5, io_Text_3, io_Picture_4, io_Picture_6, io_Picture_1, io_Picture_5, io_Picture_3]

/-- not a grid, a text, a picture, a pair: what the class asks -/
theorem no_inst {h : gHp} {A : Nat → Nat → Nat} {ρ : Nat → Nat × Nat} {L a P : Nat} {K : KS} {S : MS} (H : Hrep h A ρ (cT L a (S.2 5)) K) (ha : WFa S a) (hp : pnN a P = true) : gInst h (some (A 7 P)) "GlkPanes$Grid" = some (b32 (decide (S.2 5 P = 2))) ∧ gInst h (some (A 7 P)) "GlkPanes$Text" = some (b32 (decide (S.2 5 P = 1))) ∧ gInst h (some (A 7 P)) "GlkPanes$Picture" = some (b32 (decide (S.2 5 P = 3))) ∧ gInst h (some (A 7 P)) "GlkPanes$Pair" = some (b32 (decide (S.2 5 P = 4))) ∧ gInst h (some (A 7 P)) "GlkPanes$Writing" = some (b32 (wrK (S.2 5 P))) := by
  have t7 : cT L a (S.2 5) 7 P = some (cTag (S.2 5 P)) := cT7 hp
  have tg := H.tag t7
  rcases ha.2.2.2.2.2 P hp with c3 | c3 | c3 | c3 | c3
  all_goals
    rw [c3] at tg
    rw [c3]
    simp [gInst, tg, cTag, b32, wrK, io_Pair_4, io_Pair_6, io_Pair_1, io_Pair_5, io_Pair_3, io_Writing_4, io_Writing_6, io_Writing_1, io_Writing_5, io_Writing_3, io_Grid_4, io_Grid_6, io_Grid_1, io_Grid_5, io_Grid_3, io_Text_4, io_Text_6, io_Text_1, io_Text_5, io_Text_3, io_Picture_4, io_Picture_6, io_Picture_1, io_Picture_5, io_Picture_3]
theorem b32_t : b32 true = 1 := rfl
theorem b32_f : b32 false = 0 := rfl
