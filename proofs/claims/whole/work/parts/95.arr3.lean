theorem p_arrange {n b L ax am j : Nat} {h : gHp} (hI : Iv b L ax am j h) (hn : 6000 ≤ n) (z1 z2 z3 z4 : Int32) : PO_arrange n (Iv b L ax am (j + 1)) b L ax am h z1 z2 z3 z4 := by
  obtain ⟨A, ρ, K, S, a, e, ly, rfl, rfl, rfl, H⟩ := hI
  obtain ⟨H1, H2, H3, H4, H5⟩ := id H
  obtain ⟨f1, f2, f3, f4, f5⟩ := top_facts H1 H3.1
  have hf := e_find H1 H3.1 H3.2.1 n z1
  by_cases c1 : opB S z1 = true
  case neg => exact PO_sm (r := -1) rfl rfl rfl H (by simp [f_G_arrange, f1, f2, f4, g99, g77, hf, c1, gInst]) (by show f_M_arrange n S _ _ _ _ = _; simp [f_M_arrange, e_isPane, c1, b32])
  obtain ⟨P, rfl, p1, p2, p3, p4⟩ := opB_nI H4.1 c1
  have iP := ixn (show P < 2 ^ 31 by omega)
  have bP : inB (nI P) 61 = true := inn (by omega) (by decide)
  obtain ⟨n1, n2, n3, n4, n5⟩ := no_inst H1 H4.1 p3
  by_cases hk : S.2 5 P = 4
  case neg => exact PO_sm (r := -1) rfl rfl rfl H (by simp [f_G_arrange, f1, f2, f4, g99, g77, hf, c1, iP, n4, hk, b32]) (by show f_M_arrange n S _ _ _ _ = _; simp [f_M_arrange, e_isPane, c1, b32, bP, iP, hk])
  have n4' : gInst h (some (A 7 P)) "GlkPanes$Pair" = some 1 := by rw [n4, hk]; rfl
  have n6 := cas_of n4'
  have t7 : cT L a (S.2 5) 7 P = some (cTag (S.2 5 P)) := cT7 p3
  have tg : gtag h (A 7 P) = some (3, 16) := by rw [H1.tag t7, hk]; rfl
  by_cases c2 : msB z2 z3 = true
  case neg =>
    rw [Bool.not_eq_true] at c2
    exact PO_sm (r := -1) rfl rfl rfl H (by simp [f_G_arrange, f1, f2, f4, g99, g77, hf, c1, iP, n4', n6, e_isMeasure, c2, b32]) (by show f_M_arrange n S _ _ _ _ = _; simp [f_M_arrange, e_isPane, c1, b32, bP, iP, hk, e_isMethod, c2])
  obtain ⟨m, z, rfl, rfl, hm, hz, hz'⟩ := msB_n c2
  obtain ⟨f, s, s1, s2, s3, s4, s5, s6, s7, s8, s9, s10⟩ := sides_ok H4.1 H4.2.2.2.2.2.2.1 p2 p4 hk
  obtain ⟨k13, k14, k15⟩ := (H3.2.2.2.2.2.2.2.2.2 P p3 p4).2 hk
  obtain ⟨k11, k12⟩ := (H3.2.2.2.1 P p3).1 hk
  have r13 : gref h (A 7 P) 13 = aM A (nz (S.2 11 P)) := by rw [H1.ref t7, k13]
  have nzf : nz (nI f) = some (7, f) := by unfold nz; rw [if_neg (by rw [nI_z s7]; have := (pnN_le s3).1; omega), ixn (by omega)]
  have nzs : nz (nI s) = some (7, s) := by unfold nz; rw [if_neg (by rw [nI_z s8]; have := (pnN_le s4).1; omega), ixn (by omega)]
  rw [s1, nzf] at k14
  rw [s2, nzs] at k15
  have r14 : gref h (A 7 P) 14 = some (A 7 f) := by rw [H1.ref t7, k14]; rfl
  have r15 : gref h (A 7 P) 15 = some (A 7 s) := by rw [H1.ref t7, k15]; rfl
  obtain ⟨m0, hm0, em0⟩ := bd_n (H4.2.2.2.2.2.1 P p2 p4 hk).1
  have i11 : gint h (A 7 P) 11 = nI m0 := by rw [H1.int t7, k11, em0]
  obtain ⟨bb1, bb2, bb3⟩ := bits2 m hm m0 (by omega)
  obtain ⟨b1, b2, b3, b4, b5⟩ := bits m hm
  obtain ⟨c1', c2', c3', c4', c5'⟩ := bits m0 (by omega)
  -- the heart
  have core : ∀ kv : Int32, (kv = 0 ∨ ∃ q, kv = nI q ∧ pnN a q = true ∧ ¬ S.2 4 q = 0 ∧ ¬ S.2 5 q = 4) → ∀ (fG : Option (Int32 × gHp)) (fM : MS → Option (Int32 × MS)), fG = f_G_arrange_B84 (A 0 0) n h (nI m) (nI z) (some (A 7 P)) (aM A (nz kv)) → fM S = f_M_arrange_B80 n S (nI P) (nI m) (nI z) kv → POg (Iv (A 17 0) L (A 0 0) (A 15 0) (j + 1)) (A 17 0) L (A 15 0) h fG fM := by
    intro kv hkv fG fM eG eM
    have ckv : clo (cT L a (S.2 5)) (nz kv) := clo_nz H4.1.1 (by rcases hkv with q | ⟨q, q1, q2, -⟩; exact Or.inl q; exact Or.inr ⟨q, q1, q2⟩)
    have al : ∀ h', f_G_isAlongRows n h' (nI m) = some (if m / 2 % 2 = 0 then 0 else 1, h') := by
      intro h'
      unfold f_G_isAlongRows
      by_cases c : m / 2 % 2 = 0
      · rw [if_pos (b2.mpr c), if_pos c]
      · rw [if_neg (fun q => c (b2.mp q)), if_neg c]
    have al0 : ∀ h', f_G_isAlongRows n h' (nI m0) = some (if m0 / 2 % 2 = 0 then 0 else 1, h') := by
      intro h'
      unfold f_G_isAlongRows
      by_cases c : m0 / 2 % 2 = 0
      · rw [if_pos (c2'.mpr c), if_pos c]
      · rw [if_neg (fun q => c (c2'.mp q)), if_neg c]
    by_cases d1 : m / 2 % 2 = m0 / 2 % 2
    case neg =>
      have ne : ¬ (if m / 2 % 2 = 0 then (0 : Int32) else 1) = (if m0 / 2 % 2 = 0 then 0 else 1) := by
        by_cases c : m / 2 % 2 = 0
        · rw [if_pos c, if_neg (by omega)]; decide
        · rw [if_neg c, if_pos (by omega)]; decide
      exact PO_sm (r := -3) rfl rfl rfl H (by rw [eG]; simp only [f_G_arrange_B84, al, al0, Option.bind_some, tg, gpr, cond_true, i11, ne, if_false, reduceIte]) (by rw [eM]; unfold f_M_arrange_B80; rw [bP, cond_true, iP, em0, if_neg (fun q => d1 (bb1.mp q))])
    have eqq : (if m / 2 % 2 = 0 then (0 : Int32) else 1) = (if m0 / 2 % 2 = 0 then 0 else 1) := by rw [d1]
    have fx : ∀ h', f_G_isFixed n h' (nI m) = some (if m / 4 % 2 = 0 then 1 else 0, h') := by
      intro h'
      unfold f_G_isFixed
      by_cases c : m / 4 % 2 = 0
      · rw [if_pos (b3.mpr c), if_pos c]
      · rw [if_neg (fun q => c (b3.mp q)), if_neg c]
    by_cases d2 : m / 4 % 2 = 0 ∧ ∃ q, kv = nI q ∧ pnN a q = true ∧ S.2 5 q = 0
    · obtain ⟨d2, q, rfl, q1, q2⟩ := d2
      obtain ⟨q3, q4⟩ := pnN_le q1
      have q60 : q ≤ 60 := by have := H4.1.1; omega
      have i1 : gint h (A 7 q) 1 = 0 := by rw [(pane_ints H1 H3.2.2.1 q1).2.1, q2]
      have tq := H1.tag (cT7 (L := L) (kd := S.2 5) q1)
      refine PO_sm (r := -3) rfl rfl rfl H ?_ ?_
      · rw [eG]
        simp only [f_G_arrange_B84, al, al0, Option.bind_some, tg, gpr, cond_true, i11, eqq, if_true, reduceIte, fx, d2, show ¬ (1 : Int32) = 0 from by decide, if_false, aM_nz q3 q60, reduceCtorEq, tq, cTag_pane, i1]
      · rw [eM]
        unfold f_M_arrange_B80
        rw [bP, cond_true, iP, em0, if_pos (bb1.mpr d1), if_pos (b3.mpr d2), if_neg (show ¬ nI q ≤ 0 from nI_ge (a := 0) (b := q) (by omega) (by omega)), inn (show q < 61 by omega) (by decide), cond_true, ixn (show q < 2 ^ 31 by omega), if_pos q2]
    -- the pair changes
    have hG : ∀ c h' h1, f_Pair_rearrange n h (A 7 P) (nI m) (nI z) (aM A (nz kv)) = some h1 → gtag h1 (A 0 0) = some (9, 2) → gref h1 (A 0 0) 0 = some (A 1 0) → gtag h1 (A 1 0) = some (7, 5) → f_Tree_layOut n h1 (A 1 0) = some (c, h') → f_G_arrange_B84 (A 0 0) n h (nI m) (nI z) (some (A 7 P)) (aM A (nz kv)) = some (1, h') := by
      intro c h' h1 x1 x2 x3 x4 x5
      by_cases d3 : m / 4 % 2 = 0
      · rcases hkv with rfl | ⟨q, rfl, q1, q2, q5⟩
        · have e0 : aM A (nz 0) = none := rfl
          rw [e0] at x1 ⊢
          simp only [f_G_arrange_B84, al, al0, Option.bind_some, tg, gpr, gpr', cond_true, i11, eqq, if_true, reduceIte, fx, d3, show ¬ (1 : Int32) = 0 from by decide, if_false, x1, x2, x3, x4, g99, g77, x5]
        · obtain ⟨q3, q4⟩ := pnN_le q1
          have q60 : q ≤ 60 := by have := H4.1.1; omega
          have tq := H1.tag (cT7 (L := L) (kd := S.2 5) q1)
          have i1 : ¬ gint h (A 7 q) 1 = 0 := by rw [(pane_ints H1 H3.2.2.1 q1).2.1]; exact fun q' => d2 ⟨d3, q, rfl, q1, q'⟩
          rw [aM_nz q3 q60] at x1 ⊢
          simp only [f_G_arrange_B84, al, al0, Option.bind_some, tg, gpr, gpr', cond_true, i11, eqq, if_true, reduceIte, fx, d3, show ¬ (1 : Int32) = 0 from by decide, if_false, reduceCtorEq, tq, cTag_pane, i1, x1, x2, x3, x4, g99, g77, x5]
      · simp only [f_G_arrange_B84, al, al0, Option.bind_some, tg, gpr, gpr', cond_true, i11, eqq, if_true, reduceIte, fx, d3, if_false, x1, x2, x3, x4, g99, g77, x5]
    have hM : f_M_arrange_B80 n S (nI P) (nI m) (nI z) kv = f_M_arrange_B120 n S (nI P) (nI m) (nI z) kv := by
      unfold f_M_arrange_B80
      rw [bP, cond_true, iP, em0, if_pos (bb1.mpr d1)]
      by_cases d3 : m / 4 % 2 = 0
      · rw [if_pos (b3.mpr d3)]
        rcases hkv with rfl | ⟨q, rfl, q1, q2, q5⟩
        · rw [if_pos (by decide)]
        · obtain ⟨q3, q4⟩ := pnN_le q1
          have q60 : q ≤ 60 := by have := H4.1.1; omega
          rw [if_neg (show ¬ nI q ≤ 0 from nI_ge (a := 0) (b := q) (by omega) (by omega)), inn (show q < 61 by omega) (by decide), cond_true, ixn (show q < 2 ^ 31 by omega), if_neg (fun q' => d2 ⟨d3, q, rfl, q1, q'⟩)]
      · rw [if_neg (fun q => d3 (b3.mp q))]
    by_cases d4 : m % 2 = m0 % 2
    · -- without a swap
      have HH := (((H1.i t7 11 (nI m)).i t7 12 (nI z)).r t7 13 (nz kv) ckv)
      have eK : (((((K.r 7 P 14 (some (7, f))).r 7 P 15 (some (7, s))).i 7 P 11 (nI m)).i 7 P 12 (nI z)).r 7 P 13 (nz kv)) = (((K.i 7 P 11 (nI m)).i 7 P 12 (nI z)).r 7 P 13 (nz kv)) := by
        rw [← k14, KS.r_self, ← k15, KS.r_self]
      have eS : ((((S.a 7 P (nI f)).a 8 P (nI s)).a 9 P (nI m)).a 10 P (nI z)).a 11 P kv = ((S.a 9 P (nI m)).a 10 P (nI z)).a 11 P kv := by
        rw [← s1, MS.a_self, ← s2, MS.a_self]
      refine arr_fin (f' := f) (s' := s) (h1 := gsetR (gsetI (gsetI h (A 7 P) 11 (nI m)) (A 7 P) 12 (nI z)) (A 7 P) 13 (aM A (nz kv))) rfl rfl rfl H p2 p4 hk hm hz hz' s7 s8 s1 s2 (Or.inl ⟨rfl, rfl⟩) hkv hn (by rw [eK]; exact HH) (fun c h' hh => eG.trans (hG c h' _ ?_ (HH.tag (c := 0) (p := 0) rfl) (by rw [HH.ref (c := 0) (p := 0) (t := (9, 2)) rfl]; show aM A (K.2 0 0 0) = _; rw [H3.1.1]; rfl) (HH.tag (c := 1) (p := 0) rfl) hh)) (fun S' hh => ?_)
      · unfold f_Pair_rearrange
        simp only [gtag_setI, tg, gpr, cond_true, i11, if_pos (bb3.mpr d4)]
      · rw [eM]
        rw [eS] at hh
        rw [hM]
        unfold f_M_arrange_B120 f_M_arrange_B162
        simp only [bP, cond_true, iP, em0, if_pos (bb2.mpr d4), hh, Option.bind_some]
    · have HH := (((((H1.r t7 14 (some (7, s)) (clo_pane s4)).r t7 15 (some (7, f)) (clo_pane s3)).i t7 11 (nI m)).i t7 12 (nI z)).r t7 13 (nz kv) ckv)
      refine arr_fin (f' := s) (s' := f) (h1 := gsetR (gsetI (gsetI (gsetR (gsetR h (A 7 P) 14 (some (A 7 s))) (A 7 P) 15 (some (A 7 f))) (A 7 P) 11 (nI m)) (A 7 P) 12 (nI z)) (A 7 P) 13 (aM A (nz kv))) rfl rfl rfl H p2 p4 hk hm hz hz' s7 s8 s1 s2 (Or.inr ⟨rfl, rfl⟩) hkv hn HH (fun c h' hh => eG.trans (hG c h' _ ?_ (HH.tag (c := 0) (p := 0) rfl) (by rw [HH.ref (c := 0) (p := 0) (t := (9, 2)) rfl]; show aM A (K.2 0 0 0) = _; rw [H3.1.1]; rfl) (HH.tag (c := 1) (p := 0) rfl) hh)) (fun S' hh => ?_)
      · unfold f_Pair_rearrange
        have tR : ∀ (hx : gHp) (b' k' : Nat) (o : Option Nat) (y : Nat), gtag (gsetR hx b' k' o) y = gtag hx y := fun _ _ _ _ _ => rfl
        simp only [gtag_setI, tR, tg, gpr, cond_true, i11, if_neg (fun q => d4 (bb3.mp q)), r14, r15]
        rfl
      · rw [eM, hM]
        unfold f_M_arrange_B120 f_M_arrange_B162
        simp only [bP, cond_true, iP, em0, if_neg (fun q => d4 (bb2.mp q)), s1, s2, hh, Option.bind_some]
  show POg _ _ _ _ _ (f_G_arrange n h (A 0 0) (nI P) (nI m) (nI z) z4) (fun S => f_M_arrange n S (nI P) (nI m) (nI z) z4)
  by_cases cz : z4 = 0
  · subst cz
    refine core (S.2 11 P) (H4.2.2.2.2.2.1 P p2 p4 hk).2.2.2 _ _ ?_ ?_
    · simp only [f_G_arrange, f1, f2, f4, g99, g77, hf, c1, iP, n4', n6, e_isMeasure, c2, b32_t, tg, gpr, cond_true, Option.bind_some, if_true, if_false, reduceIte, show ¬ (1 : Int32) = 0 from by decide, r13]
    · simp only [f_M_arrange, e_isPane, c1, b32_t, show ¬ (1 : Int32) = 0 from by decide, if_false, reduceIte, Option.bind_some, bP, cond_true, iP, hk, if_true, e_isMethod, c2, f_M_arrange_B64]
  have hf4 := e_find H1 H3.1 H3.2.1 n z4
  by_cases c4 : opB S z4 = true
  case neg =>
    refine PO_sm (r := -1) rfl rfl rfl H ?_ ?_
    · simp only [f_G_arrange, f1, f2, f4, g99, g77, hf, c1, iP, n4', n6, e_isMeasure, c2, b32_t, tg, gpr, cond_true, Option.bind_some, if_true, if_false, reduceIte, show ¬ (1 : Int32) = 0 from by decide, cz, hf4, c4, Bool.false_eq_true]
    · rw [Bool.not_eq_true] at c4
      simp only [f_M_arrange, e_isPane, c1, c4, b32_t, b32_f, show ¬ (1 : Int32) = 0 from by decide, if_false, reduceIte, Option.bind_some, bP, cond_true, iP, hk, if_true, e_isMethod, c2, cz]
  obtain ⟨q, rfl, q1, q2, q3, q4⟩ := opB_nI H4.1 c4
  have iq := ixn (show q < 2 ^ 31 by omega)
  have bq : inB (nI q) 61 = true := inn (by omega) (by decide)
  have tq := H1.tag (cT7 (L := L) (kd := S.2 5) q3)
  have i1 : gint h (A 7 q) 1 = S.2 5 q := (pane_ints H1 H3.2.2.1 q3).2.1
  by_cases hkq : S.2 5 q = 4
  · refine PO_sm (r := -1) rfl rfl rfl H ?_ ?_
    · simp only [f_G_arrange, f1, f2, f4, g99, g77, hf, c1, iP, n4', n6, e_isMeasure, c2, b32_t, tg, gpr, cond_true, Option.bind_some, if_true, if_false, reduceIte, show ¬ (1 : Int32) = 0 from by decide, cz, hf4, c4, iq, reduceCtorEq, tq, cTag_pane, i1, hkq]
    · simp only [f_M_arrange, e_isPane, c1, c4, b32_t, show ¬ (1 : Int32) = 0 from by decide, if_false, reduceIte, Option.bind_some, bP, bq, cond_true, iP, iq, hk, hkq, if_true, e_isMethod, c2, cz]
  obtain ⟨r, l, du, upu, lu, t1, t2, t3, t4, t5, t6, t7', t8, t9, t10, t11, lm⟩ := sub_of H4.1 H4.2.2.2.2.2.2.1 p2 p4
  have hKl : ∀ y, y ∈ l → pnN a y = true ∧ K.2 7 y 2 = nz (S.2 6 y) := fun y hy => ⟨(lm y hy).2.1, (H3.2.2.2.2.2.2.2.2.2 y (lm y hy).2.1 (lm y hy).2.2).1⟩
  have hql : q ∈ l := (t5 q q2).mp q4
  have nqP : ¬ q = P := fun e9 => by subst e9; exact hkq hk
  by_cases cl : q ∈ lu
  · have y1 := be_in (n := n) H4.1.1 H1 t7' t8 (by omega) (fun y hy => hKl y (t9 y hy)) cl nqP (by omega)
    have y2 := wi_in (n := n) (S := S) rfl t7' t8 cl (by omega)
    refine core (nI q) (Or.inr ⟨q, rfl, q3, q4, hkq⟩) _ _ ?_ ?_
    · simp only [f_G_arrange, f1, f2, f4, g99, g77, hf, c1, iP, n4', n6, e_isMeasure, c2, b32_t, tg, gpr, cond_true, Option.bind_some, if_true, if_false, reduceIte, show ¬ (1 : Int32) = 0 from by decide, cz, hf4, c4, iq, reduceCtorEq, tq, cTag_pane, i1, hkq, y1, aM_nz q1 q2]
    · simp only [f_M_arrange, e_isPane, c1, c4, b32_t, show ¬ (1 : Int32) = 0 from by decide, if_false, reduceIte, Option.bind_some, bP, bq, cond_true, iP, iq, hk, hkq, if_true, e_isMethod, c2, cz, y2, f_M_arrange_B64]
  · obtain ⟨n', i', y1, y2, y3⟩ := be_not (i := 0) (n := n) H4.1.1 H1 p3 t7' t2 hKl (Or.inl rfl) (by omega) hql cl (by omega) (by omega)
    obtain ⟨n'', y4, y5⟩ := wi_not (n := n) (S := S) rfl t7' t2 hql cl (by omega)
    have y6 : f_G_isBelow n h (some (A 7 q)) (some (A 7 P)) = some (0, h) := by
      show f_G_isBelow_B4 n h (some (A 7 P)) (some (A 7 q)) (nI 0) = _
      rw [y3]
      obtain ⟨m9, rfl⟩ : ∃ m9, n' = m9 + 1 := ⟨n' - 1, by omega⟩
      rw [f_G_isBelow_B4, if_neg (show ¬ (60 : Int32) ≤ nI i' from nI_ge (a := i') (b := 60) (by omega) (by decide))]
      rfl
    have y7 : f_M_isWithin n S (nI q) (nI P) = some (0, S) := by
      show f_M_isWithin_B2 n S (nI P) (nI q) = _
      rw [y5]
      exact wi_zero p1 p2 (by omega)
    refine PO_sm (r := -1) rfl rfl rfl H ?_ ?_
    · simp only [f_G_arrange, f1, f2, f4, g99, g77, hf, c1, iP, n4', n6, e_isMeasure, c2, b32_t, tg, gpr, cond_true, Option.bind_some, if_true, if_false, reduceIte, show ¬ (1 : Int32) = 0 from by decide, cz, hf4, c4, iq, reduceCtorEq, tq, cTag_pane, i1, hkq, y6]
    · simp only [f_M_arrange, e_isPane, c1, c4, b32_t, show ¬ (1 : Int32) = 0 from by decide, if_false, reduceIte, Option.bind_some, bP, bq, cond_true, iP, iq, hk, hkq, if_true, e_isMethod, c2, cz, y7]
