theorem p_under {n b L ax am j : Nat} {h : gHp} (hI : Iv b L ax am j h) (hn : 5000 ≤ n) (z1 z2 : Int32) : PO_under n (Iv b L ax am (j + 1)) b L ax am h z1 z2 := by
  obtain ⟨A, ρ, K, S, a, e, ly, rfl, rfl, rfl, H⟩ := hI
  obtain ⟨H1, H2, H3, H4, H5⟩ := id H
  obtain ⟨f1, f2, f3, f4, f5⟩ := top_facts H1 H3.1
  rcases place_both H z1 z2 n with ⟨q1, q2⟩ | ⟨x, y, rfl, rfl, hx, hy, q1, q2⟩
  · exact PO_sm (r := -1) rfl rfl rfl H (by simp [f_G_under, f1, f2, f4, g99, g77, q1]) (by show f_M_under n S _ _ = _; simp [f_M_under, q2])
  rcases pane_both (n := n) H hx hy (by omega) with ⟨r1, r2, r3⟩ | ⟨q, r1, r2, r3, r4, r5, r6⟩ | ⟨q, r1, r2, r3, r4, r5, r6⟩
  · exact PO_sm (r := -2) rfl rfl rfl H (by simp [f_G_under, f1, f2, f4, g99, g77, q1, r2]) (by show f_M_under n S _ _ = _; simp [f_M_under, q2, r3])
  · obtain ⟨k0, k1, -⟩ := pane_ints H1 H3.2.2.1 r1
    have tg := H1.tag (cT7 (L := L) (kd := S.2 5) r1)
    exact PO_sm (r := nI q) rfl rfl rfl H (by simp [f_G_under, f1, f2, f4, g99, g77, q1, r5, tg, cTag_pane, k0, k1, r3]) (by show f_M_under n S _ _ = _; simp [f_M_under, q2, r6])
  · obtain ⟨k0, k1, -⟩ := pane_ints H1 H3.2.2.1 r1
    have tg := H1.tag (cT7 (L := L) (kd := S.2 5) r1)
    exact PO_sm (r := -2) rfl rfl rfl H (by simp [f_G_under, f1, f2, f4, g99, g77, q1, r4, tg, cTag_pane, k1, r3]) (by show f_M_under n S _ _ = _; simp [f_M_under, q2, r5])
theorem so_32 (n : Nat) (h : gHp) : f_G_signOf n h 32 = some (32, h) := by
  have := e_signOf n h (s := 32) (t := 0) (l := 0) (by decide) (by decide) (by decide)
  rwa [show cellv 32 0 0 = 32 by decide] at this
theorem so_35 (n : Nat) (h : gHp) : f_G_signOf n h 35 = some (35, h) := by
  have := e_signOf n h (s := 35) (t := 0) (l := 0) (by decide) (by decide) (by decide)
  rwa [show cellv 35 0 0 = 35 by decide] at this
theorem so_45 (n : Nat) (h : gHp) : f_G_signOf n h 45 = some (45, h) := by
  have := e_signOf n h (s := 45) (t := 0) (l := 0) (by decide) (by decide) (by decide)
  rwa [show cellv 45 0 0 = 45 by decide] at this
theorem so_124 (n : Nat) (h : gHp) : f_G_signOf n h 124 = some (124, h) := by
  have := e_signOf n h (s := 124) (t := 0) (l := 0) (by decide) (by decide) (by decide)
  rwa [show cellv 124 0 0 = 124 by decide] at this
/-- the place within the pane -/
theorem rel_of {S : MS} {a j q x y : Nat} (W : WF S a j) (hq : q ≤ 60) (hi : inR S q x y) : ∃ X Y w v, S.2 12 q = nI X ∧ S.2 13 q = nI Y ∧ S.2 14 q = nI w ∧ S.2 15 q = nI v ∧ w ≤ 60 ∧ v ≤ 24 ∧ X ≤ x ∧ Y ≤ y ∧ x - X < w ∧ y - Y < v := by
  obtain ⟨X, Y, w, v, r1, r2, r3, r4, r5, r6⟩ := rect_of W.2.2.2.2.2.2.2.1 hq
  unfold inR at hi
  rw [r1, r2, r3, r4, nI_toInt (by omega), nI_toInt (by omega), nI_toInt (by omega), nI_toInt (by omega)] at hi
  exact ⟨X, Y, w, v, r1, r2, r3, r4, by omega, by omega, by omega, by omega, by omega, by omega⟩
theorem p_drawn {n b L ax am j : Nat} {h : gHp} (hI : Iv b L ax am j h) (hn : 5000 ≤ n) (hj : j < 50000) (z1 z2 : Int32) : PO_drawn n (Iv b L ax am (j + 1)) b L ax am h z1 z2 := by
  obtain ⟨A, ρ, K, S, a, e, ly, rfl, rfl, rfl, H⟩ := hI
  obtain ⟨H1, H2, H3, H4, H5⟩ := id H
  obtain ⟨f1, f2, f3, f4, f5⟩ := top_facts H1 H3.1
  rcases place_both H z1 z2 n with ⟨q1, q2⟩ | ⟨x, y, rfl, rfl, hx, hy, q1, q2⟩
  · exact PO_sm (r := -1) rfl rfl rfl H (by simp [f_G_drawn, f1, f2, f4, g99, g77, q1]) (by show f_M_drawn n S _ _ = _; simp [f_M_drawn, q2])
  have le2 : (-2 : Int32) ≤ 0 := by decide
  rcases pane_both (n := n) H hx hy (by omega) with ⟨r1, r2, r3⟩ | ⟨q, r1, r2, r3, r4, r5, r6⟩ | ⟨q, r1, r2, r3, r4, r5, r6⟩
  · refine PO_sm (r := 32) rfl rfl rfl H (by simp [f_G_drawn, f1, f2, f4, g99, g77, q1, r2]) ?_
    show f_M_drawn n S _ _ = _
    obtain ⟨n', rfl⟩ : ∃ n', n = n' + 1 := ⟨n - 1, by omega⟩
    have e0 : f_M_drawn_B92 (n' + 1) S (nI x) (nI y) 32 0 = some (32, S) := by rw [f_M_drawn_B92, if_pos (by decide)]
    simp [f_M_drawn, q2, r3, le2, r1, e0]
  · have hq : q ≤ 60 := by have := (pnN_le r1).2; have := H4.1.1; omega
    have q0 := (pnN_le r1).1
    have iq := ixn (show q < 2 ^ 31 by omega)
    have bq : inB (nI q) 61 = true := inn (by omega) (by decide)
    have nq0 : ¬ nI q ≤ 0 := nI_ge (a := 0) (b := q) (by omega) (by omega)
    obtain ⟨k0, k1, k3, k4, -⟩ := pane_ints H1 H3.2.2.1 r1
    have t7 : cT L a (S.2 5) 7 q = some (cTag (S.2 5 q)) := cT7 r1
    have hwr : f_M_isWritable n S (nI q) = some (b32 (wrK (S.2 5 q)), S) := by rw [e_isWritable n S (nI q) bq, wrB, iq]; rfl
    by_cases cw : wrK (S.2 5 q) = true
    · obtain ⟨X, Y, w, v, u1, u2, u3, u4, u5, u6, u7, u8, u9, u10⟩ := rel_of H4 hq r4
      obtain ⟨h', K', S', s, st, l, v1, v2, v3, v4, v5, v6, v7, v8⟩ := any_cell H hj r1 cw r2 u3 u4 u5 u6 u9 u10 hn
      have sx : nI x - nI X = nI (x - X) := pk_sub u7
      have sy : nI y - nI Y = nI (y - Y) := pk_sub u8
      refine PO_wf (r := s) (S' := S') rfl rfl rfl H (h1 := h') ?_ ?_ v6 v7 v8
      · have o1 := e_signOf n h' v3 v4 v5
        rcases wr_or cw with hk | hk
        · have tg : gtag h (A 7 q) = some (6, 16) := by rw [H1.tag t7, hk]; rfl
          rw [tg] at v1
          have v1' : f_Text_cellAt n h (A 7 q) (nI (x - X)) (nI (y - Y)) = some (cellv s st l, h') := v1
          simp only [f_G_drawn, f1, f2, f4, g99, g77, q1, Option.bind_some, cond_true, show ¬ (1 : Int32) = 0 from by decide, if_false, reduceIte, r5, reduceCtorEq, tg, show gtin (some (6, 16)) [1, 3, 4, 5, 6] = true from rfl, show gtin (some (6, 16)) [1] = false from rfl, show gtin (some (6, 16)) [3] = false from rfl, show gtin (some (6, 16)) [4] = false from rfl, show gtin (some (6, 16)) [5] = false from rfl, gtx, cond_false, k3, k4, u1, u2, sx, sy, v1', o1]
        · have tg : gtag h (A 7 q) = some (1, 16) := by rw [H1.tag t7, hk]; rfl
          rw [tg] at v1
          have v1' : f_Grid_cellAt n h (A 7 q) (nI (x - X)) (nI (y - Y)) = some (cellv s st l, h') := v1
          simp only [f_G_drawn, f1, f2, f4, g99, g77, q1, Option.bind_some, cond_true, show ¬ (1 : Int32) = 0 from by decide, if_false, reduceIte, r5, reduceCtorEq, tg, show gtin (some (1, 16)) [1, 3, 4, 5, 6] = true from rfl, ggr, k3, k4, u1, u2, sx, sy, v1', o1]
      · show f_M_drawn n S _ _ = _
        simp only [f_M_drawn, q2, r6, Option.bind_some, show ¬ (1 : Int32) = 0 from by decide, if_false, reduceIte, nq0, hwr, cw, b32_t, bq, cond_true, iq, u1, u2, sx, sy, v2, if_true]
    · have k5 := H4.1.2.2.2.2.2 q r1
      rcases k5 with k5 | k5 | k5 | k5 | k5
      · have tg : gtag h (A 7 q) = some (4, 11) := by rw [H1.tag t7, k5]; rfl
        refine PO_sm (r := 32) rfl rfl rfl H ?_ ?_
        · simp only [f_G_drawn, f1, f2, f4, g99, g77, q1, Option.bind_some, cond_true, show ¬ (1 : Int32) = 0 from by decide, if_false, reduceIte, r5, reduceCtorEq, tg, show gtin (some (4, 11)) [1, 3, 4, 5, 6] = true from rfl, show gtin (some (4, 11)) [1] = false from rfl, show gtin (some (4, 11)) [3] = false from rfl, show gtin (some (4, 11)) [4] = true from rfl, cond_false, f_Pane_cellAt, so_32]
        · show f_M_drawn n S _ _ = _
          simp only [f_M_drawn, q2, r6, Option.bind_some, show ¬ (1 : Int32) = 0 from by decide, if_false, reduceIte, nq0, hwr, k5, show wrK 0 = false from rfl, b32_f, bq, cond_true, iq, show ¬ (0 : Int32) = 3 from by decide, if_true]
      · exact absurd (wr1 k5) cw
      · exact absurd (wr2 k5) cw
      · have tg : gtag h (A 7 q) = some (5, 12) := by rw [H1.tag t7, k5]; rfl
        have k11 : gint h (A 7 q) 11 = S.2 20 q := by rw [H1.int t7, (H3.2.2.2.1 q r1).2.1 k5]
        obtain ⟨-, -, -, -, -, -, -, -, b20⟩ := H4.2.1.1 q hq
        obtain ⟨m, hm, em⟩ := bd_n b20
        by_cases c0 : m = 0
        · subst c0
          refine PO_sm (r := 32) rfl rfl rfl H ?_ ?_
          · simp only [f_G_drawn, f1, f2, f4, g99, g77, q1, Option.bind_some, cond_true, show ¬ (1 : Int32) = 0 from by decide, if_false, reduceIte, r5, reduceCtorEq, tg, show gtin (some (5, 12)) [1, 3, 4, 5, 6] = true from rfl, show gtin (some (5, 12)) [1] = false from rfl, show gtin (some (5, 12)) [3] = false from rfl, show gtin (some (5, 12)) [4] = false from rfl, show gtin (some (5, 12)) [5] = true from rfl, cond_false, f_Picture_cellAt, k11, em, show nI 0 = 0 from rfl, if_true, so_32]
          · show f_M_drawn n S _ _ = _
            simp only [f_M_drawn, q2, r6, Option.bind_some, show ¬ (1 : Int32) = 0 from by decide, if_false, reduceIte, nq0, hwr, k5, show wrK 3 = false from rfl, b32_f, bq, cond_true, iq, em, show nI 0 ≤ 0 from by decide, if_true]
        · have n0 : ¬ nI m = 0 := by rw [show (0 : Int32) = nI 0 from rfl, nI_eq (by omega) (by omega)]; exact c0
          have nle : ¬ nI m ≤ 0 := nI_ge (a := 0) (b := m) (by omega) (by omega)
          refine PO_sm (r := 35) rfl rfl rfl H ?_ ?_
          · simp only [f_G_drawn, f1, f2, f4, g99, g77, q1, Option.bind_some, cond_true, show ¬ (1 : Int32) = 0 from by decide, if_false, reduceIte, r5, reduceCtorEq, tg, show gtin (some (5, 12)) [1, 3, 4, 5, 6] = true from rfl, show gtin (some (5, 12)) [1] = false from rfl, show gtin (some (5, 12)) [3] = false from rfl, show gtin (some (5, 12)) [4] = false from rfl, show gtin (some (5, 12)) [5] = true from rfl, cond_false, f_Picture_cellAt, k11, em, n0, so_35]
          · show f_M_drawn n S _ _ = _
            simp only [f_M_drawn, q2, r6, Option.bind_some, show ¬ (1 : Int32) = 0 from by decide, if_false, reduceIte, nq0, hwr, k5, show wrK 3 = false from rfl, b32_f, bq, cond_true, iq, em, nle, if_true]
      · exact absurd k5 r3
  · have t7 : cT L a (S.2 5) 7 q = some (cTag (S.2 5 q)) := cT7 r1
    have tg : gtag h (A 7 q) = some (3, 16) := by rw [H1.tag t7, r3]; rfl
    have k11 : gint h (A 7 q) 11 = S.2 9 q := by rw [H1.int t7, ((H3.2.2.2.1 q r1).1 r3).1]
    refine PO_sm (r := bsg S q) rfl rfl rfl H ?_ ?_
    · unfold bsg
      by_cases c : S.2 9 q &&& 2 = 0
      · simp only [f_G_drawn, f1, f2, f4, g99, g77, q1, Option.bind_some, cond_true, show ¬ (1 : Int32) = 0 from by decide, if_false, reduceIte, r4, reduceCtorEq, tg, show gtin (some (3, 16)) [1, 3, 4, 5, 6] = true from rfl, show gtin (some (3, 16)) [1] = false from rfl, show gtin (some (3, 16)) [3] = true from rfl, cond_false, f_Pair_cellAt, f_G_isAlongRows, k11, c, if_true, so_124]
      · simp only [f_G_drawn, f1, f2, f4, g99, g77, q1, Option.bind_some, cond_true, show ¬ (1 : Int32) = 0 from by decide, if_false, reduceIte, r4, reduceCtorEq, tg, show gtin (some (3, 16)) [1, 3, 4, 5, 6] = true from rfl, show gtin (some (3, 16)) [1] = false from rfl, show gtin (some (3, 16)) [3] = true from rfl, cond_false, f_Pair_cellAt, f_G_isAlongRows, k11, c, so_45]
    · show f_M_drawn n S _ _ = _
      simp only [f_M_drawn, q2, r5, Option.bind_some, show ¬ (1 : Int32) = 0 from by decide, if_false, if_true, reduceIte, le2, r6]
/-- an ask ends with an event -/
theorem ask_ev {b L ax am j : Nat} {h h1 : gHp} {A : Nat → Nat → Nat} {ρ : Nat → Nat × Nat} {K K1 : KS} {S S1 : MS} {a e P k n : Nat} {ly : Nat → Bool} {fG : Option (Int32 × gHp)} {fM : MS → Option (Int32 × MS)} {x1 x3 x4 : Int32} (e1 : A 17 0 = b) (e2 : A 0 0 = ax) (e3 : A 15 0 = am) (H : Cpl h A ρ L K S a e ly j) (H1 : Hrep h1 A ρ (cT L a (S.2 5)) K1) (hK : KWF K K1) (hS : SWF S S1) (hp : pnN a P = true) (hw : wrK (S.2 5 P) = true) (hk : k < 4) (hk1 : ¬ k = 1) (hn : 5000 ≤ n) (hx : ¬ x1 = 1) (hG : ∀ h', f_Events_add n (gsetI h1 (A 8 P) k 0) (A 2 0) x1 (nI P) x3 x4 = some h' → fG = some (1, h')) (hM : ∀ S', f_M_event_4 n (S1.a 21 (4 * P + k) 0) x1 (nI P) x3 x4 = some S' → fM S = some (1, S')) : POg (Iv b L ax am (j + 1)) b L am h fG fM := by
  obtain ⟨H1', H2, H3, H4, H5⟩ := id H
  have s5 := hS.2 5 (by decide)
  have hw1 : wrK (S1.2 5 P) = true := by rw [s5]; exact hw
  have R1 := H3.wf hK hS
  have W1 := (H4.mono (Nat.le_succ j)).wf hS
  have t8 := cT8 (L := L) (kd := S.2 5) hp hw
  have HH := H1.i t8 k 0
  obtain ⟨m, hm, em⟩ := bd_n W1.2.1.2.2.1
  obtain ⟨v1, v2, v3, v4, v5, v6⟩ := id R1.2.2.2.2.2.2.2.2.1
  have hS1 : RKs K1 a (S.2 5) := by have := R1.1; rw [s5] at this; exact this
  obtain ⟨h', K', e', q1, q2, q3, q4⟩ := ev_add HH hS1 (m := m) (e := e) (n := n) (by rw [← em]; exact v1) v3 v4 hm (by omega) x1 (nI P) x3 x4 hx
  have q5 := e_event_4 (n := n) (by omega) (S1.a 21 (4 * P + k) 0) (m := m) em hm (x1 := x1) (x2 := nI P) (x3 := x3) (x4 := x4) (P := P) (fun q => absurd q hx)
  have W2 := (W1.ask (P := P) (k := k) hp hw1 hk (x := 0) (Or.inl rfl)).ev (S' := evS (S1.a 21 (4 * P + k) 0) m x1 (nI P) x3 x4 P) EVS.of (evS_bd hm) (by rw [evS_42]; exact W1.2.1.2.2.2)
  refine PO_mk (r := 1) (S' := evS (S1.a 21 (4 * P + k) 0) m x1 (nI P) x3 x4 P) (e' := e') (ly' := ly) e1 e2 e3 H (h1 := h') (hG h' q1) (hM _ q5) q2 ((hK.keep.tr ⟨rfl, rfl, rfl, rfl⟩).tr q3.keep) (by rw [(EVS.of).2 5 (by decide)]; exact s5) (((R1.nine.ask (P := P) hk 0).ev q3 EVS.of).with (q4 _ P R1.2.2.2.2.2.2.2.2.1 em)) W2 (fun p hp' => ?_)
  rw [(EVS.of).2 21 (by decide)]
  refine hl_set (S := S1) (fun p hp' => ?_) hk hk1 p hp'
  rw [hS.2 21 (by decide)]
  exact H5 p hp'
theorem p_click {n b L ax am j : Nat} {h : gHp} (hI : Iv b L ax am j h) (hn : 5000 ≤ n) (hj : j < 50000) (z1 z2 : Int32) : PO_click n (Iv b L ax am (j + 1)) b L ax am h z1 z2 := by
  obtain ⟨A, ρ, K, S, a, e, ly, rfl, rfl, rfl, H⟩ := hI
  obtain ⟨H1, H2, H3, H4, H5⟩ := id H
  obtain ⟨f1, f2, f3, f4, f5⟩ := top_facts H1 H3.1
  rcases place_both H z1 z2 n with ⟨q1, q2⟩ | ⟨x, y, rfl, rfl, hx, hy, q1, q2⟩
  · exact PO_sm (r := -1) rfl rfl rfl H (by simp [f_G_click, f1, f2, f4, g99, g77, q1]) (by show f_M_click n S _ _ = _; simp [f_M_click, q2])
  have lt2 : (-2 : Int32) < 0 := by decide
  rcases pane_both (n := n) H hx hy (by omega) with ⟨r1, r2, r3⟩ | ⟨q, r1, r2, r3, r4, r5, r6⟩ | ⟨q, r1, r2, r3, r4, r5, r6⟩
  · exact PO_sm (r := 0) rfl rfl rfl H (by simp [f_G_click, f1, f2, f4, g99, g77, q1, r2, gInst]) (by show f_M_click n S _ _ = _; simp [f_M_click, q2, r3, lt2])
  · have hq : q ≤ 60 := by have := (pnN_le r1).2; have := H4.1.1; omega
    have iq := ixn (show q < 2 ^ 31 by omega)
    have bq : inB (nI q) 61 = true := inn (by omega) (by decide)
    have nlt : ¬ nI q < 0 := nI_pos (by omega)
    obtain ⟨k0, k1, k3, k4, -⟩ := pane_ints H1 H3.2.2.1 r1
    obtain ⟨n1, n2, n3, n4, n5⟩ := no_inst H1 H4.1 r1
    have hwr : f_M_isWritable n S (nI q) = some (b32 (wrK (S.2 5 q)), S) := by rw [e_isWritable n S (nI q) bq, wrB, iq]; rfl
    by_cases cw : wrK (S.2 5 q) = true
    case neg => exact PO_sm (r := 0) rfl rfl rfl H (by simp [f_G_click, f1, f2, f4, g99, g77, q1, r5, n5, cw, b32]) (by show f_M_click n S _ _ = _; simp [f_M_click, q2, r6, nlt, hwr, cw, b32])
    have n5' : gInst h (some (A 7 q)) "GlkPanes$Writing" = some 1 := by rw [n5, cw]; rfl
    have n6 := cas_of n5'
    obtain ⟨w1, w2, w3, w4, w5, w6, w7, w8⟩ := wr_facts H1 H3.1 r1 cw
    have ga2 : gArr (some (21, 4)) 21 2 = true := gA4 (k := 2) (by omega)
    have ga3 : gArr (some (21, 4)) 21 3 = true := gA4 (k := 3) (by omega)
    have a2 : gint h (A 8 q) (ix 2) = S.2 21 (4 * q + 2) := ask_ints H1 H3.2.2.2.2.1 r1 cw (k := 2) (by omega)
    have a3 : gint h (A 8 q) (ix 3) = S.2 21 (4 * q + 3) := ask_ints H1 H3.2.2.2.2.1 r1 cw (k := 3) (by omega)
    have a2' : gint h (A 8 q) 2 = S.2 21 (4 * q + 2) := a2
    have a3' : gint h (A 8 q) 3 = S.2 21 (4 * q + 3) := a3
    have x2 : (4 : Int32) * nI q + 2 = nI (4 * q + 2) := (ix4 hq (k := 2) (by omega)).1
    have x3 : (4 : Int32) * nI q + 3 = nI (4 * q + 3) := (ix4 hq (k := 3) (by omega)).1
    have i2 := ixn (show 4 * q + 2 < 2 ^ 31 by omega)
    have i3 := ixn (show 4 * q + 3 < 2 ^ 31 by omega)
    have b2 := inn (show 4 * q + 2 < 244 by omega) (by decide)
    have b3 := inn (show 4 * q + 3 < 244 by omega) (by decide)
    have z0 : isZ 0 = true := rfl
    have j2 : ix (2 : Int32) = 2 := rfl
    have j3 : ix (3 : Int32) = 3 := rfl
    have n78 : ¬ A 7 q = A 8 q := H1.ne (cT7 (L := L) r1) (cT8 (L := L) (kd := S.2 5) r1 cw) (by omega)
    obtain ⟨X, Y, w, v, u1, u2, u3, u4, u5, u6, u7, u8, u9, u10⟩ := rel_of H4 hq r4
    have sx : nI x - nI X = nI (x - X) := pk_sub u7
    have sy : nI y - nI Y = nI (y - Y) := pk_sub u8
    by_cases c3 : S.2 21 (4 * q + 3) = 0
    case neg =>
      refine ask_ev (P := q) (k := 3) (x1 := 3) (x3 := nI (x - X)) (x4 := nI (y - Y)) rfl rfl rfl H H1 KWF.rf SWF.rf r1 cw (by omega) (by omega) hn (by decide) (fun h' hh => ?_) (fun S' hh => ?_)
      · simp only [f_G_click, f1, f2, f3, f4, f5, g99, g77, gt0', q1, Option.bind_some, cond_true, show ¬ (1 : Int32) = 0 from by decide, if_false, reduceIte, r5, n5', n6, w1, w2, w5, ga3, a3, c3, k3, k4, u1, u2, sx, sy, gtag_setI, gref_setI, gint_setI, n78, false_and, j3, a3', k0, hh]
      · show f_M_click n S _ _ = _
        simp only [f_M_click, q2, r6, Option.bind_some, show ¬ (1 : Int32) = 0 from by decide, if_false, reduceIte, nlt, hwr, cw, b32_t, bq, cond_true, x3, i3, b3, c3, z0, iq, u1, u2, sx, sy, hh]
    obtain ⟨h', K', S', s, st, l, v1, v2, v3, v4, v5, v6, v7, v8⟩ := any_cell H hj r1 cw r2 u3 u4 u5 u6 u9 u10 hn
    have v2' := v2 2
    rw [if_neg (by decide), if_neg (by decide)] at v2'
    have o1 := e_linkOf n h' v3 v4 v5
    have s21 : S'.2 21 = S.2 21 := v8.2 21 (by decide)
    have hM : f_M_click n S (nI x) (nI y) = (if l = (0 : Int32) then some ((0 : Int32), S') else (if S.2 21 (4 * q + 2) = (0 : Int32) then some ((0 : Int32), S') else ((f_M_event_4 n (S'.a 21 (4 * q + 2) 0) 2 (nI q) l 0).bind (fun q11 => some ((1 : Int32), q11))))) := by
      simp only [f_M_click, q2, r6, Option.bind_some, show ¬ (1 : Int32) = 0 from by decide, if_false, if_true, reduceIte, nlt, hwr, cw, b32_t, bq, cond_true, x3, i3, b3, c3, z0, iq, u1, u2, sx, sy, v2', x2, i2, b2, s21]
    by_cases c2 : S.2 21 (4 * q + 2) = 0
    · refine PO_wf (r := 0) (S' := S') (K' := K) rfl rfl rfl H (h1 := h) ?_ ?_ H1 KWF.rf v8
      · simp only [f_G_click, f1, f2, f3, f4, f5, g99, g77, q1, Option.bind_some, cond_true, show ¬ (1 : Int32) = 0 from by decide, if_false, if_true, reduceIte, r5, n5', n6, w1, w2, w5, ga3, ga2, a3, a2, c3, c2, f_G_click_B118]
      · show f_M_click n S _ _ = _
        rw [hM, if_pos c2]
        split <;> rfl
    · by_cases cl : l = 0
      · subst cl
        refine PO_wf (r := 0) (S' := S') (K' := K') rfl rfl rfl H (h1 := h') ?_ (by show f_M_click n S _ _ = _; rw [hM, if_pos rfl]) v6 v7 v8
        simp only [f_G_click, f1, f2, f3, f4, f5, g99, g77, q1, Option.bind_some, cond_true, show ¬ (1 : Int32) = 0 from by decide, if_false, if_true, reduceIte, r5, n5', n6, w1, w2, w5, ga3, ga2, a3, a2, c3, c2, k3, k4, u1, u2, sx, sy, v1, o1, f_G_click_B118]
      · have hS' : RKs K' a (S.2 5) := H3.1.eq v7.1
        obtain ⟨w1', w2', w3', w4', w5', w6', w7', w8'⟩ := wr_facts (S := S) v6 hS' r1 cw
        have f1' : gtag h' (A 0 0) = some (9, 2) := v6.tag (c := 0) (p := 0) rfl
        have f5' : gtag h' (A 2 0) = some (0, 5) := v6.tag (c := 2) (p := 0) rfl
        have f3' : gref h' (A 0 0) 1 = some (A 2 0) := by rw [v6.ref (c := 0) (p := 0) (t := (9, 2)) rfl, hS'.2.1]; rfl
        have k0' : gint h' (A 7 q) 0 = nI q := by rw [v6.int (cT7 r1), v7.2 7 (by decide)]; exact (H3.2.2.1 q r1).1
        refine ask_ev (P := q) (k := 2) (x1 := 2) (x3 := l) (x4 := 0) rfl rfl rfl H v6 v7 v8 r1 cw (by omega) (by omega) hn (by decide) (fun h'' hh => ?_) (fun S'' hh => ?_)
        · simp only [f_G_click, f1, f2, f3, f4, f5, g99, g77, gt0', q1, Option.bind_some, cond_true, show ¬ (1 : Int32) = 0 from by decide, if_false, if_true, reduceIte, r5, n5', n6, w1, w2, w5, ga3, ga2, a3, a2, c3, c2, k3, k4, u1, u2, sx, sy, v1, o1, cl, f_G_click_B118, w1', w2', w5', gtag_setI, gref_setI, gint_setI, n78, false_and, j2, a2', k0', f1', f3', f5', hh]
        · show f_M_click n S _ _ = _
          rw [hM, if_neg cl, if_neg c2, hh]
          rfl
  · obtain ⟨n1, n2, n3, n4, n5⟩ := no_inst H1 H4.1 r1
    exact PO_sm (r := 0) rfl rfl rfl H (by simp [f_G_click, f1, f2, f4, g99, g77, q1, r4, n5, r3, wrK, b32]) (by show f_M_click n S _ _ = _; simp [f_M_click, q2, r5, lt2])
