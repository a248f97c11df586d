theorem EVS.rf {S : MS} : EVS S S := ⟨fun _ _ _ => rfl, fun _ _ => rfl⟩
theorem EVF.rf {K : KS} : EVF K K := ⟨fun _ _ _ => rfl, rfl⟩
theorem MS.a_self (S : MS) (k q : Nat) : S.a k q (S.2 k q) = S := by
  refine MS.ext (fun _ => rfl) (fun r i => ?_)
  rw [MS.a_2]
  split
  · rename_i e; rw [e.1, e.2]
  · rfl
section CAN
variable {h : gHp} {A : Nat → Nat → Nat} {ρ : Nat → Nat × Nat} {L a P j k : Nat} {K : KS} {S : MS} {ly : Nat → Bool}
theorem RK9.ask (R : RK9 K S a ly) (hk : k < 4) (x : Int32) : RK9 (K.i 8 P k x) (S.a 21 (4 * P + k) x) a ly :=
  ⟨R.1, R.2.1, R.2.2.1, R.2.2.2.1, R.2.2.2.2.1.set hk, R.2.2.2.2.2⟩
theorem WF.ask (W : WF S a j) (hp : pnN a P = true) (hw : wrK (S.2 5 P) = true) (hk : k < 4) {x : Int32} (hx : x = 0 ∨ x = 1) : WF (S.a 21 (4 * P + k) x) a j :=
  ⟨W.1, W.2.1, W.2.2.1, W.2.2.2.1.set hw hk hx, W.2.2.2.2.1.set21 (pnN_le hp).2 hk, W.2.2.2.2.2⟩
end CAN
theorem ly_of {S : MS} {a P : Nat} {ly : Nat → Bool} (H5 : ∀ p, pnN a p = true → (ly p = true ↔ ¬ S.2 21 (4 * p + 1) = 0)) (hp : pnN a P = true) (h : ¬ S.2 21 (4 * P + 1) = 0) : ly P = true := (H5 P hp).mpr h
/-- which lines are asked for, when one ends -/
theorem hl_end {S S' : MS} {a P : Nat} {ly : Nat → Bool} (H5 : ∀ p, pnN a p = true → (ly p = true ↔ ¬ S.2 21 (4 * p + 1) = 0)) (hS : S'.2 21 = (S.a 21 (4 * P + 1) 0).2 21) : ∀ p, pnN a p = true → ((ly p && !decide (p = P)) = true ↔ ¬ S'.2 21 (4 * p + 1) = 0) := by
  intro p hp
  rw [hS, MS.a_2]
  by_cases e : p = P
  · rw [if_pos ⟨rfl, by omega⟩]; simp [e]
  · rw [if_neg (by omega)]; simp [e, H5 p hp]
theorem p_cancel {n b L ax am j : Nat} {h : gHp} (hI : Iv b L ax am j h) (hn : 5000 ≤ n) (hj : j < 50000) (z1 z2 : Int32) : PO_cancel n (Iv b L ax am (j + 1)) b L ax am h z1 z2 := by
  obtain ⟨A, ρ, K, S, a, e, ly, rfl, rfl, rfl, H⟩ := hI
  obtain ⟨H1, H2, H3, H4, H5⟩ := id H
  obtain ⟨f1, f2, f3, f4, f5⟩ := top_facts H1 H3.1
  have hf := e_find H1 H3.1 H3.2.1 n z1
  by_cases c1 : opB S z1 = true
  case neg => exact PO_sm (r := -1) rfl rfl rfl H (by simp [f_G_cancel, f1, f2, f4, g99, g77, hf, c1]) (by show f_M_cancel n S _ _ = _; simp [f_M_cancel, e_isPane, c1, b32])
  obtain ⟨P, rfl, p1, p2, p3, p4⟩ := opB_nI H4.1 c1
  have iP := ixn (show P < 2 ^ 31 by omega)
  have bP : inB (nI P) 61 = true := inn (by omega) (by decide)
  obtain ⟨n1, n2, n3, n4, n5⟩ := no_inst H1 H4.1 p3
  by_cases c2 : rgB z2 0 3 = true
  case neg => exact PO_sm (r := -1) rfl rfl rfl H (by simp [f_G_cancel, f1, f2, f4, g99, g77, hf, c1, e_isAsk, c2, b32]) (by show f_M_cancel n S _ _ = _; simp [f_M_cancel, e_isPane, e_in, c1, c2, b32])
  obtain ⟨k, hk, rfl⟩ : ∃ w : Nat, w ≤ 3 ∧ z2 = nI w := nI_of2 (M := 3) (by decide) (rgB_t.mp c2).1 (rgB_t.mp c2).2
  obtain ⟨x4, x5, x6⟩ := ix4 p2 (k := k) (by omega)
  have ik := ixn (show k < 2 ^ 31 by omega)
  by_cases cw : wrK (S.2 5 P) = true
  case neg =>
    have z0 : S.2 21 (4 * P + k) = 0 := H4.2.2.2.1.2 P p3 (by simpa using cw) k (by omega)
    exact PO_sm (r := -2) rfl rfl rfl H (by simp [f_G_cancel, f1, f2, f4, g99, g77, hf, c1, e_isAsk, c2, b32, iP, n5, cw]) (by show f_M_cancel n S _ _ = _; simp [f_M_cancel, e_isPane, e_in, c1, c2, b32, x4, x5, x6, z0])
  obtain ⟨w1, w2, w3, w4, w5, w6, w7, w8⟩ := wr_facts H1 H3.1 p3 cw
  have n5' : gInst h (some (A 7 P)) "GlkPanes$Writing" = some 1 := by rw [n5, cw]; rfl
  have n6 := cas_of n5'
  have t8 := cT8 (L := L) (kd := S.2 5) p3 cw
  have t9 := cT9 (L := L) (kd := S.2 5) p3 cw
  have ga := gA4 (show k < 4 by omega)
  have k8 : gint h (A 8 P) k = S.2 21 (4 * P + k) := ask_ints H1 H3.2.2.2.2.1 p3 cw (by omega)
  by_cases c5 : S.2 21 (4 * P + k) = 0
  · exact PO_sm (r := -2) rfl rfl rfl H (by simp [f_G_cancel, f1, f2, f4, g99, g77, hf, c1, e_isAsk, c2, b32, iP, n5', n6, w1, w2, w5, ga, ik, k8, c5]) (by show f_M_cancel n S _ _ = _; simp [f_M_cancel, e_isPane, e_in, c1, c2, b32, x4, x5, x6, c5])
  have z0 : isZ 0 = true := rfl
  by_cases q : k = 1
  · subst q
    have hl := ly_of H5 p3 c5
    have R1 := H3.nine.ask (P := P) (k := 1) (by omega) 0
    have W1 := H4.ask p3 cw (k := 1) (by omega) (x := 0) (Or.inl rfl)
    have HH := H1.i t8 1 0
    obtain ⟨h', K', S', q1, q2, q3, q4, q5, q6, q7, q8⟩ := fin_line (S := S.a 21 (4 * P + 1) 0) HH R1 W1 hj p3 cw p4 hl hn
    have u1 := (H3.2.2.2.2.2.1 P p3 cw).1
    rw [hl, cond_true] at u1
    have i2 : gint h (A 9 P) 2 = S.2 23 P := by rw [H1.int t9, u1]
    have s23 : S'.2 23 P = S.2 23 P := by rw [q8.row 23 (by decide)]; rfl
    refine PO_mk (r := S.2 23 P) (S' := S') (e' := e) (ly' := fun p => ly p && !decide (p = P)) rfl rfl rfl H (h1 := h') ?_ ?_ q3 (KEEP.tr ⟨rfl, rfl, rfl, rfl⟩ q4) (by rw [q8.row 5 (by decide)]; rfl) (q6.with (RKe.eq (K := K) (S := S) H3.2.2.2.2.2.2.2.2.1 q5.1 q5.2.1 q5.2.2 q8.1 (q8.row 43 (by decide)))) q7 (hl_end H5 (q8.row 21 (by decide)))
    · show f_G_cancel n h (A 0 0) (nI P) 1 = _
      have c2 : rgB 1 0 3 = true := c2
      have ga : gArr (some (21, 4)) 21 1 = true := ga
      simp only [f_G_cancel, f1, f2, f4, g99, g77, hf, c1, e_isAsk, c2, b32_t, iP, n5', n6, w1, w2, w3, w5, w6, gtl, ga, show ix 1 = 1 from rfl, k8, c5, Option.bind_some, cond_true, reduceCtorEq, show ¬ (1 : Int32) = 0 from by decide, if_false, if_true, reduceIte, gtag_setI, q1, i2]
    · show f_M_cancel n S (nI P) 1 = _
      have c2 : rgB 1 0 3 = true := c2
      have x4 : (4 : Int32) * nI P + 1 = nI (4 * P + 1) := x4
      simp only [f_M_cancel, e_isPane, e_in, c1, c2, b32_t, x4, x5, x6, c5, z0, Option.bind_some, cond_true, show ¬ (1 : Int32) = 0 from by decide, if_false, if_true, reduceIte, q2, bP, iP, s23]
  · have q' : ¬ nI k = 1 := by rw [show (1 : Int32) = nI 1 from rfl, nI_eq (by omega) (by omega)]; exact q
    refine PO_mk (r := 1) (S' := S.a 21 (4 * P + k) 0) (e' := e) (ly' := ly) rfl rfl rfl H ?_ ?_ (H1.i t8 k 0) ⟨rfl, rfl, rfl, rfl⟩ rfl ((H3.nine.ask (by omega) 0).with H3.2.2.2.2.2.2.2.2.1) ((H4.mono (Nat.le_succ j)).ask p3 cw (by omega) (Or.inl rfl)) (hl_set H5 (by omega) q)
    · simp [f_G_cancel, f1, f2, f4, g99, g77, hf, c1, e_isAsk, c2, b32, iP, n5', n6, w1, w2, w3, w5, w6, gtl, ga, ik, k8, c5, q']
    · show f_M_cancel n S _ _ = _
      simp [f_M_cancel, e_isPane, e_in, c1, c2, b32, x4, x5, x6, c5, q', z0]
theorem p_type {n b L ax am j : Nat} {h : gHp} (hI : Iv b L ax am j h) (hn : 5000 ≤ n) (hj : j < 50000) (z1 z2 : Int32) : PO_type n (Iv b L ax am (j + 1)) b L ax am h z1 z2 := by
  obtain ⟨A, ρ, K, S, a, e, ly, rfl, rfl, rfl, H⟩ := hI
  obtain ⟨H1, H2, H3, H4, H5⟩ := id H
  obtain ⟨f1, f2, f3, f4, f5⟩ := top_facts H1 H3.1
  have hf := e_find H1 H3.1 H3.2.1 n z1
  by_cases c1 : opB S z1 = true
  case neg => exact PO_sm (r := -1) rfl rfl rfl H (by simp [f_G_type, f1, f2, f4, g99, g77, hf, c1]) (by show f_M_type n S _ _ = _; simp [f_M_type, e_isPane, c1, b32])
  obtain ⟨P, rfl, p1, p2, p3, p4⟩ := opB_nI H4.1 c1
  have iP := ixn (show P < 2 ^ 31 by omega)
  have bP : inB (nI P) 61 = true := inn (by omega) (by decide)
  obtain ⟨n1, n2, n3, n4, n5⟩ := no_inst H1 H4.1 p3
  by_cases c2 : z2 = 8 ∨ z2 = 10 ∨ rgB z2 32 126 = true
  case neg =>
    have d0 : ¬ z2 = 8 := fun q => c2 (Or.inl q)
    have d1 : ¬ z2 = 10 := fun q => c2 (Or.inr (Or.inl q))
    have d2 : ¬ rgB z2 32 126 = true := fun q => c2 (Or.inr (Or.inr q))
    exact PO_sm (r := -1) rfl rfl rfl H (by simp [f_G_type, f1, f2, f4, g99, g77, hf, c1, d0, d1, e_isPlain, d2, b32]) (by show f_M_type n S _ _ = _; simp [f_M_type, e_isPane, e_in, c1, d0, d1, d2, b32])
  have hG : f_G_type n h (A 0 0) (nI P) z2 = f_G_type_B34 (A 0 0) n h z2 (some (A 7 P)) := by
    by_cases d0 : z2 = 8
    · simp [f_G_type, f1, f2, f4, g99, g77, hf, c1, d0, iP]
    · by_cases d1 : z2 = 10
      · simp [f_G_type, f1, f2, f4, g99, g77, hf, c1, d1, iP]
      · have d2 : rgB z2 32 126 = true := by rcases c2 with q | q | q; exact absurd q d0; exact absurd q d1; exact q
        simp [f_G_type, f1, f2, f4, g99, g77, hf, c1, d0, d1, e_isPlain, d2, b32, iP]
  have hM : f_M_type n S (nI P) z2 = f_M_type_B33 n S (nI P) z2 := by
    by_cases d0 : z2 = 8
    · simp [f_M_type, e_isPane, e_in, c1, d0, b32]
    · by_cases d1 : z2 = 10
      · simp [f_M_type, e_isPane, e_in, c1, d1, b32]
      · have d2 : rgB z2 32 126 = true := by rcases c2 with q | q | q; exact absurd q d0; exact absurd q d1; exact q
        simp [f_M_type, e_isPane, e_in, c1, d0, d1, d2, b32]
  have hC : ¬ z2 = 8 → ¬ z2 = 10 → sgn z2 := by
    intro d0 d1
    have d2 : rgB z2 32 126 = true := by rcases c2 with q | q | q; exact absurd q d0; exact absurd q d1; exact q
    simp only [rgB, Bool.and_eq_true, decide_eq_true_eq] at d2
    exact d2
  show POg _ _ _ _ _ (f_G_type n h (A 0 0) (nI P) z2) (fun S => f_M_type n S (nI P) z2)
  have y4 : (4 : Int32) * nI P = nI (4 * P) := by rw [show (4 : Int32) = nI 4 from rfl, pk_mul]
  have y5 := ixn (show 4 * P < 2 ^ 31 by omega)
  have y6 := inn (show 4 * P < 244 by omega) (by decide)
  have x4 : nI (4 * P) + 1 = nI (4 * P + 1) := nI_1 _
  have x5 := (ix4 p2 (k := 1) (by decide)).2.1
  have x6 := (ix4 p2 (k := 1) (by decide)).2.2
  by_cases cw : wrK (S.2 5 P) = true
  case neg =>
    have z0 : S.2 21 (4 * P) = 0 := H4.2.2.2.1.2 P p3 (by simpa using cw) 0 (by omega)
    have z1 : S.2 21 (4 * P + 1) = 0 := H4.2.2.2.1.2 P p3 (by simpa using cw) 1 (by omega)
    exact PO_sm (r := 0) rfl rfl rfl H (by rw [hG]; simp [f_G_type_B34, n5, cw, b32]) (by show f_M_type n S _ _ = _; rw [hM]; simp [f_M_type_B33, y4, y5, y6, x4, x5, x6, z0, z1])
  obtain ⟨w1, w2, w3, w4, w5, w6, w7, w8⟩ := wr_facts H1 H3.1 p3 cw
  have n5' : gInst h (some (A 7 P)) "GlkPanes$Writing" = some 1 := by rw [n5, cw]; rfl
  have n6 := cas_of n5'
  have t8 := cT8 (L := L) (kd := S.2 5) p3 cw
  have t9 := cT9 (L := L) (kd := S.2 5) p3 cw
  have t10 := cT10 (L := L) (kd := S.2 5) p3 cw
  have ga0 : gArr (some (21, 4)) 21 0 = true := gA4 (k := 0) (by omega)
  have ga1 : gArr (some (21, 4)) 21 1 = true := gA4 (k := 1) (by omega)
  have k80 : gint h (A 8 P) (ix 0) = S.2 21 (4 * P) := ask_ints H1 H3.2.2.2.2.1 p3 cw (k := 0) (by omega)
  have k81 : gint h (A 8 P) (ix 1) = S.2 21 (4 * P + 1) := ask_ints H1 H3.2.2.2.2.1 p3 cw (k := 1) (by omega)
  have k80' : gint h (A 8 P) 0 = S.2 21 (4 * P) := k80
  have n78 : ¬ A 7 P = A 8 P := H1.ne (cT7 (L := L) (kd := S.2 5) p3) t8 (by omega)
  have z0 : isZ 0 = true := rfl
  have n98 : gtis (some (9, 2)) 9 = true := rfl
  obtain ⟨m, hm, em⟩ := bd_n H4.2.1.2.2.1
  obtain ⟨v1, v2, v3, v4, v5, v6⟩ := id H3.2.2.2.2.2.2.2.2.1
  have k0 : gint h (A 7 P) 0 = nI P := (pane_ints H1 H3.2.2.1 p3).1
  have i0 : ix (0 : Int32) = 0 := rfl
  have i1 : ix (1 : Int32) = 1 := rfl
  by_cases d0 : S.2 21 (4 * P) = 0
  case neg =>
    have HH := H1.i t8 0 0
    have R1 := H3.nine.ask (P := P) (k := 0) (by omega) 0
    have W1 := (H4.mono (Nat.le_succ j)).ask p3 cw (k := 0) (by omega) (x := 0) (Or.inl rfl)
    obtain ⟨h', K', e', q1, q2, q3, q4⟩ := ev_add HH H3.1 (m := m) (e := e) (n := n) (by rw [← em]; exact v1) v3 v4 hm (by omega) 0 (nI P) z2 0 (by decide)
    have q5 := e_event_4 (n := n) (by omega) (S.a 21 (4 * P + 0) 0) (m := m) em hm (x1 := 0) (x2 := nI P) (x3 := z2) (x4 := 0) (P := P) (fun q => absurd q (by decide))
    refine PO_mk (r := 1) (S' := evS (S.a 21 (4 * P + 0) 0) m 0 (nI P) z2 0 P) (e' := e') (ly' := ly) rfl rfl rfl H (h1 := h') ?_ ?_ q2 (KEEP.tr ⟨rfl, rfl, rfl, rfl⟩ q3.keep) (by rw [(EVS.of).2 5 (by decide)]; rfl) ((R1.ev q3 EVS.of).with (q4 _ P H3.2.2.2.2.2.2.2.2.1 em)) (W1.ev EVS.of (evS_bd hm) (by rw [evS_42]; exact H4.2.1.2.2.2)) (fun p hp => ?_)
    · rw [hG]
      simp only [f_G_type_B34, n5', n6, w1, w2, w5, ga0, k80, d0, Option.bind_some, cond_true, show ¬ (1 : Int32) = 0 from by decide, if_false, if_true, reduceIte, gtag_setI, gref_setI, f1, f3, f5, g99, gt0', i0, k80', gint_setI, k0, n78, false_and, q1]
    · show f_M_type n S _ _ = _
      rw [hM]
      simp only [f_M_type_B33, y4, y5, y6, d0, z0, cond_true, if_false, reduceIte]
      rw [show S.a 21 (4 * P) 0 = S.a 21 (4 * P + 0) 0 from rfl, q5]
      rfl
    · rw [(EVS.of).2 21 (by decide)]
      exact hl_set H5 (k := 0) (by omega) (by decide) p hp
  by_cases d1 : S.2 21 (4 * P + 1) = 0
  · exact PO_sm (r := 0) rfl rfl rfl H (by rw [hG]; simp [f_G_type_B34, n5', n6, w1, w2, w5, ga0, ga1, k80, k81, d0, d1]) (by show f_M_type n S _ _ = _; rw [hM]; simp [f_M_type_B33, y4, y5, y6, x4, x5, x6, d0, d1])
  have hl := ly_of H5 p3 d1
  obtain ⟨u1, u2⟩ := H3.2.2.2.2.2.1 P p3 cw
  rw [hl, cond_true] at u1
  obtain ⟨u3, u4⟩ := u2 hl
  obtain ⟨-, -, -, -, -, b23, b22, b2l, -⟩ := H4.2.1.1 P p2
  obtain ⟨T, hT, eT⟩ := bd_n b23
  obtain ⟨M, hM', eM⟩ := bd_n b22
  rw [eT, eM, nI_toInt (by omega), nI_toInt (by omega)] at b2l
  rw [eT] at u1
  rw [eT, ixn (by omega)] at u4
  have hG2 : f_G_type_B34 (A 0 0) n h z2 (some (A 7 P)) = (f_G_typeInLine n h (A 0 0) (some (A 7 P)) z2).bind (fun q9 => some (q9.1, q9.2)) := by
    simp only [f_G_type_B34, n5', n6, w1, w2, w5, ga0, ga1, k80, k81, d0, d1, Option.bind_some, cond_true, show ¬ (1 : Int32) = 0 from by decide, if_false, if_true, reduceIte, f1, n98]
  have i92 : gint h (A 9 P) 2 = nI T := by rw [H1.int t9, u1]
  have i91 : gint h (A 9 P) 1 = nI M := by rw [H1.int t9, u3, eM]
  by_cases c10 : z2 = 10
  · subst c10
    have HH := H1.i t8 1 0
    have R1 := H3.nine.ask (P := P) (k := 1) (by omega) 0
    have W1 := H4.ask p3 cw (k := 1) (by omega) (x := 0) (Or.inl rfl)
    have hσ : ∀ k, k < T → sgn (S.2 24 (40 * P + k)) := fun k hk => H4.2.2.1.2.1 P k p2 (by rw [eT, ixn (by omega)]; exact hk)
    obtain ⟨h2, K2, e2, q1, q2, q3, q4⟩ := ev_addLine (σ := fun k => S.2 24 (40 * P + k)) HH H3.1 p3 cw hT (m := m) (e := e) (n := n) u1 u4 (fun k hk => sgn_bd (hσ k hk)) (by rw [← em]; exact v1) v3 v4 hm (by omega) (nI P)
    obtain ⟨h3, K3, S2, r1, r2, r3, r4, r5, r6, r7, r8⟩ := fin_line (S := S.a 21 (4 * P + 1) 0) q2 (R1.ev q3 EVS.rf) W1 hj p3 cw p4 hl hn
    have s41 : S2.1 41 = nI m := by rw [r8.1]; exact em
    have s23 : S2.2 23 P = nI T := by rw [r8.row 23 (by decide)]; exact eT
    have s24 : ∀ k, k < T → S.2 24 (40 * P + k) = S2.2 24 (40 * P + k) := fun k _ => by rw [r8.row 24 (by decide)]; rfl
    have q5 := e_event_4 (n := n) (by omega) S2 (m := m) s41 hm (x1 := 1) (x2 := nI P) (x3 := nI T) (x4 := 0) (P := P) (fun _ => ⟨rfl, p2, by unfold bd; rw [nI_toInt (by omega)]; omega⟩)
    have q6 := q4 S2 (RKe.eq (K := K) (S := S) H3.2.2.2.2.2.2.2.2.1 rfl rfl rfl r8.1 (r8.row 43 (by decide))) s41 s24
    refine PO_mk (r := 1) (S' := evS S2 m 1 (nI P) (nI T) 0 P) (e' := e2) (ly' := fun p => ly p && !decide (p = P)) rfl rfl rfl H (h1 := h3) ?_ ?_ r3 ((KEEP.tr ⟨rfl, rfl, rfl, rfl⟩ q3.keep).tr r4) (by rw [(EVS.of).2 5 (by decide), r8.row 5 (by decide)]; rfl) ((r6.ev EVF.rf EVS.of).with (q6.eq r5.1 r5.2.1 r5.2.2 rfl rfl)) (r7.ev EVS.of (evS_bd hm) (by rw [evS_42, r8.1]; exact H4.2.1.2.2.2)) (hl_end H5 (by rw [(EVS.of).2 21 (by decide), r8.row 21 (by decide)]))
    · rw [hG, hG2]
      have nn : ¬ (A 7 P = A 8 P ∧ 0 = 1) := by omega
      have w1' : gtin (gtag h2 (A 7 P)) [1, 6] = true := by rw [q2.tag (cT7 p3), ← H1.tag (cT7 p3)]; exact w1
      simp only [f_G_typeInLine, w1, w2, w3, w5, ga1, i1, Option.bind_some, cond_true, if_true, reduceIte, gtag_setI, gref_setI, f1, f3, f5, g99, gt0', gint_setI, nn, if_false, k0, q1, w1', r1]
    · show f_M_type n S _ _ = _
      rw [hM]
      simp only [f_M_type_B33, y4, y5, y6, x4, x5, x6, d0, d1, z0, cond_true, if_true, if_false, reduceIte, r2, Option.bind_some, bP, iP, s23, q5]
  by_cases c8 : z2 = 8
  · subst c8
    by_cases cT : T = 0
    · subst cT
      have le0 : nI 0 ≤ (0 : Int32) := by decide
      refine PO_sm (r := 0) rfl rfl rfl H ?_ ?_
      · rw [hG, hG2]
        simp only [f_G_typeInLine, show ¬ (8 : Int32) = 10 from by decide, w1, w3, w6, Option.bind_some, cond_true, if_true, if_false, reduceIte, gtl, gtl', f_Line_removeLast, i92, le0]
      · show f_M_type n S _ _ = _
        rw [hM]
        have e9 : nI 0 - 0 = S.2 23 P := by rw [eT]; rfl
        simp only [f_M_type_B33, y4, y5, y6, x4, x5, x6, d0, d1, show ¬ (8 : Int32) = 10 from by decide, cond_true, if_true, if_false, reduceIte, bP, iP, eT, le0, e9, MS.a_self]
        rw [← eT, MS.a_self]
    · have le0 : ¬ nI T ≤ (0 : Int32) := nI_ge (a := 0) (b := T) (by omega) (by omega)
      have e9 : nI T - 1 = nI (T - 1) := pk_sub (a := T) (b := 1) (by omega)
      refine PO_mk (r := 0) (S' := S.a 23 P (nI (T - 1))) (e' := e) (ly' := ly) rfl rfl rfl H (h1 := gsetI h (A 9 P) 2 (nI (T - 1))) ?_ ?_ (H1.i t9 2 _) ⟨rfl, rfl, rfl, rfl⟩ rfl ⟨H3.1, H3.2.1, H3.2.2.1, H3.2.2.2.1, H3.2.2.2.2.1, fun p hp hw' => ?_, H3.2.2.2.2.2.2⟩ ⟨H4.1, ⟨fun p hp => ?_, H4.2.1.2⟩, ⟨H4.2.2.1.1, fun p k hp hk => ?_, H4.2.2.1.2.2⟩, H4.2.2.2.1, H4.2.2.2.2.1.set (pnN_le p3).2 (by decide), H4.2.2.2.2.2⟩ H5
      · rw [hG, hG2]
        simp only [f_G_typeInLine, show ¬ (8 : Int32) = 10 from by decide, w1, w3, w6, Option.bind_some, cond_true, if_true, if_false, reduceIte, gtl, gtl', f_Line_removeLast, i92, le0, e9]
      · show f_M_type n S _ _ = _
        rw [hM]
        simp only [f_M_type_B33, y4, y5, y6, x4, x5, x6, d0, d1, show ¬ (8 : Int32) = 10 from by decide, cond_true, if_true, if_false, reduceIte, bP, iP, eT, le0, e9]
      · obtain ⟨s1, s2⟩ := H3.2.2.2.2.2.1 p hp hw'
        by_cases e0 : p = P
        · subst e0
          refine ⟨?_, fun _ => ⟨?_, fun k hk => ?_⟩⟩
          · rw [KS.i_1, if_pos ⟨rfl, rfl, rfl⟩, hl, cond_true, MS.a_2, if_pos ⟨rfl, rfl⟩]
          · rw [KS.i_1, if_neg (by omega)]; exact u3
          · rw [MS.a_2, if_pos ⟨rfl, rfl⟩, ixn (by omega)] at hk
            exact u4 k (by omega)
        · refine ⟨?_, fun q => ?_⟩
          · rw [KS.i_1, if_neg (by omega), MS.a_2, if_neg (by omega)]; exact s1
          · obtain ⟨s3, s4⟩ := s2 q
            refine ⟨s3, fun k hk => s4 k ?_⟩
            rw [MS.a_2, if_neg (by omega)] at hk
            exact hk
      · obtain ⟨g1, g2, g3, g4, g5, g6, g7, g8, g9⟩ := (H4.2.1.mono (Nat.le_succ j)).1 p hp
        refine ⟨g1, g2, g3, g4, g5, ?_, g7, ?_, g9⟩
        · rw [MS.a_2]; split
          · unfold bd; rw [nI_toInt (by omega)]; omega
          · exact g6
        · rw [MS.a_2]; split
          · rename_i e0
            rw [MS.a_2, if_neg (by omega), e0.2, eM, nI_toInt (by omega), nI_toInt (by omega)]; omega
          · exact g8
      · rw [MS.a_2] at hk
        by_cases e0 : p = P
        · rw [if_pos ⟨rfl, e0⟩, ixn (by omega)] at hk
          exact H4.2.2.1.2.1 p k hp (by rw [e0, eT, ixn (by omega)]; omega)
        · rw [if_neg (by omega)] at hk
          exact H4.2.2.1.2.1 p k hp hk
  · have hc := hC c8 c10
    by_cases cL : M ≤ T
    · have le1 : nI M ≤ nI T := nI_le cL (by omega)
      refine PO_sm (r := 0) rfl rfl rfl H ?_ ?_
      · rw [hG, hG2]
        simp only [f_G_typeInLine, c10, c8, w1, w3, w6, Option.bind_some, cond_true, if_true, if_false, reduceIte, gtl, gtl', f_Line_append, i92, i91, le1]
      · show f_M_type n S _ _ = _
        rw [hM]
        simp only [f_M_type_B33, y4, y5, y6, x4, x5, x6, d0, d1, c10, c8, cond_true, if_true, if_false, reduceIte, bP, iP, eT, eM, le1]
    · have le1 : ¬ nI M ≤ nI T := nI_ge (by omega) (by omega)
      have le2 : ¬ Int32.ofNat 40 ≤ nI T := nI_ge (a := T) (b := 40) (by omega) (by decide)
      have ga2 : gArr (some (20, 40)) 20 (nI T) = true := gArr_n (by omega) (by decide)
      have e7 : (40 : Int32) * nI P + nI T = nI (40 * P + T) := by rw [show (40 : Int32) = nI 40 from rfl, pk_mul, nI_add]
      have e8 := inn (show 40 * P + T < 2440 by omega) (by decide)
      have e9 := ixn (show 40 * P + T < 2 ^ 31 by omega)
      have iT := ixn (show T < 2 ^ 31 by omega)
      have nn : ¬ A 9 P = A 10 P := H1.ne t9 t10 (by omega)
      refine PO_mk (r := 0) (S' := (S.a 24 (40 * P + T) z2).a 23 P (nI (T + 1))) (e' := e) (ly' := ly) rfl rfl rfl H (h1 := gsetI (gsetI h (A 10 P) T (cellv z2 8 0)) (A 9 P) 2 (nI (T + 1))) ?_ ?_ ((H1.i t10 T _).i t9 2 _) ⟨rfl, rfl, rfl, rfl⟩ rfl ⟨H3.1, H3.2.1, H3.2.2.1, H3.2.2.2.1, H3.2.2.2.2.1, fun p hp hw' => ?_, H3.2.2.2.2.2.2⟩ ⟨H4.1, ⟨fun p hp => ?_, H4.2.1.2⟩, ⟨H4.2.2.1.1, fun p k hp hk => ?_, H4.2.2.1.2.2⟩, H4.2.2.2.1, (H4.2.2.2.2.1.keep (r := 24) (by decide) (by decide)).set (pnN_le p3).2 (by decide), H4.2.2.2.2.2⟩ H5
      · rw [hG, hG2]
        simp only [f_G_typeInLine, c10, c8, w1, w3, w6, w7, w8, Option.bind_some, cond_true, if_true, if_false, reduceIte, gtl, gtl', f_Line_append, i92, i91, le1, blk20 40, le2, e_cell, ga2, gtag_setI, iT, gint_setI, nn, false_and, nI_1]
      · show f_M_type n S _ _ = _
        rw [hM]
        simp only [f_M_type_B33, y4, y5, y6, x4, x5, x6, d0, d1, c10, c8, cond_true, if_true, if_false, reduceIte, bP, iP, eT, eM, le1, e7, e8, e9, MS.a_2, show ¬ 23 = 24 from by decide, false_and, nI_1]
      · obtain ⟨s1, s2⟩ := H3.2.2.2.2.2.1 p hp hw'
        by_cases e0 : p = P
        · subst e0
          refine ⟨?_, fun _ => ⟨?_, fun k hk => ?_⟩⟩
          · rw [KS.i_1, if_pos ⟨rfl, rfl, rfl⟩, hl, cond_true, MS.a_2, if_pos ⟨rfl, rfl⟩]
          · rw [KS.i_1, if_neg (by omega)]; exact u3
          · rw [MS.a_2, if_pos ⟨rfl, rfl⟩, ixn (by omega)] at hk
            rw [KS.i_1, if_neg (by omega), KS.i_1, MS.a_2, if_neg (show ¬ (24 = 23 ∧ 40 * p + k = p) by omega), MS.a_2]
            by_cases e1 : k = T
            · rw [if_pos ⟨rfl, rfl, e1⟩, if_pos ⟨rfl, by omega⟩]
            · rw [if_neg (fun q => e1 q.2.2), if_neg (show ¬ (24 = 24 ∧ 40 * p + k = 40 * p + T) by omega)]
              exact u4 k (by omega)
        · refine ⟨?_, fun q => ?_⟩
          · rw [KS.i_1, if_neg (by omega), MS.a_2, if_neg (by omega)]; exact s1
          · obtain ⟨s3, s4⟩ := s2 q
            refine ⟨by rw [KS.i_1, if_neg (by omega)]; exact s3, fun k hk => ?_⟩
            rw [MS.a_2, if_neg (by omega)] at hk
            have hk : k < ix (S.2 23 p) := hk
            have b23' := (H4.2.1.1 p (by have := (pnN_le hp).2; have := H4.1.1; omega)).2.2.2.2.2.1
            have := i32_ix b23'.1
            have := b23'.2
            rw [KS.i_1, if_neg (by omega), KS.i_1, if_neg (by omega), MS.a_2, if_neg (by omega), MS.a_2, if_neg (by omega)]
            exact s4 k hk
      · obtain ⟨g1, g2, g3, g4, g5, g6, g7, g8, g9⟩ := (H4.2.1.mono (Nat.le_succ j)).1 p hp
        refine ⟨g1, g2, g3, g4, g5, ?_, g7, ?_, g9⟩
        · rw [MS.a_2]; split
          · unfold bd; rw [nI_toInt (by omega)]; omega
          · exact g6
        · rw [MS.a_2]; split
          · rename_i e0
            rw [MS.a_2, if_neg (by omega), MS.a_2, if_neg (by omega), e0.2, eM, nI_toInt (by omega), nI_toInt (by omega)]; omega
          · exact g8
      · rw [MS.a_2] at hk
        rw [MS.a_2, if_neg (by omega), MS.a_2]
        by_cases e0 : p = P
        · rw [if_pos ⟨rfl, e0⟩, ixn (by omega)] at hk
          subst e0
          by_cases e1 : k = T
          · rw [if_pos ⟨rfl, by omega⟩]; exact hc
          · rw [if_neg (by omega)]
            exact H4.2.2.1.2.1 p k hp (by rw [eT, ixn (by omega)]; omega)
        · rw [if_neg (by omega)] at hk
          have hk : k < ix (S.2 23 p) := hk
          have b23' := (H4.2.1.1 p hp).2.2.2.2.2.1
          have := i32_ix b23'.1
          have := b23'.2
          rw [if_neg (by omega)]
          exact H4.2.2.1.2.1 p k hp hk
