theorem p_pair {n b L ax am j : Nat} {h : gHp} (hI : Iv b L ax am j h) (z1 z2 : Int32) : PO_pair n (Iv b L ax am (j + 1)) b L ax am h z1 z2 := by
  obtain ⟨A, ρ, K, S, a, e, ly, rfl, rfl, rfl, H⟩ := hI
  obtain ⟨H1, H2, H3, H4, H5⟩ := id H
  obtain ⟨f1, f2, f3, f4, f5⟩ := top_facts H1 H3.1
  have hf := e_find H1 H3.1 H3.2.1 n z1
  by_cases c1 : opB S z1 = true
  case neg => exact PO_sm (r := -1) rfl rfl rfl H (by simp [f_G_pair, f1, f2, f4, g99, g77, hf, c1, gInst]) (by show f_M_pair n S _ _ = _; simp [f_M_pair, e_isPane, c1, b32])
  obtain ⟨P, rfl, p1, p2, p3, p4⟩ := opB_nI H4.1 c1
  have iP := ixn (show P < 2 ^ 31 by omega)
  have bP : inB (nI P) 61 = true := inn (by omega) (by decide)
  have t7 : cT L a (S.2 5) 7 P = some (cTag (S.2 5 P)) := cT7 p3
  have k5 := H4.1.2.2.2.2.2 P p3
  obtain ⟨n1, n2, n3, n4, n5⟩ := no_inst H1 H4.1 p3
  by_cases c3 : S.2 5 P = 4
  case neg => exact PO_sm (r := -1) rfl rfl rfl H (by simp [f_G_pair, f1, f2, f4, g99, g77, hf, c1, iP, n4, c3, b32]) (by show f_M_pair n S _ _ = _; simp [f_M_pair, e_isPane, c1, b32, bP, iP, c3])
  have n4' : gInst h (some (A 7 P)) "GlkPanes$Pair" = some 1 := by rw [n4, c3]; rfl
  have n6 := cas_of n4'
  have tg : gtag h (A 7 P) = some (3, 16) := by rw [H1.tag t7, c3]; rfl
  have g1 : gtin (some (3, 16)) [3] = true := rfl
  obtain ⟨q1, q2⟩ := (H3.2.2.2.1 P p3).1 c3
  have k11 : gint h (A 7 P) 11 = S.2 9 P := by rw [H1.int t7, q1]
  have k12 : gint h (A 7 P) 12 = S.2 10 P := by rw [H1.int t7, q2]
  obtain ⟨q3, q4, q5⟩ := (H3.2.2.2.2.2.2.2.2.2 P p3 p4).2 c3
  have r13 : gref h (A 7 P) 13 = aM A (nz (S.2 11 P)) := by rw [H1.ref t7, q3]
  have r14 : gref h (A 7 P) 14 = aM A (nz (S.2 7 P)) := by rw [H1.ref t7, q4]
  have r15 : gref h (A 7 P) 15 = aM A (nz (S.2 8 P)) := by rw [H1.ref t7, q5]
  have m13 := e_numberOf H1 H3.2.2.1 H4.1.1 n (v := S.2 11 P) (by rcases (H4.2.2.2.2.2.1 P p2 p4 c3).2.2.2 with c | ⟨q, c1, c2, -⟩; exact Or.inl c; exact Or.inr ⟨q, c1, c2⟩) (-2)
  obtain ⟨f, s, s1, s2, s3, s4, s5, s6, s7, s8, s9, s10⟩ := sides_ok H4.1 H4.2.2.2.2.2.2.1 p2 p4 c3
  have z7 : ¬ S.2 7 P = 0 := by rw [s1, nI_z s7]; have := (pnN_le s3).1; omega
  have z8 : ¬ S.2 8 P = 0 := by rw [s2, nI_z s8]; have := (pnN_le s4).1; omega
  have m14 := e_numberOf H1 H3.2.2.1 H4.1.1 n (v := S.2 7 P) (Or.inr ⟨f, s1, s3⟩) (-2)
  have m15 := e_numberOf H1 H3.2.2.1 H4.1.1 n (v := S.2 8 P) (Or.inr ⟨s, s2, s4⟩) (-2)
  by_cases c2 : rgB z2 0 4 = true
  case neg =>
    refine PO_sm (r := -1) rfl rfl rfl H ?_ (by show f_M_pair n S _ _ = _; simp [f_M_pair, e_isPane, e_in, c1, c2, b32, bP, iP, c3])
    have hne : ∀ x : Int32, rgB x 0 4 = true → ¬ z2 = x := fun x hx q => c2 (q ▸ hx)
    simp [f_G_pair, f1, f2, f4, g99, g77, hf, c1, iP, n4', n6, hne 0 (by decide), hne 1 (by decide), hne 2 (by decide), hne 3 (by decide), hne 4 (by decide)]
  obtain ⟨w, hw, rfl⟩ : ∃ w : Nat, w ≤ 4 ∧ z2 = nI w := nI_of2 (M := 4) (by decide) (rgB_t.mp c2).1 (rgB_t.mp c2).2
  rcases (by omega : w = 0 ∨ w = 1 ∨ w = 2 ∨ w = 3 ∨ w = 4) with rfl | rfl | rfl | rfl | rfl
  · exact PO_sm (r := S.2 9 P) rfl rfl rfl H (by show f_G_pair n h _ _ 0 = _; simp [f_G_pair, f1, f2, f4, g99, g77, hf, c1, iP, tg, n4', n6, g1, k11]) (by show f_M_pair n S _ 0 = _; have c2 : rgB 0 0 4 = true := c2; simp [f_M_pair, e_isPane, e_in, c1, c2, b32, bP, iP, c3])
  · exact PO_sm (r := S.2 10 P) rfl rfl rfl H (by show f_G_pair n h _ _ 1 = _; simp [f_G_pair, f1, f2, f4, g99, g77, hf, c1, iP, tg, n4', n6, g1, k12]) (by show f_M_pair n S _ 1 = _; have c2 : rgB 1 0 4 = true := c2; simp [f_M_pair, e_isPane, e_in, c1, c2, b32, bP, iP, c3])
  · by_cases c4 : S.2 11 P = 0
    · exact PO_sm (r := -2) rfl rfl rfl H (by show f_G_pair n h _ _ 2 = _; rw [if_pos c4] at m13; simp [f_G_pair, f1, f2, f4, g99, g77, hf, c1, iP, tg, n4', n6, g1, r13, m13]) (by show f_M_pair n S _ 2 = _; have c2 : rgB 2 0 4 = true := c2; simp [f_M_pair, e_isPane, e_in, c1, c2, b32, bP, iP, c3, c4])
    · exact PO_sm (r := S.2 11 P) rfl rfl rfl H (by show f_G_pair n h _ _ 2 = _; rw [if_neg c4] at m13; simp [f_G_pair, f1, f2, f4, g99, g77, hf, c1, iP, tg, n4', n6, g1, r13, m13]) (by show f_M_pair n S _ 2 = _; have c2 : rgB 2 0 4 = true := c2; simp [f_M_pair, e_isPane, e_in, c1, c2, b32, bP, iP, c3, c4])
  · exact PO_sm (r := S.2 7 P) rfl rfl rfl H (by show f_G_pair n h _ _ 3 = _; rw [if_neg z7] at m14; simp [f_G_pair, f1, f2, f4, g99, g77, hf, c1, iP, tg, n4', n6, g1, r14, m14]) (by show f_M_pair n S _ 3 = _; have c2 : rgB 3 0 4 = true := c2; simp [f_M_pair, e_isPane, e_in, c1, c2, b32, bP, iP, c3])
  · exact PO_sm (r := S.2 8 P) rfl rfl rfl H (by show f_G_pair n h _ _ 4 = _; rw [if_neg z8] at m15; simp [f_G_pair, f1, f2, f4, g99, g77, hf, c1, iP, tg, n4', n6, g1, r15, m15]) (by show f_M_pair n S _ 4 = _; have c2 : rgB 4 0 4 = true := c2; simp [f_M_pair, e_isPane, e_in, c1, c2, b32, bP, iP, c3])

theorem p_event {n b L ax am j : Nat} {h : gHp} (hI : Iv b L ax am j h) (z1 : Int32) : PO_event n (Iv b L ax am (j + 1)) b L ax am h z1 := by
  obtain ⟨A, ρ, K, S, a, e, ly, rfl, rfl, rfl, H⟩ := hI
  obtain ⟨H1, H2, H3, H4, H5⟩ := id H
  obtain ⟨f1, f2, f3, f4, f5⟩ := top_facts H1 H3.1
  have t5 : gtag h (A 5 0) = some (20, 44) := H1.tag (c := 5) (p := 0) rfl
  have r1 : gref h (A 2 0) 1 = some (A 5 0) := by rw [H1.ref (c := 2) (p := 0) (t := (0, 5)) rfl, H3.1.2.2.2.2.1]; rfl
  have k2 : gint h (A 2 0) 2 = S.1 42 := by rw [H1.int (c := 2) (p := 0) (t := (0, 5)) rfl, H3.2.2.2.2.2.2.2.2.1.2.1]
  have g0 : gtis (some (0, 5)) 0 = true := rfl
  have g0' : gtin (some (0, 5)) [0] = true := rfl
  have gb : (Nat.ble 20 20 && Nat.ble 20 24) = true := rfl
  by_cases c2 : rgB z1 0 43 = true
  · obtain ⟨w, hw, rfl⟩ : ∃ w : Nat, w ≤ 43 ∧ z1 = nI w := nI_of2 (M := 43) (by decide) (rgB_t.mp c2).1 (rgB_t.mp c2).2
    have e1 : nI w < Int32.ofNat 44 := nI_lt (a := w) (b := 44) (by omega) (by decide)
    have e2 : (880 : Int32) + nI w = nI (880 + w) := nI_add 880 w
    have e3 : ix (nI (880 + w)) = 880 + w := ixn (by omega)
    have e4 : inB (nI (880 + w)) 924 = true := inn (by omega) (by decide)
    have e5 : gArr (some (20, 44)) 20 (nI w) = true := by show (Nat.beq 20 20 && inB (nI w) 44) = true; rw [inn (by omega) (by decide)]; rfl
    have e6 : gint h (A 5 0) w = S.2 43 (880 + w) := by rw [H1.int (c := 5) (p := 0) (t := (20, 44)) rfl, H3.2.2.2.2.2.2.2.2.1.2.2.2.2.2 w (by omega)]
    have e7 := ixn (show w < 2 ^ 31 by omega)
    have e8 := nI_pos (show w < 2 ^ 31 by omega)
    by_cases c3 : S.1 42 = 0
    · exact PO_sm (r := -2) rfl rfl rfl H (by simp only [f_G_event, f_Events_told, f1, f3, f5, g99, g0, g0', r1, t5, gb, e8, e1, k2, c3, cond_true, Option.bind_some, if_true, if_false, reduceIte]) (by show f_M_event_1 n S _ = _; simp [f_M_event_1, e_in, c2, b32, c3])
    · exact PO_sm (r := S.2 43 (880 + w)) rfl rfl rfl H (by simp only [f_G_event, f_Events_told, f1, f3, f5, g99, g0, g0', r1, t5, gb, e8, e1, k2, c3, cond_true, Option.bind_some, if_true, if_false, reduceIte, e5, e6, e7]) (by show f_M_event_1 n S _ = _; simp [f_M_event_1, e_in, c2, b32, c3, e2, e3, e4])
  · refine PO_sm (r := -1) rfl rfl rfl H ?_ (by show f_M_event_1 n S _ = _; simp [f_M_event_1, e_in, c2, b32])
    rcases rgB_f c2 with c | ⟨c, c'⟩
    · simp only [f_G_event, f_Events_told, f1, f3, f5, g99, g0, c, cond_true, Option.bind_some, if_true, reduceIte]
    · have e1 : ¬ z1 < Int32.ofNat 44 := fun q => c' (by rw [i32_lt] at q; rw [i32_le]; have : (Int32.ofNat 44).toInt = 44 := by decide
                                                         have : (43 : Int32).toInt = 43 := by decide
                                                         omega)
      simp only [f_G_event, f_Events_told, f1, f3, f5, g99, g0, g0', r1, t5, gb, c, e1, cond_true, Option.bind_some, if_false, reduceIte]

theorem e_has {h : gHp} {A : Nat → Nat → Nat} {ρ : Nat → Nat × Nat} {L a P : Nat} {K : KS} {S : MS} {kd : Nat → Int32} (H : Hrep h A ρ (cT L a kd) K) (hP : RKp K S a) (hp : pnN a P = true) (n : Nat) (x y : Int32) : f_Pane_has n h (A 7 P) x y = some (b32 (!decide (x < 0) && !decide (S.2 14 P ≤ x) && !decide (y < 0) && !decide (S.2 15 P ≤ y)), h) := by
  obtain ⟨-, -, -, -, k5, k6, -⟩ := pane_ints H hP hp
  have tg := H.tag (cT7 hp)
  unfold f_Pane_has
  by_cases d1 : x < 0 <;> by_cases d2 : S.2 14 P ≤ x <;> by_cases d3 : y < 0 <;> by_cases d4 : S.2 15 P ≤ y <;> simp [d1, d2, d3, d4, tg, cTag_pane, k5, k6, b32]
theorem e_isCell (n : Nat) (S : MS) {P : Nat} (hP : P ≤ 60) (x y : Int32) : f_M_isCell n S (nI P) x y = some (b32 (!decide (S.2 14 P ≤ x) && !decide (S.2 15 P ≤ y)), S) := by
  have iP := ixn (show P < 2 ^ 31 by omega)
  have bP : inB (nI P) 61 = true := inn (by omega) (by decide)
  unfold f_M_isCell
  by_cases d2 : S.2 14 P ≤ x <;> by_cases d4 : S.2 15 P ≤ y <;> simp [d2, d4, iP, bP, b32]

theorem p_cursor {n b L ax am j : Nat} {h : gHp} (hI : Iv b L ax am j h) (z1 z2 z3 : Int32) : PO_cursor n (Iv b L ax am (j + 1)) b L ax am h z1 z2 z3 := by
  obtain ⟨A, ρ, K, S, a, e, ly, rfl, rfl, rfl, H⟩ := hI
  obtain ⟨H1, H2, H3, H4, H5⟩ := id H
  obtain ⟨f1, f2, f3, f4, f5⟩ := top_facts H1 H3.1
  have hf := e_find H1 H3.1 H3.2.1 n z1
  by_cases c1 : opB S z1 = true
  case neg => exact PO_sm (r := -1) rfl rfl rfl H (by simp [f_G_cursor, f1, f2, f4, g99, g77, hf, c1]) (by show f_M_cursor n S _ _ _ = _; simp [f_M_cursor, e_isPane, c1, b32])
  obtain ⟨P, rfl, p1, p2, p3, p4⟩ := opB_nI H4.1 c1
  have iP := ixn (show P < 2 ^ 31 by omega)
  have bP : inB (nI P) 61 = true := inn (by omega) (by decide)
  have t7 : cT L a (S.2 5) 7 P = some (cTag (S.2 5 P)) := cT7 p3
  have k5 := H4.1.2.2.2.2.2 P p3
  by_cases c2 : rgB z2 0 99 = true
  case neg => exact PO_sm (r := -1) rfl rfl rfl H (by rcases rgB_f c2 with c2' | ⟨c2', c2''⟩; simp [f_G_cursor, f1, f2, f4, g99, g77, hf, c1, c2']; simp [f_G_cursor, f1, f2, f4, g99, g77, hf, c1, c2', Int32.not_le.mp c2'']) (by show f_M_cursor n S _ _ _ = _; simp [f_M_cursor, e_isPane, e_in, c1, c2, b32])
  have c2' := rgB_t.mp c2
  have c2n : ¬ (99 : Int32) < z2 := Int32.not_lt.mpr c2'.2
  by_cases c3 : rgB z3 0 99 = true
  case neg => exact PO_sm (r := -1) rfl rfl rfl H (by rcases rgB_f c3 with c3' | c3' <;> simp [f_G_cursor, f1, f2, f4, g99, g77, hf, c1, c2'.1, c2n, c3']) (by show f_M_cursor n S _ _ _ = _; simp [f_M_cursor, e_isPane, e_in, c1, c2, c3, b32])
  have c3' := rgB_t.mp c3
  obtain ⟨n1, n2, n3, n4, n5⟩ := no_inst H1 H4.1 p3
  by_cases c4 : S.2 5 P = 2
  case neg => exact PO_sm (r := -3) rfl rfl rfl H (by simp [f_G_cursor, f1, f2, f4, g99, g77, hf, c1, iP, c2'.1, c2n, c3'.1, c3'.2, n1, c4, b32]) (by show f_M_cursor n S _ _ _ = _; simp [f_M_cursor, e_isPane, e_in, c1, c2, c3, b32, bP, iP, c4])
  have n1' : gInst h (some (A 7 P)) "GlkPanes$Grid" = some 1 := by rw [n1, c4]; rfl
  have n6 := cas_of n1'
  have cw : wrK (S.2 5 P) = true := by rw [c4]; rfl
  obtain ⟨w1, w2, w3, w4, w5, w6, w7, w8⟩ := wr_facts H1 H3.1 p3 cw
  have tg : gtag h (A 7 P) = some (1, 16) := by rw [H1.tag t7, c4]; rfl
  have g1 : gtin (some (1, 16)) [1] = true := rfl
  have g1' : gtis (some (1, 16)) 1 = true := rfl
  have ga : gArr (some (21, 4)) 21 1 = true := gA4 (k := 1) (by decide)
  have k8 : gint h (A 8 P) (ix 1) = S.2 21 (4 * P + 1) := by rw [H1.int (cT8 p3 cw)]; exact H3.2.2.2.2.1 P p3 cw 1 (by decide)
  have x4 : (4 : Int32) * nI P + 1 = nI (4 * P + 1) := (ix4 p2 (k := 1) (by decide)).1
  have x5 := (ix4 p2 (k := 1) (by decide)).2.1
  have x6 := (ix4 p2 (k := 1) (by decide)).2.2
  by_cases c5 : S.2 21 (4 * P + 1) = 0
  case neg => exact PO_sm (r := -3) rfl rfl rfl H (by simp [f_G_cursor, f1, f2, f4, g99, g77, hf, c1, iP, tg, c2'.1, c2n, c3'.1, c3'.2, n1', n6, g1, w2, w5, ga, k8, c5]) (by show f_M_cursor n S _ _ _ = _; simp [f_M_cursor, e_isPane, e_in, c1, c2, c3, b32, bP, iP, c4, x4, x5, x6, c5])
  have HH := (H1.i t7 14 z2).i t7 15 z3
  have R' : RKp ((K.i 7 P 14 z2).i 7 P 15 z3) S a := H3.2.2.1
  have hh := e_has HH R' p3 n z2 z3
  have hc := e_isCell n ((S.a 34 P z2).a 35 P z3) p2 z2 z3
  have hc1 : ((S.a 34 P z2).a 35 P z3).2 14 P = S.2 14 P := rfl
  have hc2 : ((S.a 34 P z2).a 35 P z3).2 15 P = S.2 15 P := rfl
  rw [hc1, hc2] at hc
  simp only [c2'.1, c3'.1, decide_false, Bool.not_false, Bool.true_and, Bool.and_true] at hh
  have hb2 := rgB_bd (n := 99) (N := 99) (by decide) c2
  have hb3 := rgB_bd (n := 99) (N := 99) (by decide) c3
  refine PO_mk (r := b32 (!decide (S.2 14 P ≤ z2) && !decide (S.2 15 P ≤ z3))) (S' := (S.a 34 P z2).a 35 P z3) (e' := e) (ly' := ly) rfl rfl rfl H ?_ ?_ HH ⟨rfl, rfl, rfl, rfl⟩ rfl ⟨H3.1, H3.2.1, H3.2.2.1, fun p hp => ?_, H3.2.2.2.2⟩ ⟨H4.1, ⟨fun p hp => ?_, H4.2.1.2⟩, H4.2.2.1, H4.2.2.2.1, (H4.2.2.2.2.1.set (pnN_le p3).2 (by decide)).set (pnN_le p3).2 (by decide), H4.2.2.2.2.2⟩ H5
  · simp only [f_G_cursor, f1, f2, f4, g99, g77, hf, c1, iP, tg, c2'.1, c2n, c3'.1, c3'.2, n1', n6, g1, g1', w2, w5, ga, k8, c5, gtag_setI, hh, cond_true, Option.bind_some, if_true, if_false, reduceIte, reduceCtorEq]
    cases (!decide (S.2 14 P ≤ z2) && !decide (S.2 15 P ≤ z3)) <;> simp [b32]
  · show f_M_cursor n S _ _ _ = _
    simp only [f_M_cursor, e_isPane, e_in, c1, c2, c3, b32_t, bP, iP, c4, x4, x5, x6, c5, hc, cond_true, Option.bind_some, if_true, if_false, reduceIte, show ¬ ((1 : Int32) = 0) from by decide]
    cases (!decide (S.2 14 P ≤ z2) && !decide (S.2 15 P ≤ z3)) <;> simp [b32]
  · obtain ⟨u4, u3, u2, u1⟩ := H3.2.2.2.1 p hp
    refine ⟨u4, u3, fun q => ⟨upd1 (f := fun p => K.1 7 p 14) row_eq (u2 q).1, upd1 (f := fun p => K.1 7 p 15) row_eq (u2 q).2⟩, fun q => ?_⟩
    rw [KS.i_1, if_neg (by omega), KS.i_1, if_neg]
    · exact u1 q
    · rintro ⟨-, rfl, -⟩
      have q : S.2 5 p = 1 := q
      rw [c4] at q
      revert q
      decide
  · obtain ⟨w1, w2, w3, w4, w5⟩ := (H4.2.1.mono (Nat.le_succ j)).1 p hp
    refine ⟨w1, w2, ?_, ?_, w5⟩
    · show bd (if 34 = 34 ∧ p = P then z2 else S.2 34 p) 99
      split
      · exact hb2
      · exact w3
    · show bd (if 35 = 35 ∧ p = P then z3 else S.2 35 p) (99 + (j + 1))
      split
      · exact ⟨hb3.1, by have := hb3.2; omega⟩
      · exact w4
