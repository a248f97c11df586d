theorem RKe.eq {K K' : KS} {S S' : MS} {e : Nat} (H : RKe K S e) (h2 : K'.1 2 = K.1 2) (h5 : K'.1 5 = K.1 5) (h6 : K'.1 6 = K.1 6) (s1 : S'.1 = S.1) (s2 : S'.2 43 = S.2 43) : RKe K' S' e := by
  unfold RKe at H ⊢
  rw [h2, h5, h6, s1, s2]
  exact H
theorem e_isAsk (n : Nat) (h : gHp) (z : Int32) : f_G_isAsk n h z = some (b32 (rgB z 0 3), h) := by
  unfold f_G_isAsk rgB
  simp only [i32_lt, i32_le, show (0 : Int32).toInt = 0 from by decide, show (3 : Int32).toInt = 3 from by decide, show (4 : Int32).toInt = 4 from by decide]
  by_cases c1 : z.toInt < 0
  · rw [if_pos c1, decide_eq_false (show ¬ 0 ≤ z.toInt by omega)]; rfl
  · rw [if_neg c1]
    by_cases c2 : 4 ≤ z.toInt
    · rw [if_pos c2, decide_eq_false (show ¬ z.toInt ≤ 3 by omega), Bool.and_false]; rfl
    · rw [if_neg c2, decide_eq_true (show 0 ≤ z.toInt by omega), decide_eq_true (show z.toInt ≤ 3 by omega)]; rfl
theorem e_isPlain (n : Nat) (h : gHp) (z : Int32) : f_G_isPlainSign n h z = some (b32 (rgB z 32 126), h) := by
  unfold f_G_isPlainSign rgB
  simp only [i32_lt, show (32 : Int32).toInt = 32 from by decide, show (126 : Int32).toInt = 126 from by decide]
  by_cases c1 : z.toInt < 32
  · rw [if_pos c1, decide_eq_false (show ¬ 32 ≤ z.toInt by omega)]; rfl
  · rw [if_neg c1]
    by_cases c2 : 126 < z.toInt
    · rw [if_pos c2, decide_eq_false (show ¬ z.toInt ≤ 126 by omega), Bool.and_false]; rfl
    · rw [if_neg c2, decide_eq_true (show 32 ≤ z.toInt by omega), decide_eq_true (show z.toInt ≤ 126 by omega)]; rfl
section ASK
variable {h : gHp} {A : Nat → Nat → Nat} {ρ : Nat → Nat × Nat} {L a P : Nat} {K : KS} {S : MS}
theorem ask_ints (H : Hrep h A ρ (cT L a (S.2 5)) K) (hA : RKa K S a) (hp : pnN a P = true) (hw : wrK (S.2 5 P) = true) {k : Nat} (hk : k < 4) : gint h (A 8 P) k = S.2 21 (4 * P + k) := by
  rw [H.int (cT8 hp hw)]; exact hA P hp hw k hk
theorem ask_can (H : Hrep h A ρ (cT L a (S.2 5)) K) (hS : RKs K a (S.2 5)) (hA : RKa K S a) (hR : RKp K S a) (hp : pnN a P = true) (hP : P ≤ 60) (hw : wrK (S.2 5 P) = true) (n : Nat) {k : Nat} (hk : k < 4) (z3 : Int32) : (f_Writing_canBeAsked n h (A 7 P) (nI k) = some (1, h) ∧ f_M_ask_B34 n S (nI P) (nI k) z3 = f_M_ask_B107 n S (nI P) (nI k) z3) ∨ (f_Writing_canBeAsked n h (A 7 P) (nI k) = some (0, h) ∧ f_M_ask_B34 n S (nI P) (nI k) z3 = some (-3, S)) := by
  have iP := ixn (show P < 2 ^ 31 by omega)
  have bP : inB (nI P) 61 = true := inn (by omega) (by decide)
  obtain ⟨w1, w2, w3, w4, w5, w6, w7, w8⟩ := wr_facts H hS hp hw
  obtain ⟨-, k1, -⟩ := pane_ints H hR hp
  have a0 : gint h (A 8 P) (ix 0) = S.2 21 (4 * P) := ask_ints H hA hp hw (k := 0) (by omega)
  have a1 : gint h (A 8 P) (ix 1) = S.2 21 (4 * P + 1) := ask_ints H hA hp hw (k := 1) (by omega)
  have a2 : gint h (A 8 P) (ix 2) = S.2 21 (4 * P + 2) := ask_ints H hA hp hw (k := 2) (by omega)
  have a3 : gint h (A 8 P) (ix 3) = S.2 21 (4 * P + 3) := ask_ints H hA hp hw (k := 3) (by omega)
  have g0 : gArr (some (21, 4)) 21 0 = true := gA4 (k := 0) (by omega)
  have g1 : gArr (some (21, 4)) 21 1 = true := gA4 (k := 1) (by omega)
  have g2 : gArr (some (21, 4)) 21 2 = true := gA4 (k := 2) (by omega)
  have g3 : gArr (some (21, 4)) 21 3 = true := gA4 (k := 3) (by omega)
  have x0 : (4 : Int32) * nI P + 0 = nI (4 * P) := (ix4 hP (k := 0) (by omega)).1
  have x1 : (4 : Int32) * nI P + 1 = nI (4 * P + 1) := (ix4 hP (k := 1) (by omega)).1
  have x2 : (4 : Int32) * nI P + 2 = nI (4 * P + 2) := (ix4 hP (k := 2) (by omega)).1
  have x3 : (4 : Int32) * nI P + 3 = nI (4 * P + 3) := (ix4 hP (k := 3) (by omega)).1
  have y0 : nI (4 * P + 1) - 0 = nI (4 * P + 1) := pk_sub (a := 4 * P + 1) (b := 0) (by omega)
  have y1 : nI (4 * P + 1) - 1 = nI (4 * P) := pk_sub (a := 4 * P + 1) (b := 1) (by omega)
  have i0 := ixn (show 4 * P < 2 ^ 31 by omega)
  have i1 := ixn (show 4 * P + 1 < 2 ^ 31 by omega)
  have i2 := ixn (show 4 * P + 2 < 2 ^ 31 by omega)
  have i3 := ixn (show 4 * P + 3 < 2 ^ 31 by omega)
  have b0 := inn (show 4 * P < 244 by omega) (by decide)
  have b1 := inn (show 4 * P + 1 < 244 by omega) (by decide)
  have b2 := inn (show 4 * P + 2 < 244 by omega) (by decide)
  have b3 := inn (show 4 * P + 3 < 244 by omega) (by decide)
  rcases (by omega : k = 0 ∨ k = 1 ∨ k = 2 ∨ k = 3) with rfl | rfl | rfl | rfl
  · show (f_Writing_canBeAsked n h (A 7 P) 0 = _ ∧ f_M_ask_B34 n S (nI P) 0 z3 = f_M_ask_B107 n S (nI P) 0 z3) ∨ (f_Writing_canBeAsked n h (A 7 P) 0 = _ ∧ f_M_ask_B34 n S (nI P) 0 z3 = _)
    have d2 : ¬ (2 : Int32) ≤ 0 := by decide
    have d3 : ¬ (3 : Int32) ≤ 0 := by decide
    rcases wr_or hw with hk | hk <;> by_cases c0 : S.2 21 (4 * P) = 0 <;> by_cases c1 : S.2 21 (4 * P + 1) = 0 <;> simp only [f_Writing_canBeAsked, f_Writing_canBeAsked_B24, w1, w2, w5, g0, g1, a0, a1, cond_true, Option.bind_some, c0, c1, if_true, if_false, reduceIte, f_M_ask_B34, f_M_ask_B59, f_M_ask_B64, bP, iP, hk, x0, x1, y0, i0, i1, b0, b1, d2, d3, show ¬ (0 : Int32) = 3 from by decide, show ¬ (1 : Int32) = 0 from by decide, show ¬ (1 : Int32) = 2 from by decide, true_and, and_true, or_true, true_or, and_self]
  · show (f_Writing_canBeAsked n h (A 7 P) 1 = _ ∧ f_M_ask_B34 n S (nI P) 1 z3 = f_M_ask_B107 n S (nI P) 1 z3) ∨ (f_Writing_canBeAsked n h (A 7 P) 1 = _ ∧ f_M_ask_B34 n S (nI P) 1 z3 = _)
    have d2 : ¬ (2 : Int32) ≤ 1 := by decide
    have d3 : ¬ (3 : Int32) ≤ 1 := by decide
    rcases wr_or hw with hk | hk <;> by_cases c0 : S.2 21 (4 * P) = 0 <;> by_cases c1 : S.2 21 (4 * P + 1) = 0 <;> simp only [f_Writing_canBeAsked, f_Writing_canBeAsked_B24, w1, w2, w5, g0, g1, a0, a1, cond_true, Option.bind_some, c0, c1, if_true, if_false, reduceIte, f_M_ask_B34, f_M_ask_B59, f_M_ask_B64, bP, iP, hk, x0, x1, y1, i0, i1, b0, b1, d2, d3, show ¬ (1 : Int32) = 3 from by decide, show ¬ (1 : Int32) = 0 from by decide, show ¬ (1 : Int32) = 2 from by decide, true_and, and_true, or_true, true_or, and_self]
  · show (f_Writing_canBeAsked n h (A 7 P) 2 = _ ∧ f_M_ask_B34 n S (nI P) 2 z3 = f_M_ask_B107 n S (nI P) 2 z3) ∨ (f_Writing_canBeAsked n h (A 7 P) 2 = _ ∧ f_M_ask_B34 n S (nI P) 2 z3 = _)
    have d2 : (2 : Int32) ≤ 2 := by decide
    have d3 : ¬ (3 : Int32) ≤ 2 := by decide
    rcases wr_or hw with hk | hk <;> by_cases c0 : S.2 21 (4 * P) = 0 <;> by_cases c1 : S.2 21 (4 * P + 1) = 0 <;> by_cases c2 : S.2 21 (4 * P + 2) = 0 <;> simp only [f_Writing_canBeAsked, f_Writing_canBeAsked_B24, w1, w2, w5, g0, g1, g2, a0, a1, a2, cond_true, Option.bind_some, c0, c1, c2, if_true, if_false, reduceIte, f_M_ask_B34, f_M_ask_B59, f_M_ask_B64, bP, iP, hk, x2, i2, b2, d2, d3, show ¬ (2 : Int32) = 3 from by decide, show ¬ (2 : Int32) = 0 from by decide, show ¬ (2 : Int32) = 1 from by decide, show ¬ (1 : Int32) = 0 from by decide, show ¬ (1 : Int32) = 2 from by decide, true_and, and_true, or_true, true_or, and_self]
  · show (f_Writing_canBeAsked n h (A 7 P) 3 = _ ∧ f_M_ask_B34 n S (nI P) 3 z3 = f_M_ask_B107 n S (nI P) 3 z3) ∨ (f_Writing_canBeAsked n h (A 7 P) 3 = _ ∧ f_M_ask_B34 n S (nI P) 3 z3 = _)
    have d2 : (2 : Int32) ≤ 3 := by decide
    have d3 : (3 : Int32) ≤ 3 := by decide
    rcases wr_or hw with hk | hk <;> by_cases c0 : S.2 21 (4 * P) = 0 <;> by_cases c1 : S.2 21 (4 * P + 1) = 0 <;> by_cases c2 : S.2 21 (4 * P + 3) = 0 <;> simp only [f_Writing_canBeAsked, f_Writing_canBeAsked_B24, w1, w2, w5, g0, g1, g3, a0, a1, a3, cond_true, Option.bind_some, c0, c1, c2, if_true, if_false, reduceIte, f_M_ask_B34, f_M_ask_B63, f_M_ask_B59, f_M_ask_B64, bP, iP, hk, k1, x3, i3, b3, d2, d3, show ¬ (3 : Int32) = 0 from by decide, show ¬ (3 : Int32) = 1 from by decide, show ¬ (1 : Int32) = 0 from by decide, show ¬ (1 : Int32) = 2 from by decide, show ¬ (2 : Int32) = 1 from by decide, true_and, and_true, or_true, true_or, and_self]
end ASK
theorem hl_set {S : MS} {a P k : Nat} {x : Int32} {ly : Nat → Bool} (H5 : ∀ p, pnN a p = true → (ly p = true ↔ ¬ S.2 21 (4 * p + 1) = 0)) (hk : k < 4) (hk1 : ¬ k = 1) : ∀ p, pnN a p = true → (ly p = true ↔ ¬ (S.a 21 (4 * P + k) x).2 21 (4 * p + 1) = 0) := by
  intro p hp
  rw [MS.a_2, if_neg (by omega)]
  exact H5 p hp
theorem p_ask {n b L ax am j : Nat} {h : gHp} (hI : Iv b L ax am j h) (z1 z2 z3 : Int32) : PO_ask n (Iv b L ax am (j + 1)) b L ax am h z1 z2 z3 := by
  obtain ⟨A, ρ, K, S, a, e, ly, rfl, rfl, rfl, H⟩ := hI
  obtain ⟨H1, H2, H3, H4, H5⟩ := id H
  obtain ⟨f1, f2, f3, f4, f5⟩ := top_facts H1 H3.1
  have hf := e_find H1 H3.1 H3.2.1 n z1
  by_cases c1 : opB S z1 = true
  case neg => exact PO_sm (r := -1) rfl rfl rfl H (by simp [f_G_ask, f1, f2, f4, g99, g77, hf, c1]) (by show f_M_ask n S _ _ _ = _; simp [f_M_ask, e_isPane, c1, b32])
  obtain ⟨P, rfl, p1, p2, p3, p4⟩ := opB_nI H4.1 c1
  have iP := ixn (show P < 2 ^ 31 by omega)
  have bP : inB (nI P) 61 = true := inn (by omega) (by decide)
  have k5 := H4.1.2.2.2.2.2 P p3
  obtain ⟨n1, n2, n3, n4, n5⟩ := no_inst H1 H4.1 p3
  by_cases c2 : rgB z2 0 3 = true
  case neg => exact PO_sm (r := -1) rfl rfl rfl H (by simp [f_G_ask, f1, f2, f4, g99, g77, hf, c1, e_isAsk, c2, b32]) (by show f_M_ask n S _ _ _ = _; simp [f_M_ask, e_isPane, e_in, c1, c2, b32])
  obtain ⟨k, hk, rfl⟩ : ∃ w : Nat, w ≤ 3 ∧ z2 = nI w := nI_of2 (M := 3) (by decide) (rgB_t.mp c2).1 (rgB_t.mp c2).2
  by_cases c3 : k = 1 ∧ ¬ rgB z3 1 40 = true
  · obtain ⟨rfl, c3⟩ := c3
    refine PO_sm (r := -1) rfl rfl rfl H ?_ ?_
    · show f_G_ask n h _ _ 1 _ = _
      have c2 : rgB 1 0 3 = true := c2
      rcases rgB_f c3 with c3' | c3' <;> simp [f_G_ask, f1, f2, f4, g99, g77, hf, c1, e_isAsk, c2, b32, c3']
    · show f_M_ask n S _ 1 _ = _
      have c2 : rgB 1 0 3 = true := c2
      simp [f_M_ask, e_isPane, e_in, c1, c2, c3, b32]
  -- both reach the heart
  have hG : f_G_ask n h (A 0 0) (nI P) (nI k) z3 = f_G_ask_B42 (A 0 0) n h (nI k) z3 (some (A 7 P)) := by
    by_cases q : k = 1
    · subst q
      have c4 : rgB z3 1 40 = true := Classical.byContradiction fun q => c3 ⟨rfl, q⟩
      have c4' := rgB_t.mp c4
      show f_G_ask n h (A 0 0) (nI P) 1 z3 = f_G_ask_B42 (A 0 0) n h 1 z3 (some (A 7 P))
      have c2 : rgB 1 0 3 = true := c2
      simp [f_G_ask, f1, f2, f4, g99, g77, hf, c1, e_isAsk, c2, b32, c4'.1, c4'.2, iP]
    · have q' : ¬ nI k = 1 := by rw [show (1 : Int32) = nI 1 from rfl, nI_eq (by omega) (by omega)]; exact q
      simp [f_G_ask, f1, f2, f4, g99, g77, hf, c1, e_isAsk, c2, b32, q', iP]
  have hM : f_M_ask n S (nI P) (nI k) z3 = f_M_ask_B34 n S (nI P) (nI k) z3 := by
    by_cases q : k = 1
    · subst q
      have c4 : rgB z3 1 40 = true := Classical.byContradiction fun q => c3 ⟨rfl, q⟩
      show f_M_ask n S (nI P) 1 z3 = f_M_ask_B34 n S (nI P) 1 z3
      have c2 : rgB 1 0 3 = true := c2
      simp [f_M_ask, e_isPane, e_in, c1, c2, c4, b32]
    · have q' : ¬ nI k = 1 := by rw [show (1 : Int32) = nI 1 from rfl, nI_eq (by omega) (by omega)]; exact q
      simp [f_M_ask, e_isPane, e_in, c1, c2, q', b32]
  show POg _ _ _ _ _ (f_G_ask n h (A 0 0) (nI P) (nI k) z3) (fun S => f_M_ask n S (nI P) (nI k) z3)
  by_cases cw : wrK (S.2 5 P) = true
  case neg =>
    refine PO_sm (r := -3) rfl rfl rfl H ?_ ?_
    · rw [hG]; simp [f_G_ask_B42, n5, cw, b32]
    · show f_M_ask n S _ _ _ = _
      rw [hM]
      have q1 : ¬ S.2 5 P = 1 := fun q => cw (wr1 q)
      have q2 : ¬ S.2 5 P = 2 := fun q => cw (wr2 q)
      simp [f_M_ask_B34, bP, iP, q1, q2, f_M_ask_B63, f_M_ask_B64]
  obtain ⟨w1, w2, w3, w4, w5, w6, w7, w8⟩ := wr_facts H1 H3.1 p3 cw
  have n5' : gInst h (some (A 7 P)) "GlkPanes$Writing" = some 1 := by rw [n5, cw]; rfl
  have n6 := cas_of n5'
  have t8 := cT8 (L := L) (kd := S.2 5) p3 cw
  have t9 := cT9 (L := L) (kd := S.2 5) p3 cw
  have ga := gA4 (show k < 4 by omega)
  obtain ⟨x4, x5, x6⟩ := ix4 p2 (k := k) (by omega)
  have ik := ixn (show k < 2 ^ 31 by omega)
  rcases ask_can H1 H3.1 H3.2.2.2.2.1 H3.2.2.1 p3 p2 cw n (show k < 4 by omega) z3 with ⟨q1, q2⟩ | ⟨q1, q2⟩
  case inr =>
    refine PO_sm (r := -3) rfl rfl rfl H ?_ ?_
    · rw [hG]; simp [f_G_ask_B42, n5', n6, w1, q1]
    · show f_M_ask n S _ _ _ = _
      rw [hM, q2]
  rw [show (fun S => f_M_ask n S (nI P) (nI k) z3) = fun S => f_M_ask n S (nI P) (nI k) z3 from rfl]
  by_cases q : k = 1
  · subst q
    have c4 : rgB z3 1 40 = true := Classical.byContradiction fun q => c3 ⟨rfl, q⟩
    have hb : bd z3 40 := by
      simp only [rgB, Bool.and_eq_true, decide_eq_true_eq, show (1 : Int32).toInt = 1 from by decide, show (40 : Int32).toInt = 40 from by decide] at c4
      exact ⟨by omega, by omega⟩
    refine PO_mk (r := 1) (S' := ((S.a 21 (4 * P + 1) 1).a 22 P z3).a 23 P 0) (e' := e) (ly' := fun p => ly p || decide (p = P)) rfl rfl rfl H ?_ ?_ (((H1.i t8 1 1).i t9 1 z3).i t9 2 0) ⟨rfl, rfl, rfl, rfl⟩ rfl ⟨H3.1, H3.2.1, H3.2.2.1, H3.2.2.2.1, H3.2.2.2.2.1.set (k := 1) (by omega), fun p hp hw' => ?_, H3.2.2.2.2.2.2⟩ ⟨H4.1, ⟨fun p hp => ?_, H4.2.1.2⟩, ⟨H4.2.2.1.1, fun p k hp hk => ?_, H4.2.2.1.2.2⟩, H4.2.2.2.1.set cw (by omega) (Or.inr rfl), ((H4.2.2.2.2.1.set21 (pnN_le p3).2 (by omega)).set (pnN_le p3).2 (by decide)).set (pnN_le p3).2 (by decide), H4.2.2.2.2.2⟩ (fun p hp => ?_)
    · rw [hG]
      have ga : gArr (some (21, 4)) 21 1 = true := ga
      have q1 : f_Writing_canBeAsked n h (A 7 P) 1 = some (1, h) := q1
      show f_G_ask_B42 (A 0 0) n h 1 z3 (some (A 7 P)) = _
      simp [f_G_ask_B42, n5', n6, w1, w2, w3, w5, w6, q1, ga, gtl, gtl', f_Line_begin, show ix 1 = 1 from rfl, gtag_setI, gref_setI]
    · show f_M_ask n S _ _ _ = _
      rw [hM, q2]
      show f_M_ask_B107 n S (nI P) 1 z3 = _
      have x4 : (4 : Int32) * nI P + 1 = nI (4 * P + 1) := x4
      simp [f_M_ask_B107, x4, x5, x6, bP, iP, show isZ 1 = true from rfl]
    · obtain ⟨u1, u2⟩ := H3.2.2.2.2.2.1 p hp hw'
      by_cases e9 : p = P
      · subst e9
        refine ⟨?_, fun _ => ⟨?_, fun k hk => ?_⟩⟩
        · simp [KS.i_1, MS.a_2]
        · simp [KS.i_1, MS.a_2]
        · simp [MS.a_2, show ix 0 = 0 from rfl] at hk
      · refine ⟨?_, fun q => ?_⟩
        · simpa [KS.i_1, MS.a_2, e9] using u1
        · have q' : ly p = true := by simpa [e9] using q
          simpa [KS.i_1, MS.a_2, e9] using u2 q'
    · obtain ⟨v1, v2, v3, v4, v5, v6, v7, v8, v9⟩ := (H4.2.1.mono (Nat.le_succ j)).1 p hp
      refine ⟨v1, v2, v3, v4, v5, ?_, ?_, ?_, v9⟩
      · rw [MS.a_2]; split
        · decide
        · exact v6
      · rw [MS.a_2, if_neg (by omega), MS.a_2]; split
        · exact hb
        · exact v7
      · by_cases e9 : p = P
        · simpa [MS.a_2, e9] using hb.1
        · simpa [MS.a_2, e9] using v8
    · rw [MS.a_2] at hk
      by_cases e9 : p = P
      · rw [if_pos ⟨rfl, e9⟩] at hk
        exact absurd hk (Nat.not_lt_zero _)
      · rw [if_neg (by omega)] at hk
        exact H4.2.2.1.2.1 p k hp hk
    · show (ly p || decide (p = P)) = true ↔ ¬ (((S.a 21 (4 * P + 1) 1).a 22 P z3).a 23 P 0).2 21 (4 * p + 1) = 0
      rw [MS.a_2, if_neg (by omega), MS.a_2, if_neg (by omega), MS.a_2]
      by_cases e9 : p = P
      · rw [if_pos ⟨rfl, by omega⟩]; simp [e9]
      · rw [if_neg (by omega)]; simp [e9, H5 p hp]
  · have q' : ¬ nI k = 1 := by rw [show (1 : Int32) = nI 1 from rfl, nI_eq (by omega) (by omega)]; exact q
    refine PO_mk (r := 1) (S' := S.a 21 (4 * P + k) 1) (e' := e) (ly' := ly) rfl rfl rfl H ?_ ?_ (H1.i t8 k 1) ⟨rfl, rfl, rfl, rfl⟩ rfl ⟨H3.1, H3.2.1, H3.2.2.1, H3.2.2.2.1, H3.2.2.2.2.1.set (by omega), H3.2.2.2.2.2⟩ ⟨H4.1, H4.2.1.mono (Nat.le_succ j), H4.2.2.1, H4.2.2.2.1.set cw (by omega) (Or.inr rfl), H4.2.2.2.2.1.set21 (pnN_le p3).2 (by omega), H4.2.2.2.2.2⟩ (hl_set H5 (by omega) q)
    · rw [hG]
      simp [f_G_ask_B42, n5', n6, w1, w2, w5, q1, ga, q', ik]
    · show f_M_ask n S _ _ _ = _
      rw [hM, q2]
      simp [f_M_ask_B107, x4, x5, x6, q', show isZ 1 = true from rfl]
