theorem RKe.eq' {K K' : KS} {S S' : MS} {e : Nat} (H : RKe K S e) (h2 : K'.1 2 = K.1 2) (h5 : K'.1 5 = K.1 5) (h6 : K'.1 6 = K.1 6) (s41 : S'.1 41 = S.1 41) (s42 : S'.1 42 = S.1 42) (s2 : S'.2 43 = S.2 43) : RKe K' S' e := by
  unfold RKe at H ⊢
  rw [h2, h5, h6, s41, s42, s2]
  exact H
/-- from what holds always to what is needed before laying out -/
theorem RKgP.of {K : KS} {S : MS} {a j : Nat} (hG : RKg K S a) (W : WF S a j) : RKgP K S a := by
  intro p hp hk
  have hp60 : p ≤ 60 := by have := (pnN_le hp).2; have := W.1.1; omega
  refine ⟨fun _ t ht => ⟨hG p hp hk t ht, W.2.2.1.2.2 p t hp hk ht⟩, fun ho => ?_⟩
  obtain ⟨g1, g2, g3⟩ := W.2.2.2.2.2.2.2.2 p hp60 ho hk
  refine ⟨g1, g2, fun w v s14 s15 hw hv t ht => ⟨fun _ => ⟨hG p hp hk t ht, W.2.2.1.2.2 p t hp hk ht⟩, fun hc => ?_⟩⟩
  have e : 1440 * p + t = 1440 * p + (60 * (t / 60) + t % 60) := by omega
  obtain ⟨x1, x2, x3⟩ := g3 (t % 60) (t / 60) (by omega) (by omega) (by rw [s14, s15, nI_toInt (by omega), nI_toInt (by omega)]; omega)
  rw [← e] at x1 x2 x3
  rw [hG p hp hk t ht, x1, x2, x3, cell_0]
theorem cl_eq (x lo hi : Int32) (h : lo.toInt < hi.toInt) : (if lo < (if hi < x then hi else x) then (if hi < x then hi else x) else lo) = (if x < lo then lo else if hi < x then hi else x) := by
  simp only [i32_lt]
  by_cases c1 : hi.toInt < x.toInt
  · simp only [c1, if_true, reduceIte, h, show ¬ x.toInt < lo.toInt from by omega, if_false]
  · simp only [c1, if_false, reduceIte]
    by_cases c2 : x.toInt < lo.toInt
    · rw [if_pos c2, if_neg (by omega)]
    · rw [if_neg c2]
      by_cases c3 : lo.toInt < x.toInt
      · rw [if_pos c3]
      · rw [if_neg c3]
        exact Int32.toInt_inj.mp (by omega)
theorem cl_bd (x lo hi : Int32) (h : lo.toInt ≤ hi.toInt) : lo.toInt ≤ (if x < lo then lo else if hi < x then hi else x).toInt ∧ (if x < lo then lo else if hi < x then hi else x).toInt ≤ hi.toInt := by
  simp only [i32_lt]
  split
  · omega
  · split <;> omega
def wasS (S : MS) (lo hi : Nat) : MS := S.g 37 (fun q => if lo ≤ q / 4 ∧ q / 4 < hi then S.2 (12 + q % 4) (q / 4) else S.2 37 q)
theorem was_loop {a : Nat} (ha : a ≤ 60) : ∀ (d : Nat) (n : Nat) (S : MS) (i : Nat), i + d = a + 1 → d < n → S.1 2 = nI a → ∃ n', n ≤ n' + d + 1 ∧ f_M_resize_B24 n S (nI i) = (f_M_arrangeAll n' (wasS S i (a + 1))).bind (fun q2 => f_M_resize_B109 n' q2 0 1) := by
  intro d
  induction d with
  | zero =>
    intro n S i h1 h2 s2
    cases n with
    | zero => omega
    | succ n =>
      refine ⟨n, by omega, ?_⟩
      have e : wasS S i (a + 1) = S := by
        unfold wasS
        refine MS.ext (fun _ => rfl) (fun r q => ?_)
        rw [MS.g_2]
        split
        · rename_i e; rw [if_neg (by omega), e]
        · rfl
      rw [f_M_resize_B24, s2, if_pos (nI_lt (by omega) (by omega)), e]
  | succ d ih =>
    intro n S i h1 h2 s2
    cases n with
    | zero => omega
    | succ n =>
      have x0 : (4 : Int32) * nI i = nI (4 * i) := by rw [show (4 : Int32) = nI 4 from rfl, pk_mul]
      have x1 : nI (4 * i) + 1 = nI (4 * i + 1) := nI_add _ 1
      have x2 : nI (4 * i) + 2 = nI (4 * i + 2) := nI_add _ 2
      have x3 : nI (4 * i) + 3 = nI (4 * i + 3) := nI_add _ 3
      rw [f_M_resize_B24, s2, if_neg (nI_nlt (by omega) (by omega))]
      simp only [x0, x1, x2, x3, inn (show i < 61 by omega) (by decide), inn (show 4 * i < 244 by omega) (by decide), inn (show 4 * i + 1 < 244 by omega) (by decide), inn (show 4 * i + 2 < 244 by omega) (by decide), inn (show 4 * i + 3 < 244 by omega) (by decide), ixn (show i < 2 ^ 31 by omega), ixn (show 4 * i < 2 ^ 31 by omega), ixn (show 4 * i + 1 < 2 ^ 31 by omega), ixn (show 4 * i + 2 < 2 ^ 31 by omega), ixn (show 4 * i + 3 < 2 ^ 31 by omega), cond_true, nI_1]
      obtain ⟨n', q1, q2⟩ := ih n ((((S.a 37 (4 * i) (S.2 12 i)).a 37 (4 * i + 1) (S.2 13 i)).a 37 (4 * i + 2) (S.2 14 i)).a 37 (4 * i + 3) (S.2 15 i)) (i + 1) (by omega) (by omega) s2
      refine ⟨n', by omega, ?_⟩
      have e : wasS ((((S.a 37 (4 * i) (S.2 12 i)).a 37 (4 * i + 1) (S.2 13 i)).a 37 (4 * i + 2) (S.2 14 i)).a 37 (4 * i + 3) (S.2 15 i)) (i + 1) (a + 1) = wasS S i (a + 1) := by
        unfold wasS
        refine MS.ext (fun _ => rfl) (fun r q => ?_)
        rw [MS.g_2, MS.g_2]
        by_cases c : r = 37
        · rw [if_pos c, if_pos c]
          by_cases c1 : i + 1 ≤ q / 4 ∧ q / 4 < a + 1
          · rw [if_pos c1, if_pos (show i ≤ q / 4 ∧ q / 4 < a + 1 by omega), MS.a_2, if_neg (by omega), MS.a_2, if_neg (by omega), MS.a_2, if_neg (by omega), MS.a_2, if_neg (by omega)]
          · rw [if_neg c1, MS.a_2, MS.a_2, MS.a_2, MS.a_2]
            by_cases d3 : q = 4 * i + 3
            · rw [if_pos ⟨rfl, d3⟩, if_pos (show i ≤ q / 4 ∧ q / 4 < a + 1 by omega), show 12 + q % 4 = 15 by omega, show q / 4 = i by omega]
            · rw [if_neg (show ¬ (37 = 37 ∧ q = 4 * i + 3) by omega)]
              by_cases d2 : q = 4 * i + 2
              · rw [if_pos ⟨rfl, d2⟩, if_pos (show i ≤ q / 4 ∧ q / 4 < a + 1 by omega), show 12 + q % 4 = 14 by omega, show q / 4 = i by omega]
              · rw [if_neg (show ¬ (37 = 37 ∧ q = 4 * i + 2) by omega)]
                by_cases d1 : q = 4 * i + 1
                · rw [if_pos ⟨rfl, d1⟩, if_pos (show i ≤ q / 4 ∧ q / 4 < a + 1 by omega), show 12 + q % 4 = 13 by omega, show q / 4 = i by omega]
                · rw [if_neg (show ¬ (37 = 37 ∧ q = 4 * i + 1) by omega)]
                  by_cases d0 : q = 4 * i
                  · rw [if_pos ⟨rfl, d0⟩, if_pos (show i ≤ q / 4 ∧ q / 4 < a + 1 by omega), show 12 + q % 4 = 12 by omega, show q / 4 = i by omega]
                  · rw [if_neg (show ¬ (37 = 37 ∧ q = 4 * i) by omega), if_neg (show ¬ (i ≤ q / 4 ∧ q / 4 < a + 1) by omega)]
        · rw [if_neg c, if_neg c, MS.a_2, if_neg (by omega), MS.a_2, if_neg (by omega), MS.a_2, if_neg (by omega), MS.a_2, if_neg (by omega)]
      rw [e] at q2
      rw [← q2]
      simp only [MS.a_2, show ¬ 13 = 37 from by decide, show ¬ 14 = 37 from by decide, show ¬ 15 = 37 from by decide, false_and, if_false, reduceIte]
def sm4 (S : MS) (p : Nat) : Bool := decide (S.2 37 (4 * p) = S.2 12 p) && (decide (S.2 37 (4 * p + 1) = S.2 13 p) && (decide (S.2 37 (4 * p + 2) = S.2 14 p) && decide (S.2 37 (4 * p + 3) = S.2 15 p)))
theorem cnt_loop {S : MS} {a : Nat} (ha : a ≤ 60) (s2 : S.1 2 = nI a) : ∀ (d n c i : Nat), i + d = a + 1 → d < n → ∃ n', n ≤ n' + d + 1 ∧ f_M_resize_B109 n S (nI c) (nI i) = (f_M_event_4 n' S 4 0 (S.1 0) (S.1 1)).bind (fun q2 => some (nI (c + cO (fun p => opN S p && !sm4 S p) i d), q2)) := by
  intro d
  induction d with
  | zero =>
    intro n c i h1 h2
    cases n with
    | zero => omega
    | succ n =>
      refine ⟨n, by omega, ?_⟩
      rw [f_M_resize_B109, if_pos (show S.1 2 < nI i by rw [s2]; exact nI_lt (by omega) (by omega))]
      rfl
  | succ d ih =>
    intro n c i h1 h2
    cases n with
    | zero => omega
    | succ n =>
      have x0 : (4 : Int32) * nI i = nI (4 * i) := by rw [show (4 : Int32) = nI 4 from rfl, pk_mul]
      have x1 : nI (4 * i) + 1 = nI (4 * i + 1) := nI_add _ 1
      have x2 : nI (4 * i) + 2 = nI (4 * i + 2) := nI_add _ 2
      have x3 : nI (4 * i) + 3 = nI (4 * i + 3) := nI_add _ 3
      obtain ⟨n0, u1, u2⟩ := ih n (c + 0) (i + 1) (by omega) (by omega)
      obtain ⟨n1, v1, v2⟩ := ih n (c + 1) (i + 1) (by omega) (by omega)
      have z0 : nI c + 0 = nI (c + 0) := nI_add c 0
      have st : f_M_resize_B109 (n + 1) S (nI c) (nI i) = if (opN S i && !sm4 S i) = true then f_M_resize_B109 n S (nI (c + 1)) (nI (i + 1)) else f_M_resize_B109 n S (nI (c + 0)) (nI (i + 1)) := by
        rw [f_M_resize_B109, if_neg (show ¬ S.1 2 < nI i by rw [s2]; exact nI_nlt (by omega) (by omega))]
        simp only [x0, x1, x2, x3, inn (show i < 61 by omega) (by decide), inn (show 4 * i < 244 by omega) (by decide), inn (show 4 * i + 1 < 244 by omega) (by decide), inn (show 4 * i + 2 < 244 by omega) (by decide), inn (show 4 * i + 3 < 244 by omega) (by decide), ixn (show i < 2 ^ 31 by omega), ixn (show 4 * i < 2 ^ 31 by omega), ixn (show 4 * i + 1 < 2 ^ 31 by omega), ixn (show 4 * i + 2 < 2 ^ 31 by omega), ixn (show 4 * i + 3 < 2 ^ 31 by omega), cond_true, nI_1, z0, opN, sm4, show ¬ (1 : Int32) = 0 from by decide, if_false, if_true, reduceIte]
        by_cases a0 : S.2 4 i = 0 <;> by_cases a1 : S.2 37 (4 * i) = S.2 12 i <;> by_cases a2 : S.2 37 (4 * i + 1) = S.2 13 i <;> by_cases a3 : S.2 37 (4 * i + 2) = S.2 14 i <;> by_cases a4 : S.2 37 (4 * i + 3) = S.2 15 i <;> simp [a0, a1, a2, a3, a4]
      rw [st]
      by_cases c1 : (opN S i && !sm4 S i) = true
      · refine ⟨n1, by omega, ?_⟩
        rw [if_pos c1, v2]
        simp [cO, c1, Nat.add_assoc]
      · refine ⟨n0, by omega, ?_⟩
        rw [if_neg c1, u2]
        rw [Bool.not_eq_true] at c1
        simp [cO, c1]
theorem p_resize {n b L ax am j : Nat} {h : gHp} (hI : Iv b L ax am j h) (hn : 6000 ≤ n) (z1 z2 : Int32) : PO_resize n (Iv b L ax am (j + 1)) b L ax am h z1 z2 := by
  obtain ⟨A, ρ, K, S, a, e, ly, rfl, rfl, rfl, H⟩ := hI
  obtain ⟨H1, H2, H3, H4, H5⟩ := id H
  obtain ⟨f1, f2, f3, f4, f5⟩ := top_facts H1 H3.1
  obtain ⟨w, hw⟩ : ∃ w, w = (if z1 < 4 then (4 : Int32) else if 60 < z1 then 60 else z1) := ⟨_, rfl⟩
  obtain ⟨v, hv⟩ : ∃ v, v = (if z2 < 2 then (2 : Int32) else if 24 < z2 then 24 else z2) := ⟨_, rfl⟩
  have bw := cl_bd z1 4 60 (by decide)
  have bv := cl_bd z2 2 24 (by decide)
  rw [← hw, show (4 : Int32).toInt = 4 by decide, show (60 : Int32).toInt = 60 by decide] at bw
  rw [← hv, show (2 : Int32).toInt = 2 by decide, show (24 : Int32).toInt = 24 by decide] at bv
  have cw := cl_eq z1 4 60 (by decide)
  have cv := cl_eq z2 2 24 (by decide)
  rw [← hw] at cw
  rw [← hv] at cv
  have t1 : cT L a (S.2 5) 1 0 = some (7, 5) := rfl
  have hs : f_Tree_setScreen n h (A 1 0) z1 z2 = some (gsetI (gsetI h (A 1 0) 3 w) (A 1 0) 4 v) := by
    unfold f_Tree_setScreen
    rw [cw, cv]
    simp only [gtag_setI, f4, g77', cond_true]
  have HH := (H1.i t1 3 w).i t1 4 v
  have k13 : gint (gsetI (gsetI h (A 1 0) 3 w) (A 1 0) 4 v) (A 1 0) 3 = w := by rw [gint_setI, if_neg (by omega), gint_setI, if_pos ⟨rfl, rfl⟩]
  have k14 : gint (gsetI (gsetI h (A 1 0) 3 w) (A 1 0) 4 v) (A 1 0) 4 = v := by rw [gint_setI, if_pos ⟨rfl, rfl⟩]
  have R := H3.nine
  have ha := H4.1.1
  -- the reference's state before arranging
  obtain ⟨S2, hS2⟩ : ∃ S2, S2 = wasS ((S.f 0 w).f 1 v) 1 (a + 1) := ⟨_, rfl⟩
  have r2 : ∀ k, ¬ k = 37 → S2.2 k = S.2 k := by
    intro k hk
    funext q
    rw [hS2]
    show (if k = 37 then _ else S.2 k q) = _
    rw [if_neg hk]
  have s2 : ∀ k, ¬ k = 0 → ¬ k = 1 → S2.1 k = S.1 k := by
    intro k h0 h1
    rw [hS2]
    show (if k = 1 then v else if k = 0 then w else S.1 k) = _
    rw [if_neg h1, if_neg h0]
  have s20 : S2.1 0 = w := by rw [hS2]; rfl
  have s21 : S2.1 1 = v := by rw [hS2]; rfl
  have R2 : RK9 ((K.i 1 0 3 w).i 1 0 4 v) S2 a ly := by
    obtain ⟨q1, q2, q3, q4, q5, q6, q7, q8, q9⟩ := R
    refine ⟨?_, ⟨?_, ?_, ?_, ?_, ?_⟩, ?_, ?_, ?_, ?_, ?_, ?_, ?_⟩
    · rw [r2 5 (by decide)]; exact q1
    · rw [s2 2 (by decide) (by decide)]; exact q2.1
    · rw [s20]; rfl
    · rw [s21]; rfl
    · rw [s2 3 (by decide) (by decide)]; exact q2.2.2.2.1
    · rw [r2 4 (by decide)]; exact q2.2.2.2.2
    · unfold RKp; rw [r2 5 (by decide), r2 12 (by decide), r2 13 (by decide), r2 14 (by decide), r2 15 (by decide), r2 16 (by decide), r2 17 (by decide), r2 18 (by decide), r2 19 (by decide)]; exact q3
    · unfold RKk; rw [r2 5 (by decide), r2 9 (by decide), r2 10 (by decide), r2 20 (by decide), r2 34 (by decide), r2 35 (by decide), r2 25 (by decide)]; exact q4
    · unfold RKa; rw [r2 5 (by decide), r2 21 (by decide)]; exact q5
    · unfold RKl; rw [r2 5 (by decide), r2 22 (by decide), r2 23 (by decide), r2 24 (by decide)]; exact q6
    · unfold RKx; rw [r2 5 (by decide), r2 25 (by decide), r2 26 (by decide), r2 27 (by decide), r2 28 (by decide)]; exact q7
    · unfold RKg; rw [r2 5 (by decide), r2 29 (by decide), r2 30 (by decide), r2 31 (by decide)]; exact q8
    · unfold RKr; rw [r2 4 (by decide), r2 5 (by decide), r2 6 (by decide), r2 7 (by decide), r2 8 (by decide), r2 11 (by decide)]; exact q9
  obtain ⟨m, hm, em⟩ := bd_n H4.2.1.2.2.1
  obtain ⟨v1, v2, v3, v4, v5, v6⟩ := id H3.2.2.2.2.2.2.2.2.1
  obtain ⟨h2, K2, e2, q1, q2, q3, q4⟩ := ev_add HH H3.1 (m := m) (e := e) (n := n) (by rw [← em]; exact v1) v3 v4 hm (by omega) 4 0 w v (by decide)
  have R3 := R2.ev q3 EVS.rf
  have P : PRE K2 S2 a ly (j + 1) := by
    obtain ⟨w1, w2, w3, w4, w5, w6, w7, w8, w9⟩ := H4.mono (Nat.le_succ j)
    have gp : RKgP K2 S2 a := by
      have := RKgP.of R.2.2.2.2.2.2.2.1 H4
      unfold RKgP at this ⊢
      rw [r2 5 (by decide), r2 4 (by decide), r2 14 (by decide), r2 15 (by decide), r2 29 (by decide), r2 30 (by decide), r2 31 (by decide), r2 32 (by decide), r2 33 (by decide), q3.1 11 (by decide) (by decide)]
      exact this
    refine ⟨⟨R3.1, R3.2.1, R3.2.2.1, R3.2.2.2.1, R3.2.2.2.2.1, R3.2.2.2.2.2.1, R3.2.2.2.2.2.2.1, gp, R3.2.2.2.2.2.2.2.2⟩, ?_, ?_, ⟨?_, ?_⟩, ?_, fun p p1 p2 => ⟨fun k hk => ?_, ?_⟩, ?_, ?_, ?_, ?_⟩
    · unfold WFa; rw [s2 2 (by decide) (by decide), r2 4 (by decide), r2 5 (by decide)]; exact w1
    · unfold WFn; rw [s2 41 (by decide) (by decide), s2 42 (by decide) (by decide), r2 16 (by decide), r2 17 (by decide), r2 34 (by decide), r2 35 (by decide), r2 25 (by decide), r2 23 (by decide), r2 22 (by decide), r2 20 (by decide), r2 19 (by decide), r2 11 (by decide)]; exact w2
    · rw [r2 25 (by decide), r2 26 (by decide), r2 27 (by decide), r2 28 (by decide)]; exact w3.1
    · rw [r2 23 (by decide), r2 24 (by decide)]; exact w3.2.1
    · unfold WFq; rw [r2 5 (by decide), r2 21 (by decide)]; exact w4
    · rw [r2 k (fun q => by rw [q] at hk; revert hk; decide)]; exact (w5 p p1 p2).1 k hk
    · rw [r2 21 (by decide)]; exact (w5 p p1 p2).2
    · unfold WFk; rw [r2 4 (by decide), r2 5 (by decide), r2 9 (by decide), r2 10 (by decide), r2 11 (by decide)]; exact w6
    · unfold WFt; rw [s2 3 (by decide) (by decide), r2 4 (by decide), r2 5 (by decide), r2 6 (by decide), r2 7 (by decide), r2 8 (by decide)]; exact w7
    · rw [s20, s21]; exact ⟨bw.1, bw.2, bv.1, bv.2⟩
    · rw [r2 12 (by decide), r2 13 (by decide), r2 14 (by decide), r2 15 (by decide)]; exact w8.2.1
  have q2' : Hrep h2 A ρ (cT L a (S2.2 5)) K2 := by rw [r2 5 (by decide)]; exact q2
  obtain ⟨n1, n1a, hM1⟩ := was_loop ha a n ((S.f 0 w).f 1 v) 1 (by omega) (by omega) H4.1.2.1
  rw [← hS2] at hM1
  obtain ⟨h3, K3, S3, c, g1, g2, g3, g4, g5, g6, g7, g8, g9, g10⟩ := lay_all (n := n) (n' := n1) q2' P (by omega) (by omega)
  have s3 : ∀ k, S3.1 k = S2.1 k := fun k => by rw [g8]
  obtain ⟨n2, n2a, hM2⟩ := cnt_loop (S := S3) ha (by rw [s3, s2 2 (by decide) (by decide)]; exact H4.1.2.1) a n1 0 1 (by omega) (by omega)
  have s341 : S3.1 41 = nI m := by rw [s3, s2 41 (by decide) (by decide)]; exact em
  have s342 : S3.1 42 = S.1 42 := by rw [s3, s2 42 (by decide) (by decide)]
  have s343 : S3.2 43 = S.2 43 := by rw [g9 43 (by omega) (by omega) (by omega), r2 43 (by decide)]
  have q5 := e_event_4 (n := n2) (by omega) S3 (m := m) s341 hm (x1 := 4) (x2 := 0) (x3 := w) (x4 := v) (P := 0) (fun q => absurd q (by decide))
  rw [s3, s3, s20, s21, q5, Option.bind_some, Nat.zero_add] at hM2
  have q6 := q4 S3 0 (RKe.eq' (K := K) (S := S) H3.2.2.2.2.2.2.2.2.1 rfl rfl rfl (by rw [s341]; exact em.symm) s342 s343) s341
  have ec : cO (fun p => opN S3 p && !sm4 S3 p) 1 a = c := by
    rw [g10]
    refine cO_congr _ _ (fun p p1 p2 => ?_)
    have w4 : ∀ k, k < 4 → S3.2 37 (4 * p + k) = S2.2 (12 + k) p := by
      intro k hk
      rw [g9 37 (by omega) (by omega) (by omega), r2 (12 + k) (by omega), hS2]
      show (if 37 = 37 then (if 1 ≤ (4 * p + k) / 4 ∧ (4 * p + k) / 4 < a + 1 then S.2 (12 + (4 * p + k) % 4) ((4 * p + k) / 4) else S.2 37 (4 * p + k)) else S.2 37 (4 * p + k)) = _
      rw [if_pos rfl, if_pos (by omega), show (4 * p + k) % 4 = k by omega, show (4 * p + k) / 4 = p by omega]
    have w0 : S3.2 37 (4 * p) = S2.2 12 p := w4 0 (by omega)
    unfold opN sm4 chS
    rw [g9 4 (by omega) (by omega) (by omega), w0, w4 1 (by omega), w4 2 (by omega), w4 3 (by omega)]
  refine PO_mk (r := nI c) (S' := evS S3 m 4 0 w v 0) (e' := e2) (ly' := ly) rfl rfl rfl H (h1 := h3) ?_ ?_ (by rw [r2 5 (by decide)] at g3; exact g3) (((KEEP.rfl' K).tr ⟨rfl, rfl, rfl, rfl⟩ : KEEP K ((K.i 1 0 3 w).i 1 0 4 v)).tr (q3.keep.tr g4)) (by rw [(EVS.of).2 5 (by decide), g9 5 (by omega) (by omega) (by omega), r2 5 (by decide)]) ((g5.ev EVF.rf EVS.of).with (q6.eq g6.1 g6.2.1 g6.2.2 rfl rfl)) (g7.ev EVS.of (evS_bd hm) (by rw [evS_42, s342]; exact H4.2.1.2.2.2)) (fun p hp => ?_)
  · have f1' : gtag h2 (A 0 0) = some (9, 2) := q2.tag (c := 0) (p := 0) rfl
    have f4' : gtag h2 (A 1 0) = some (7, 5) := q2.tag (c := 1) (p := 0) rfl
    have f2' : gref h2 (A 0 0) 0 = some (A 1 0) := by rw [q2.ref (c := 0) (p := 0) (t := (9, 2)) rfl, q3.2]; show aM A (K.2 0 0 0) = _; rw [H3.1.1]; rfl
    simp only [f_G_resize, f1, f2, f3, f4, f5, g99, g77, g77', gt0', cond_true, Option.bind_some, hs, gtag_setI, gref_setI, k13, k14, q1, f1', f2', f4', g1]
  · show f_M_resize n S z1 z2 = _
    unfold f_M_resize
    rw [e_nearest, Option.bind_some, e_nearest, Option.bind_some]
    simp only
    rw [← hw, ← hv, show (1 : Int32) = nI 1 from rfl, hM1, g2, Option.bind_some]
    rw [← ec]
    exact hM2
  · rw [(EVS.of).2 21 (by decide), g9 21 (by omega) (by omega) (by omega), r2 21 (by decide)]
    exact H5 p hp
