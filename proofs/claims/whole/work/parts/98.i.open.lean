/-! ===== open ===== -/
theorem e_mk1 {n : Nat} {S : MS} {a : Nat} (ha : a + 1 ≤ 60) (s2 : S.1 2 = nI a) (k : Int32) : f_M_make n S k = some (nI (a + 1), mk1 S a k) := e_make ha s2 k
theorem b74_full {n m a : Nat} {S : MS} {x1 x2 x3 x4 : Int32} (hWa : WFa S a) (hWt : WFt S) (hn : 100 ≤ n) (hm : m ≤ 2) (h : (decide (a + m ≤ 60) && decide (cO (lfN S) 1 a < 12)) = false) : f_M_open_B74 n S x1 x2 x3 x4 (nI m) (S.1 2) = some (-4, S) := by
  have ha := hWa.1
  have l12 := leaves12 hWa hWt
  unfold f_M_open_B74
  rw [hWa.2.1, nI_add]
  by_cases c1 : a + m ≤ 60
  · rw [if_neg (show ¬ (60 : Int32) < nI (a + m) from nI_nlt (a := 60) (b := a + m) c1 (by omega)), e_leaves ha hWa.2.1 hn, Option.bind_some]
    rw [decide_eq_true c1, Bool.true_and, decide_eq_false_iff_not] at h
    rw [if_pos (show nI (cO (lfN S) 1 a) = 12 from by rw [show cO (lfN S) 1 a = 12 by omega]; rfl)]
  · rw [if_pos (show (60 : Int32) < nI (a + m) from nI_lt (a := 60) (by omega) (by omega))]
theorem b74_top {n a k : Nat} {S S' : MS} {x2 x3 : Int32} (hWa : WFa S a) (hn : 100 ≤ n) (ha : a + 1 ≤ 60) (hc : cO (lfN S) 1 a < 12) (hS : f_M_arrangeAll n ((mk1 S a (nI k)).f 3 (nI (a + 1))) = some S') : f_M_open_B74 n S 0 x2 x3 (nI k) 1 (S.1 2) = some (nI (a + 1), S') := by
  unfold f_M_open_B74
  have e1 : S.1 2 + 1 = nI (a + 1) := by rw [hWa.2.1, nI_1]
  rw [e1, if_neg (show ¬ (60 : Int32) < nI (a + 1) from nI_nlt (a := 60) (b := a + 1) ha (by omega)), e_leaves hWa.1 hWa.2.1 hn, Option.bind_some, if_neg (show ¬ nI (cO (lfN S) 1 a) = 12 from fun q => by have := (nI_eq (b := 12) (by omega) (by omega)).mp q; omega)]
  show ((f_M_make n S (nI k)).bind _) = _
  rw [e_mk1 ha hWa.2.1, Option.bind_some, if_pos rfl]
  show ((f_M_arrangeAll n ((mk1 S a (nI k)).f 3 (nI (a + 1)))).bind _) = _
  rw [hS]; rfl
theorem b74_split {n a k m z O : Nat} {S Sp S' : MS} (hWa : WFa S a) (hn : 100 ≤ n) (ha : a + 2 ≤ 60) (hc : cO (lfN S) 1 a < 12) (hO1 : 1 ≤ O) (hO2 : O ≤ a) (hm : m < 16) (hP : f_M_put n (mk2 S a k m z) (nI (a + 2)) (nI O) = some Sp) (hS : f_M_arrangeAll n ((((Sp.a 7 (a + 2) (nI (if m % 2 = 0 then a + 1 else O))).a 8 (a + 2) (nI (if m % 2 = 0 then O else a + 1))).a 6 (a + 1) (nI (a + 2))).a 6 O (nI (a + 2))) = some S') : f_M_open_B74 n S (nI O) (nI m) (nI z) (nI k) 2 (S.1 2) = some (nI (a + 1), S') := by
  have e1 : S.1 2 + 2 = nI (a + 2) := by rw [hWa.2.1]; exact nI_add a 2
  have nO : ¬ nI O = 0 := by rw [nI_z (by omega)]; omega
  have q1 : (mk1 S a (nI k)).1 2 = nI (a + 1) := rfl
  have mk := e_mk1 (n := n) (k := 4) (show a + 1 + 1 ≤ 60 by omega) q1
  have iP := ixn (show a + 2 < 2 ^ 31 by omega)
  have iF := ixn (show a + 1 < 2 ^ 31 by omega)
  have iO := ixn (show O < 2 ^ 31 by omega)
  have bP : inB (nI (a + 2)) 61 = true := inn (by omega) (by decide)
  have bF : inB (nI (a + 1)) 61 = true := inn (by omega) (by decide)
  have bO : inB (nI O) 61 = true := inn (by omega) (by decide)
  obtain ⟨b1, -, -, -, -⟩ := bits m hm
  unfold f_M_open_B74
  rw [e1, if_neg (show ¬ (60 : Int32) < nI (a + 2) from nI_nlt (a := 60) (b := a + 2) ha (by omega)), e_leaves hWa.1 hWa.2.1 hn, Option.bind_some, if_neg (show ¬ nI (cO (lfN S) 1 a) = 12 from fun q => by have := (nI_eq (b := 12) (by omega) (by omega)).mp q; omega)]
  show ((f_M_make n S (nI k)).bind _) = _
  rw [e_mk1 (by omega) hWa.2.1, Option.bind_some, if_neg nO]
  show ((f_M_make n (mk1 S a (nI k)) 4).bind _) = _
  rw [mk, Option.bind_some]
  show (bif inB (nI (a + 2)) 61 then (bif inB (nI (a + 2)) 61 then (bif inB (nI (a + 2)) 61 then (f_M_put n ((((mk1 (mk1 S a (nI k)) (a + 1) 4).a 9 (ix (nI (a + 2))) (nI m)).a 10 (ix (nI (a + 2))) (nI z)).a 11 (ix (nI (a + 2))) (nI (a + 1))) (nI (a + 2)) (nI O)).bind (fun q7 => if (nI m &&& 1) = 0 then f_M_open_B163 n q7 (nI O) (nI (a + 1)) (nI (a + 2)) 1 else f_M_open_B163 n q7 (nI O) (nI (a + 1)) (nI (a + 2)) 0) else none) else none) else none) = _
  rw [bP, cond_true, cond_true, cond_true, iP]
  have hP' : f_M_put n ((((mk1 (mk1 S a (nI k)) (a + 1) 4).a 9 (a + 2) (nI m)).a 10 (a + 2) (nI z)).a 11 (a + 2) (nI (a + 1))) (nI (a + 2)) (nI O) = some Sp := hP
  rw [hP', Option.bind_some]
  by_cases c : m % 2 = 0
  · rw [if_pos c, if_pos c] at hS
    rw [if_pos (b1.mpr c)]
    unfold f_M_open_B163 f_M_open_B182
    rw [if_neg (show ¬ (1 : Int32) = 0 by decide)]
    simp only [bP, bF, bO, cond_true, iP, iF, iO, show ¬ (1 : Int32) = 0 from by decide, if_false, reduceIte, hS, Option.bind_some]
  · rw [if_neg c, if_neg c] at hS
    rw [if_neg (fun q => c (b1.mp q))]
    unfold f_M_open_B163 f_M_open_B182
    rw [if_pos rfl]
    simp only [bP, bF, bO, cond_true, iP, iF, iO, if_true, reduceIte, hS, Option.bind_some]
theorem p_open {n b L ax am j : Nat} {h : gHp} (hI : Iv b L ax am j h) (hn : 6000 ≤ n) (z1 z2 z3 z4 : Int32) (Q : Option gv → gHp → Prop) (hQ : ∀ q h', OPq n (Iv b L ax am (j + 1)) b L am h z1 z2 z3 z4 q h' → Q (some (.inl q)) h') : gtis (gtag h ax) 9 = true ∧ w_G_open n h ax z1 z2 z3 z4 Q := by
  obtain ⟨A, ρ, K, S, a, e, ly, rfl, rfl, rfl, H⟩ := hI
  obtain ⟨H1, H2, H3, H4, H5⟩ := id H
  obtain ⟨f1, f2, f3, f4, f5⟩ := top_facts H1 H3.1
  have hf := e_find H1 H3.1 H3.2.1 n z1
  have ha := H4.1.1
  have n10 : ¬ (1 : Int32) = 0 := by decide
  refine ⟨by rw [f1]; rfl, ?_⟩
  have sm : ∀ q, f_M_open n S z1 z2 z3 z4 = some (q, S) → Q (some (.inl q)) h := fun q hq => hQ q h (OP_same rfl rfl rfl H hq)
  have bad : f_M_in n S z4 0 3 = some (0, S) → f_M_open n S z1 z2 z3 z4 = some (-1, S) := by
    intro q
    unfold f_M_open f_M_open_B21
    by_cases cz : z1 = 0
    · rw [if_pos cz, q, Option.bind_some, if_pos rfl]
    · rw [if_neg cz, e_isPane, Option.bind_some]
      by_cases c : opB S z1 = true
      · rw [c, if_neg (show ¬ b32 true = 0 from n10), e_isMethod, Option.bind_some]
        by_cases c' : msB z2 z3 = true
        · rw [c', if_neg (show ¬ b32 true = 0 from n10), q, Option.bind_some, if_pos rfl]
        · rw [Bool.not_eq_true] at c'
          rw [c', if_pos (show b32 false = 0 from rfl)]
      · rw [Bool.not_eq_true] at c
        rw [c, if_pos (show b32 false = 0 from rfl)]
  unfold w_G_open
  by_cases c1 : z4 < 0
  · exact ⟨fun _ => sm (-1) (bad (by unfold f_M_in; rw [if_pos c1])), fun q => absurd c1 q⟩
  by_cases c2 : z4 ≤ 3
  case neg => exact ⟨fun q => absurd q c1, fun _ => ⟨fun q => absurd q c2, fun _ => sm (-1) (bad (by unfold f_M_in; rw [if_neg c1, if_pos (Int32.not_le.mp c2)]))⟩⟩
  have hin : f_M_in n S z4 0 3 = some (1, S) := by unfold f_M_in; rw [if_neg c1, if_neg (fun q => absurd c2 (Int32.not_le.mpr q))]
  obtain ⟨k, hk, rfl⟩ := nI_of2 (M := 3) (n := 3) rfl c1 c2
  by_cases cz : z1 = 0
  · subst cz
    refine ⟨fun q => absurd q c1, fun _ => ⟨fun _ => ⟨fun _ => ⟨by rw [f1]; rfl, ?_⟩, fun q => absurd rfl q⟩, fun q => absurd c2 q⟩⟩
    have eM : f_M_open n S 0 z2 z3 (nI k) = if S.1 3 ≤ 0 then f_M_open_B74 n S 0 z2 z3 (nI k) 1 (S.1 2) else some (-3, S) := by
      unfold f_M_open f_M_open_B21
      rw [if_pos rfl, hin, Option.bind_some, if_neg (show ¬ (((1 : Int32), S) : Int32 × MS).1 = 0 from n10), if_pos rfl]
      unfold f_M_open_B61
      rw [if_pos rfl]
    have r2 : gref h (A 1 0) 2 = aM A (nz (S.1 3)) := by rw [H1.ref (c := 1) (p := 0) (t := (7, 5)) rfl, H3.2.1.2.2.2.1]
    have rt : (S.1 3 = 0 ∧ gref h (A 1 0) 2 = none) ∨ (∃ r, 1 ≤ r ∧ r ≤ 60 ∧ S.1 3 = nI r ∧ gref h (A 1 0) 2 = some (A 7 r)) := by
      rcases H4.2.2.2.2.2.2.1 with ⟨w, -⟩ | ⟨d, r, l, w1, w2, -⟩
      · exact Or.inl ⟨w, by rw [r2, w]; rfl⟩
      · obtain ⟨x1, x2, -⟩ := w2.here
        exact Or.inr ⟨r, x1, x2, w1, by rw [r2, w1, aM_nz x1 x2]⟩
    unfold w_G_openTop
    refine ⟨by rw [f1]; rfl, A 1 0, f2, by rw [f4]; rfl, fun ct => ?_, fun ct => ?_⟩
    · have s3 : S.1 3 = 0 := by
        rcases rt with w | ⟨r, -, -, -, w⟩
        · exact w.1
        · rw [w] at ct; cases ct
      rw [if_pos (show S.1 3 ≤ 0 from by rw [s3]; decide)] at eM
      have hr := e_hasRoom (n := n) (m := 1) H1 H3.1 H3.2.1 H3.2.2.1 H4.1 (by omega) (by omega)
      refine ⟨by rw [f1]; rfl, A 1 0, f2, _, by rw [f4, g77, cond_true]; exact hr, fun q => ?_, fun q => ?_⟩
      · exact ⟨_, rfl, sm (-4) (by rw [eM]; exact b74_full (m := 1) H4.1 H4.2.2.2.2.2.2.1 (by omega) (by omega) (b32_0.mp q))⟩
      · have q' : (decide (a + 1 ≤ 60) && decide (cO (lfN S) 1 a < 12)) = true := by
          cases w : (decide (a + 1 ≤ 60) && decide (cO (lfN S) 1 a < 12)) with
          | true => rfl
          | false => exact absurd (by rw [w]; rfl) q
        rw [Bool.and_eq_true, decide_eq_true_iff, decide_eq_true_iff] at q'
        refine ⟨by rw [f1]; rfl, A 1 0, f2, by rw [f4]; rfl, ?_⟩
        exact add_top rfl rfl rfl H s3 q'.1 hk hn (fun S' hS' => by rw [eM]; exact b74_top H4.1 (by omega) q'.1 q'.2 hS') (fun h' hh => ⟨_, rfl, _, rfl, hQ _ _ hh⟩)
    · have s3 : ¬ S.1 3 ≤ 0 := by
        rcases rt with w | ⟨r, w1, w2, w3, w⟩
        · exact absurd w.2 ct
        · rw [w3]; exact nI_ge (a := 0) (b := r) (by omega) (by omega)
      exact ⟨_, rfl, sm (-3) (by rw [eM, if_neg s3])⟩
  · by_cases cp : opB S z1 = true
    case neg =>
      rw [if_neg cp] at hf
      refine ⟨fun q => absurd q c1, fun _ => ⟨fun _ => ⟨fun q => absurd q cz, fun _ => ⟨by rw [f1]; rfl, A 1 0, f2, _, by rw [f4, g77, cond_true]; exact hf, fun _ => sm (-1) ?_, fun q => absurd rfl q⟩⟩, fun q => absurd c2 q⟩⟩
      rw [Bool.not_eq_true] at cp
      unfold f_M_open
      rw [if_neg cz, e_isPane, Option.bind_some, cp, if_pos (show b32 false = 0 from rfl)]
    obtain ⟨O, rfl, p1, p2, p3, p4⟩ := opB_nI H4.1 cp
    rw [if_pos cp, ixn (show O < 2 ^ 31 by omega)] at hf
    refine ⟨fun q => absurd q c1, fun _ => ⟨fun _ => ⟨fun q => absurd q cz, fun _ => ⟨by rw [f1]; rfl, A 1 0, f2, _, by rw [f4, g77, cond_true]; exact hf, fun q => (by cases q), fun _ => ⟨_, e_isMeasure n h z2 z3, fun q => sm (-1) ?_, fun q => ?_⟩⟩⟩, fun q => absurd c2 q⟩⟩
    · have q' := b32_0.mp q
      unfold f_M_open
      rw [if_neg cz, e_isPane, Option.bind_some, cp, if_neg (show ¬ b32 true = 0 from n10), e_isMethod, Option.bind_some, q', if_pos (show b32 false = 0 from rfl)]
    have cm : msB z2 z3 = true := by
      cases w : msB z2 z3 with
      | true => rfl
      | false => exact absurd (by rw [w]; rfl) q
    obtain ⟨m, z, rfl, rfl, hm, hz, hz'⟩ := msB_n cm
    obtain ⟨-, -, b4, -, -⟩ := bits m hm
    have eM : f_M_open n S (nI O) (nI m) (nI z) (nI k) = if (nI m &&& 4) = 0 then (if nI k = 0 then some (-3, S) else f_M_open_B74 n S (nI O) (nI m) (nI z) (nI k) 2 (S.1 2)) else f_M_open_B74 n S (nI O) (nI m) (nI z) (nI k) 2 (S.1 2) := by
      unfold f_M_open f_M_open_B21
      rw [if_neg cz, e_isPane, Option.bind_some, cp, if_neg (show ¬ b32 true = 0 from n10), e_isMethod, Option.bind_some, cm, if_neg (show ¬ b32 true = 0 from n10), hin, Option.bind_some, if_neg (show ¬ (((1 : Int32), S) : Int32 × MS).1 = 0 from n10), if_neg cz]
      unfold f_M_open_B61
      rw [if_neg cz]
    have hr := e_hasRoom (n := n) (m := 2) H1 H3.1 H3.2.1 H3.2.2.1 H4.1 (by omega) (by omega)
    have rm : f_M_open n S (nI O) (nI m) (nI z) (nI k) = f_M_open_B74 n S (nI O) (nI m) (nI z) (nI k) 2 (S.1 2) → ∀ Q : Option gv → gHp → Prop, (∀ q h', OPq n (Iv (A 17 0) L (A 0 0) (A 15 0) (j + 1)) (A 17 0) L (A 15 0) h (nI O) (nI m) (nI z) (nI k) q h' → Q (some (.inl q)) h') → (gtin (gtag h (A 0 0)) [9] = true ∧ (∃ b12, (gref h (A 0 0) 0) = some b12 ∧ (∃ q13, (bif gtis (gtag h b12) 7 then f_Tree_hasRoomFor n h b12 ((2 : Int32)) else none) = some q13 ∧ ((q13.1 = (0 : Int32) → Q (some (.inl ((-4 : Int32)))) (q13.2)) ∧ (¬ (q13.1 = (0 : Int32)) → (gtin (gtag (q13.2) (A 0 0)) [9] = true ∧ (∃ b15, (gref (q13.2) (A 0 0) 0) = some b15 ∧ ((gtis (gtag (q13.2) b15) 7 = true ∧ w_Tree_split n (q13.2) b15 (some (A 7 O)) (nI m) (nI z) (nI k) (fun v h' => ∃ q16, v = some (.inl q16) ∧ Q (some (.inl (q16))) (h'))))))))))) := by
      intro e74 Q hQ
      refine ⟨by rw [f1]; rfl, A 1 0, f2, _, by rw [f4, g77, cond_true]; exact hr, fun q => ?_, fun q => ?_⟩
      · exact hQ _ _ (OP_same rfl rfl rfl H (by rw [e74]; exact b74_full (m := 2) H4.1 H4.2.2.2.2.2.2.1 (by omega) (by omega) (b32_0.mp q)))
      · have q' : (decide (a + 2 ≤ 60) && decide (cO (lfN S) 1 a < 12)) = true := by
          cases w : (decide (a + 2 ≤ 60) && decide (cO (lfN S) 1 a < 12)) with
          | true => rfl
          | false => exact absurd (by rw [w]; rfl) q
        rw [Bool.and_eq_true, decide_eq_true_iff, decide_eq_true_iff] at q'
        refine ⟨by rw [f1]; rfl, A 1 0, f2, by rw [f4]; rfl, ?_⟩
        exact split_all rfl rfl rfl H p3 p4 q'.1 q'.2 hk hm hz hz' hn (fun Sp S' hP hS => by rw [e74]; exact b74_split H4.1 (by omega) q'.1 q'.2 p1 (pnN_le p3).2 hm hP hS) (fun h' hh => ⟨_, rfl, hQ _ _ hh⟩)
    refine ⟨fun c0 => ⟨(if nI m &&& 4 = 0 then 1 else 0, h), ?_, fun qf => ?_, fun qf => ?_⟩, fun c0 => ?_⟩
    · unfold f_G_isFixed
      by_cases w : nI m &&& 4 = 0
      · rw [if_pos w, if_pos w]
      · rw [if_neg w, if_neg w]
    · have w : ¬ nI m &&& 4 = 0 := fun w => by
        rw [if_pos w] at qf; exact n10 qf
      exact rm (by rw [eM, if_neg w]) _ hQ
    · have w : nI m &&& 4 = 0 := Classical.byContradiction fun w => by
        rw [if_neg w] at qf; exact qf rfl
      exact sm (-3) (by rw [eM, if_pos w, if_pos c0])
    · refine rm ?_ _ hQ
      rw [eM]
      by_cases w : nI m &&& 4 = 0
      · rw [if_pos w, if_neg c0]
      · rw [if_neg w]
theorem p_open0 {n b L ax am j : Nat} {h : gHp} {i : Int32} (hI : Iv b L ax am j h) (hb : gtag h b = some (24, L)) (hn : 6000 ≤ n) (hr : ∀ c : Int32, c = 1 ∨ c = 2 ∨ c = 3 ∨ c = 4 → inB (i + c) L = true) : w_lawC0 n h b ax am i (fun v _ => v = some (.inl 1)) (fun h' i' => Iv b L ax am (j + 1) h' ∧ i' = i + 5) := by
  have gA : ∀ c : Int32, c = 1 ∨ c = 2 ∨ c = 3 ∨ c = 4 → gArr (some (24, L)) 24 (i + c) = true := fun c hc => by
    have := hr c hc
    exact this
  unfold w_lawC0
  rw [hb]
  refine ⟨gA 1 (by simp), gA 2 (by simp), gA 3 (by simp), gA 4 (by simp), p_open hI hn (gint h b (ix (i + 1))) (gint h b (ix (i + 2))) (gint h b (ix (i + 3))) (gint h b (ix (i + 4))) _ (fun q h' hh => ?_)⟩
  obtain ⟨a1, a2, hO, ad, S, q2, a3, a4, a5, a6⟩ := hh
  refine ⟨q, rfl, ?_⟩
  rw [a1, a2, a2, a2, a2]
  exact ⟨gA 1 (by simp), gA 2 (by simp), gA 3 (by simp), gA 4 (by simp), hO, ad, S, q2, a3, a4, fun h'' hM => ⟨fun _ => ⟨a6 h'' hM, rfl⟩, fun w => absurd a5 w⟩⟩
