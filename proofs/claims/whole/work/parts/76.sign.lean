theorem SPF.rf {S : MS} {P : Nat} : SPF S S P := ⟨rfl, fun _ _ _ _ _ => rfl⟩
theorem KPF.rf {K : KS} {P : Nat} : KPF K K P := ⟨rfl, fun _ _ _ _ _ => rfl⟩
section LM
variable {b L ax am j : Nat} {h h1 : gHp} {A : Nat → Nat → Nat} {ρ : Nat → Nat × Nat} {K K' : KS} {S S' : MS} {a e P : Nat} {ly : Nat → Bool} {r : Int32} {fG : Option (Int32 × gHp)} {fM : MS → Option (Int32 × MS)}
/-- a call that changes one pane that can be written to -/
theorem PO_loc (e1 : A 17 0 = b) (e2 : A 0 0 = ax) (e3 : A 15 0 = am) (H : Cpl h A ρ L K S a e ly j) (hp : pnN a P = true) (hG : fG = some (r, h1)) (hM : fM S = some (r, S')) (H1 : Hrep h1 A ρ (cT L a (S.2 5)) K') (hK : KPF K K' P) (hS : SPF S S' P) (hL : LOC K' S' P (j + 1)) : POg (Iv b L ax am (j + 1)) b L am h fG fM := by
  obtain ⟨H1', H2, H3, H4, H5⟩ := id H
  refine PO_mk (e' := e) (ly' := ly) e1 e2 e3 H hG hM H1 hK.keep (hS.row 5 (by decide)) ((H3.nine.loc H4 hp hK hS hL).with (H3.2.2.2.2.2.2.2.2.1.eq (hK.cls 2 (by decide)) (hK.cls 5 (by decide)) (hK.cls 6 (by decide)) hS.1 (hS.row 43 (by decide)))) (H4.loc hp hS hL (by omega)) (fun p hp' => ?_)
  rw [hS.row 21 (by decide)]
  exact H5 p hp'
theorem LOC.wr (H : LOC K S P j) (x : Int32) (hj : j ≤ j + 1) : LOC (K.i 7 P 9 x) (S.a 18 P x) P (j + 1) := by
  obtain ⟨m1, m2, m3, m4, m5, m6, m7⟩ := H
  refine ⟨?_, m2, ⟨m3.1, Int.le_trans m3.2 (by omega)⟩, m4, m5, m6, m7⟩
  rw [KS.i_1, if_pos ⟨rfl, rfl, rfl⟩, MS.a_2, if_pos ⟨rfl, rfl⟩]
end LM
theorem p_sign {n b L ax am j : Nat} {h : gHp} (hI : Iv b L ax am j h) (hn : 5000 ≤ n) (hj : j < 50000) (z1 z2 : Int32) : PO_sign n (Iv b L ax am (j + 1)) b L ax am h z1 z2 := by
  obtain ⟨A, ρ, K, S, a, e, ly, rfl, rfl, rfl, H⟩ := hI
  obtain ⟨H1, H2, H3, H4, H5⟩ := id H
  obtain ⟨f1, f2, f3, f4, f5⟩ := top_facts H1 H3.1
  have hf := e_find H1 H3.1 H3.2.1 n z1
  by_cases c1 : opB S z1 = true
  case neg => exact PO_sm (r := -1) rfl rfl rfl H (by simp [f_G_sign, f1, f2, f4, g99, g77, hf, c1]) (by show f_M_sign n S _ _ = _; simp [f_M_sign, e_isPane, c1, b32])
  obtain ⟨P, rfl, p1, p2, p3, p4⟩ := opB_nI H4.1 c1
  have iP := ixn (show P < 2 ^ 31 by omega)
  have bP : inB (nI P) 61 = true := inn (by omega) (by decide)
  have t7 : cT L a (S.2 5) 7 P = some (cTag (S.2 5 P)) := cT7 p3
  obtain ⟨n1, n2, n3, n4, n5⟩ := no_inst H1 H4.1 p3
  by_cases c2 : z2 = 10 ∨ rgB z2 32 126 = true
  case neg =>
    have d1 : ¬ z2 = 10 := fun q => c2 (Or.inl q)
    have d2 : ¬ rgB z2 32 126 = true := fun q => c2 (Or.inr q)
    exact PO_sm (r := -1) rfl rfl rfl H (by simp [f_G_sign, f1, f2, f4, g99, g77, hf, c1, d1, e_isPlain, d2, b32]) (by show f_M_sign n S _ _ = _; simp [f_M_sign, e_isPane, e_in, c1, d1, d2, b32])
  have ok : okc z2 := by
    rcases c2 with q | q
    · exact Or.inl q
    · simp only [rgB, Bool.and_eq_true, decide_eq_true_eq] at q
      exact Or.inr q
  have hG : f_G_sign n h (A 0 0) (nI P) z2 = f_G_sign_B28 (A 0 0) n h z2 (some (A 7 P)) := by
    by_cases d1 : z2 = 10
    · simp [f_G_sign, f1, f2, f4, g99, g77, hf, c1, d1, iP]
    · have d2 : rgB z2 32 126 = true := by rcases c2 with q | q; exact absurd q d1; exact q
      simp [f_G_sign, f1, f2, f4, g99, g77, hf, c1, d1, e_isPlain, d2, b32, iP]
  have hM : f_M_sign n S (nI P) z2 = f_M_sign_B27 n S (nI P) z2 := by
    by_cases d1 : z2 = 10
    · simp [f_M_sign, e_isPane, e_in, c1, d1, b32]
    · have d2 : rgB z2 32 126 = true := by rcases c2 with q | q; exact absurd q d1; exact q
      simp [f_M_sign, e_isPane, e_in, c1, d1, d2, b32]
  have hwr : f_M_isWritable n S (nI P) = some (b32 (wrK (S.2 5 P)), S) := by rw [e_isWritable n S (nI P) bP, wrB, iP]; rfl
  show POg _ _ _ _ _ (f_G_sign n h (A 0 0) (nI P) z2) (fun S => f_M_sign n S (nI P) z2)
  by_cases cw : wrK (S.2 5 P) = true
  case neg => exact PO_sm (r := -3) rfl rfl rfl H (by rw [hG]; simp [f_G_sign_B28, n5, cw, b32]) (by show f_M_sign n S _ _ = _; rw [hM]; simp [f_M_sign_B27, hwr, cw, b32])
  obtain ⟨w1, w2, w3, w4, w5, w6, w7, w8⟩ := wr_facts H1 H3.1 p3 cw
  have n5' : gInst h (some (A 7 P)) "GlkPanes$Writing" = some 1 := by rw [n5, cw]; rfl
  have n6 := cas_of n5'
  have ga : gArr (some (21, 4)) 21 1 = true := gA4 (k := 1) (by decide)
  have k8 : gint h (A 8 P) (ix 1) = S.2 21 (4 * P + 1) := ask_ints H1 H3.2.2.2.2.1 p3 cw (k := 1) (by decide)
  have x4 : (4 : Int32) * nI P + 1 = nI (4 * P + 1) := (ix4 p2 (k := 1) (by decide)).1
  have x5 := (ix4 p2 (k := 1) (by decide)).2.1
  have x6 := (ix4 p2 (k := 1) (by decide)).2.2
  by_cases c5 : S.2 21 (4 * P + 1) = 0
  case neg => exact PO_sm (r := -3) rfl rfl rfl H (by rw [hG]; simp [f_G_sign_B28, n5', n6, w1, w2, w5, ga, k8, c5]) (by show f_M_sign n S _ _ = _; rw [hM]; simp [f_M_sign_B27, hwr, cw, b32, x4, x5, x6, c5])
  obtain ⟨-, -, -, -, -, -, k7, k8', k9, -⟩ := pane_ints H1 H3.2.2.1 p3
  obtain ⟨b16, b17, -⟩ := H4.2.1.1 P p2
  have R := H3.nine
  have lc := LOC.of R H4 p3 p4
  have s18 : (S.a 18 P (S.2 18 P + 1)).2 18 P = S.2 18 P + 1 := by rw [MS.a_2, if_pos ⟨rfl, rfl⟩]
  have sp : SPF S (S.a 18 P (S.2 18 P + 1)) P := ⟨rfl, fun k q e1 e2 e3 => by rw [MS.a_2, if_neg (by omega)]⟩
  rcases wr_or cw with hk | hk
  · obtain ⟨t, hX⟩ := lc.txt hk
    have tg : gtag h (A 7 P) = some (6, 16) := by rw [H1.tag t7, hk]; rfl
    have hX' : TXt K (S.a 18 P (S.2 18 P + 1)) P t := hX
    obtain ⟨h1, K1, S1, t1, q1, q2, q3, q4, q5, q6⟩ := put_text H1 H3.1 p3 hk p2 hX' ok b16 b17 (n := n) (n' := n) (by omega) (by omega)
    have j9 : gint h1 (A 7 P) 9 = S.2 18 P := by rw [q3.int t7, q5.2 7 P 9 (by omega) (by omega)]; exact lc.1
    have tg1 : gtag h1 (A 7 P) = some (6, 16) := by rw [q3.tag t7, hk]; rfl
    have s18' : S1.2 18 P = S.2 18 P + 1 := by rw [q6.2 18 P (by omega) (by omega), s18]
    refine PO_loc (r := 1) (P := P) (S' := S1) (K' := K1.i 7 P 9 (S.2 18 P + 1)) rfl rfl rfl H p3 (h1 := gsetI h1 (A 7 P) 9 (S.2 18 P + 1)) ?_ ?_ (q3.i t7 9 _) (q5.p.tr ⟨rfl, fun c' p' k' e1 e2 => by rw [KS.i_1, if_neg (by omega)]⟩) (sp.tr q6.p) ((lc.wr (S.2 18 P + 1) (by omega)).text hk q4 q6 (by rw [s18', KS.i_1, if_pos ⟨rfl, rfl, rfl⟩]))
    · rw [hG]
      simp only [f_G_sign_B28, n5', n6, w1, w2, w5, ga, k8, c5, k7, k8', e_cell, Option.bind_some, cond_true, show ¬ (1 : Int32) = 0 from by decide, if_false, if_true, reduceIte, tg, show gtin (some (6, 16)) [1] = false from rfl, cond_false, gtx, q1, tg1, show gtin (some (6, 16)) [1, 6] = true from rfl, j9]
    · show f_M_sign n S _ _ = _
      rw [hM]
      simp only [f_M_sign_B27, hwr, cw, show wrK 1 = true from rfl, show wrK 2 = true from rfl, b32_t, show ¬ (1 : Int32) = 0 from by decide, Option.bind_some, x4, x5, x6, c5, bP, iP, cond_true, if_false, if_true, reduceIte, MS.a_2, show ¬ 5 = 18 from by decide, show ¬ 16 = 18 from by decide, show ¬ 17 = 18 from by decide, false_and, hk, q2]
  · obtain ⟨w, v, cx, cy, hX, hx, hy⟩ := lc.grd hk R.2.2.1 H4.2.2.2.2.2.2.2.1 p3 p2
    have tg : gtag h (A 7 P) = some (1, 16) := by rw [H1.tag t7, hk]; rfl
    have hX' : GRt K (S.a 18 P (S.2 18 P + 1)) P w v cx cy := hX
    obtain ⟨h1, K1, S1, cx', cy', q1, q2, q3, q4, qx, qy, q5, q6⟩ := put_grid H1 H3.1 p3 hk p2 hX' hx (by omega) ok b16 b17 rfl rfl n n
    have j9 : gint h1 (A 7 P) 9 = S.2 18 P := by rw [q3.int t7, q5.2 7 P 9 (by omega) (by omega)]; exact lc.1
    have tg1 : gtag h1 (A 7 P) = some (1, 16) := by rw [q3.tag t7, hk]; rfl
    have s18' : S1.2 18 P = S.2 18 P + 1 := by rw [q6.2 18 P (by omega) (by omega), s18]
    have q4' : GRt (K1.i 7 P 9 (S.2 18 P + 1)) S1 P w v cx' cy' := q4
    refine PO_loc (r := 1) (P := P) (S' := S1) (K' := K1.i 7 P 9 (S.2 18 P + 1)) rfl rfl rfl H p3 (h1 := gsetI h1 (A 7 P) 9 (S.2 18 P + 1)) ?_ ?_ (q3.i t7 9 _) (q5.p.tr ⟨rfl, fun c' p' k' e1 e2 => by rw [KS.i_1, if_neg (by omega)]⟩) (sp.tr q6.p) ((lc.wr (S.2 18 P + 1) (by omega)).grid hk q4' q6 (by rw [s18', KS.i_1, if_pos ⟨rfl, rfl, rfl⟩]) qx (by omega) (by omega))
    · rw [hG]
      simp only [f_G_sign_B28, n5', n6, w1, w2, w5, ga, k8, c5, k7, k8', e_cell, Option.bind_some, cond_true, show ¬ (1 : Int32) = 0 from by decide, if_false, if_true, reduceIte, tg, ggr, q1, tg1, show gtin (some (1, 16)) [1, 6] = true from rfl, j9]
    · show f_M_sign n S _ _ = _
      rw [hM]
      rw [iP] at q2
      simp only [f_M_sign_B27, hwr, cw, show wrK 1 = true from rfl, show wrK 2 = true from rfl, b32_t, show ¬ (1 : Int32) = 0 from by decide, Option.bind_some, x4, x5, x6, c5, bP, iP, cond_true, if_false, if_true, reduceIte, MS.a_2, show ¬ 5 = 18 from by decide, show ¬ 16 = 18 from by decide, show ¬ 17 = 18 from by decide, show ¬ 34 = 18 from by decide, show ¬ 14 = 18 from by decide, false_and, hk, show ¬ (2 : Int32) = 1 from by decide] at q2 ⊢
      exact q2
/-! ===== wipe ===== -/
def bl3 (S : MS) (lo hh : Nat) : MS := ((S.g 29 (fun q => if lo ≤ q ∧ q < hh then 32 else S.2 29 q)).g 30 (fun q => if lo ≤ q ∧ q < hh then 0 else S.2 30 q)).g 31 (fun q => if lo ≤ q ∧ q < hh then 0 else S.2 31 q)
theorem bl3_2 (S : MS) (lo hh k q : Nat) : (bl3 S lo hh).2 k q = if (k = 29 ∨ k = 30 ∨ k = 31) ∧ lo ≤ q ∧ q < hh then (if k = 29 then 32 else 0) else S.2 k q := by
  unfold bl3
  rw [MS.g_2, MS.g_2, MS.g_2]
  by_cases c1 : k = 31
  · subst c1; simp
  by_cases c2 : k = 30
  · subst c2; simp
  by_cases c3 : k = 29
  · subst c3; simp
  simp [c1, c2, c3]
theorem e_blank {n : Nat} {S : MS} {q : Nat} (hq : q < 87840) : f_M_blank n S (nI q) = some (bl3 S q (q + 1)) := by
  unfold f_M_blank
  rw [inn hq (by decide), ixn (show q < 2 ^ 31 by omega)]
  simp only [cond_true]
  refine congrArg some (MS.ext (fun _ => rfl) (fun r i => ?_))
  rw [bl3_2, MS.a_2, MS.a_2, MS.a_2]
  by_cases c1 : r = 31
  · subst c1
    by_cases e : i = q
    · subst e; simp
    · rw [if_neg (by omega), if_neg (by omega), if_neg (by omega), if_neg (by omega)]
  by_cases c2 : r = 30
  · subst c2
    by_cases e : i = q
    · subst e; simp
    · rw [if_neg (by omega), if_neg (by omega), if_neg (by omega), if_neg (by omega)]
  by_cases c3 : r = 29
  · subst c3
    by_cases e : i = q
    · subst e; simp
    · rw [if_neg (by omega), if_neg (by omega), if_neg (by omega), if_neg (by omega)]
  simp [c1, c2, c3]
theorem bl3_tr (S : MS) {lo mi hh : Nat} (h1 : lo ≤ mi) (h2 : mi ≤ hh) : bl3 (bl3 S lo mi) mi hh = bl3 S lo hh := by
  refine MS.ext (fun _ => rfl) (fun r i => ?_)
  rw [bl3_2, bl3_2, bl3_2]
  by_cases c : (r = 29 ∨ r = 30 ∨ r = 31) ∧ mi ≤ i ∧ i < hh
  · rw [if_pos c, if_pos (show (r = 29 ∨ r = 30 ∨ r = 31) ∧ lo ≤ i ∧ i < hh from ⟨c.1, by omega, by omega⟩)]
  · rw [if_neg c]
    by_cases c2 : (r = 29 ∨ r = 30 ∨ r = 31) ∧ lo ≤ i ∧ i < mi
    · rw [if_pos c2, if_pos (show (r = 29 ∨ r = 30 ∨ r = 31) ∧ lo ≤ i ∧ i < hh from ⟨c2.1, by omega, by omega⟩)]
    · rw [if_neg c2, if_neg (by omega)]
theorem e_wipeB {P : Nat} (hP : P ≤ 60) : ∀ (d n : Nat) (S : MS) (i : Nat), i + d = 1440 → d < n → f_M_wipe_B47 n S (nI P) (nI (1440 * P + i)) = some (1, ((bl3 S (1440 * P + i) (1440 * P + 1440)).a 34 P 0).a 35 P 0) := by
  have iP := ixn (show P < 2 ^ 31 by omega)
  have bP : inB (nI P) 61 = true := inn (by omega) (by decide)
  have e0 : (1440 : Int32) * nI P + 1440 = nI (1440 * P + 1440) := by rw [show (1440 : Int32) = nI 1440 from rfl, pk_mul, nI_add]
  intro d
  induction d with
  | zero =>
    intro n S i h1 h2
    have e : i = 1440 := by omega
    subst e
    cases n with
    | zero => omega
    | succ n =>
      rw [f_M_wipe_B47, e0, if_pos (nI_le (by omega) (by omega)), bP, iP, cond_true, cond_true]
      have e1 : bl3 S (1440 * P + 1440) (1440 * P + 1440) = S := by
        refine MS.ext (fun _ => rfl) (fun r i => ?_)
        rw [bl3_2, if_neg (by omega)]
      rw [e1]
  | succ d ih =>
    intro n S i h1 h2
    cases n with
    | zero => omega
    | succ n =>
      rw [f_M_wipe_B47, e0, if_neg (nI_ge (by omega) (by omega)), e_blank (by omega), Option.bind_some, nI_1, show 1440 * P + i + 1 = 1440 * P + (i + 1) by omega, ih n _ (i + 1) (by omega) (by omega), bl3_tr S (by omega) (by omega)]
theorem cell_0 : cellv 32 0 0 = 32 := by decide
theorem p_wipe {n b L ax am j : Nat} {h : gHp} (hI : Iv b L ax am j h) (hn : 5000 ≤ n) (z1 : Int32) : PO_wipe n (Iv b L ax am (j + 1)) b L ax am h z1 := by
  obtain ⟨A, ρ, K, S, a, e, ly, rfl, rfl, rfl, H⟩ := hI
  obtain ⟨H1, H2, H3, H4, H5⟩ := id H
  obtain ⟨f1, f2, f3, f4, f5⟩ := top_facts H1 H3.1
  have hf := e_find H1 H3.1 H3.2.1 n z1
  by_cases c1 : opB S z1 = true
  case neg => exact PO_sm (r := -1) rfl rfl rfl H (by simp [f_G_wipe, f1, f2, f4, g99, g77, hf, c1]) (by show f_M_wipe n S _ = _; simp [f_M_wipe, e_isPane, c1, b32])
  obtain ⟨P, rfl, p1, p2, p3, p4⟩ := opB_nI H4.1 c1
  have iP := ixn (show P < 2 ^ 31 by omega)
  have bP : inB (nI P) 61 = true := inn (by omega) (by decide)
  have t7 : cT L a (S.2 5) 7 P = some (cTag (S.2 5 P)) := cT7 p3
  obtain ⟨n1, n2, n3, n4, n5⟩ := no_inst H1 H4.1 p3
  have hwr : f_M_isWritable n S (nI P) = some (b32 (wrK (S.2 5 P)), S) := by rw [e_isWritable n S (nI P) bP, wrB, iP]; rfl
  by_cases cw : wrK (S.2 5 P) = true
  case neg => exact PO_sm (r := -3) rfl rfl rfl H (by simp [f_G_wipe, f1, f2, f4, g99, g77, hf, c1, iP, n5, cw, b32]) (by show f_M_wipe n S _ = _; simp [f_M_wipe, e_isPane, c1, hwr, cw, b32])
  obtain ⟨w1, w2, w3, w4, w5, w6, w7, w8⟩ := wr_facts H1 H3.1 p3 cw
  have n5' : gInst h (some (A 7 P)) "GlkPanes$Writing" = some 1 := by rw [n5, cw]; rfl
  have n6 := cas_of n5'
  have ga : gArr (some (21, 4)) 21 1 = true := gA4 (k := 1) (by decide)
  have k8 : gint h (A 8 P) (ix 1) = S.2 21 (4 * P + 1) := ask_ints H1 H3.2.2.2.2.1 p3 cw (k := 1) (by decide)
  have x4 : (4 : Int32) * nI P + 1 = nI (4 * P + 1) := (ix4 p2 (k := 1) (by decide)).1
  have x5 := (ix4 p2 (k := 1) (by decide)).2.1
  have x6 := (ix4 p2 (k := 1) (by decide)).2.2
  by_cases c5 : S.2 21 (4 * P + 1) = 0
  case neg => exact PO_sm (r := -3) rfl rfl rfl H (by simp [f_G_wipe, f1, f2, f4, g99, g77, hf, c1, iP, n5', n6, w1, w2, w5, ga, k8, c5]) (by show f_M_wipe n S _ = _; simp [f_M_wipe, e_isPane, c1, hwr, cw, b32, x4, x5, x6, c5])
  have R := H3.nine
  have lc := LOC.of R H4 p3 p4
  obtain ⟨m1, m2, m3, m4, m5, m6, m7⟩ := id lc
  have eB := e_wipeB p2 1440 n (S.a 25 P 0) 0 (by omega) (by omega)
  have hM : f_M_wipe n S (nI P) = some (1, ((bl3 (S.a 25 P 0) (1440 * P) (1440 * P + 1440)).a 34 P 0).a 35 P 0) := by
    have e3 : (1440 : Int32) * nI P = nI (1440 * P) := by rw [show (1440 : Int32) = nI 1440 from rfl, pk_mul]
    simp only [f_M_wipe, e_isPane, c1, b32_t, show ¬ (1 : Int32) = 0 from by decide, Option.bind_some, hwr, cw, x4, x5, x6, c5, bP, iP, cond_true, if_false, if_true, reduceIte, e3]
    exact eB
  have g2 : ∀ k q, (((bl3 (S.a 25 P 0) (1440 * P) (1440 * P + 1440)).a 34 P 0).a 35 P 0).2 k q = if k = 35 ∧ q = P then 0 else if k = 34 ∧ q = P then 0 else if (k = 29 ∨ k = 30 ∨ k = 31) ∧ 1440 * P ≤ q ∧ q < 1440 * P + 1440 then (if k = 29 then 32 else 0) else if k = 25 ∧ q = P then 0 else S.2 k q := by
    intro k q
    rw [MS.a_2, MS.a_2, bl3_2, MS.a_2]
  have sp : SPF S (((bl3 (S.a 25 P 0) (1440 * P) (1440 * P + 1440)).a 34 P 0).a 35 P 0) P := by
    refine ⟨rfl, fun k q e1 e2 e3 => ?_⟩
    rw [g2, if_neg (by omega), if_neg (by omega), if_neg (by omega), if_neg (by omega)]
  have lS : ∀ K' : KS, K'.1 7 P 9 = S.2 18 P → (S.2 5 P = 1 → K'.1 7 P 14 = 0) → (S.2 5 P = 2 → K'.1 7 P 14 = 0 ∧ K'.1 7 P 15 = 0 ∧ ∀ k, k < 1440 → K'.1 11 P k = 32) → LOC K' (((bl3 (S.a 25 P 0) (1440 * P) (1440 * P + 1440)).a 34 P 0).a 35 P 0) P (j + 1) := by
    intro K' y1 y2 y3
    have z25 : (((bl3 (S.a 25 P 0) (1440 * P) (1440 * P + 1440)).a 34 P 0).a 35 P 0).2 25 P = 0 := by rw [g2, if_neg (by omega), if_neg (by omega), if_neg (by omega), if_pos ⟨rfl, rfl⟩]
    have z34 : (((bl3 (S.a 25 P 0) (1440 * P) (1440 * P + 1440)).a 34 P 0).a 35 P 0).2 34 P = 0 := by rw [g2, if_neg (by omega), if_pos ⟨rfl, rfl⟩]
    have z35 : (((bl3 (S.a 25 P 0) (1440 * P) (1440 * P + 1440)).a 34 P 0).a 35 P 0).2 35 P = 0 := by rw [g2, if_pos ⟨rfl, rfl⟩]
    have z29 : ∀ k, k < 1440 → (((bl3 (S.a 25 P 0) (1440 * P) (1440 * P + 1440)).a 34 P 0).a 35 P 0).2 29 (1440 * P + k) = 32 := fun k hk => by rw [g2, if_neg (by omega), if_neg (by omega), if_pos (by omega), if_pos rfl]
    have z30 : ∀ k, k < 1440 → (((bl3 (S.a 25 P 0) (1440 * P) (1440 * P + 1440)).a 34 P 0).a 35 P 0).2 30 (1440 * P + k) = 0 := fun k hk => by rw [g2, if_neg (by omega), if_neg (by omega), if_pos (by omega), if_neg (by omega)]
    have z31 : ∀ k, k < 1440 → (((bl3 (S.a 25 P 0) (1440 * P) (1440 * P + 1440)).a 34 P 0).a 35 P 0).2 31 (1440 * P + k) = 0 := fun k hk => by rw [g2, if_neg (by omega), if_neg (by omega), if_pos (by omega), if_neg (by omega)]
    have z5 : (((bl3 (S.a 25 P 0) (1440 * P) (1440 * P + 1440)).a 34 P 0).a 35 P 0).2 5 P = S.2 5 P := by rw [sp.row 5 (by decide)]
    have z18 : (((bl3 (S.a 25 P 0) (1440 * P) (1440 * P + 1440)).a 34 P 0).a 35 P 0).2 18 P = S.2 18 P := by rw [g2, if_neg (by omega), if_neg (by omega), if_neg (by omega), if_neg (by omega)]
    have nx : ∀ k, ¬ k < ix (0 : Int32) := fun k => Nat.not_lt_zero k
    unfold LOC
    rw [z25, z34, z35, z5, z18]
    have b0 : bd 0 (99 + (j + 1)) := ⟨by decide, by rw [show (0 : Int32).toInt = 0 by decide]; omega⟩
    refine ⟨y1, by decide, b0, by decide, fun k hk => absurd hk (nx k), fun q => ⟨y2 q, fun k hk => absurd hk (nx k)⟩, fun q => ⟨⟨(y3 q).1, (y3 q).2.1⟩, fun k hk => ?_, fun cx cy h1 h2 _ => ⟨z29 _ (by omega), z30 _ (by omega), z31 _ (by omega)⟩⟩⟩
    rw [z29 k hk, z30 k hk, z31 k hk, cell_0]
    exact ⟨(y3 q).2.2 k hk, by decide, by decide, by decide⟩
  rcases wr_or cw with hk | hk
  · have tg : gtag h (A 7 P) = some (6, 16) := by rw [H1.tag t7, hk]; rfl
    refine PO_loc (r := 1) (P := P) (K' := K.i 7 P 14 0) rfl rfl rfl H p3 (h1 := gsetI h (A 7 P) 14 0) ?_ hM (H1.i t7 14 0) ⟨rfl, fun c' p' k' e1 e2 => by rw [KS.i_1, if_neg (by omega)]⟩ sp (lS _ m1 (fun _ => by rw [KS.i_1, if_pos ⟨rfl, rfl, rfl⟩]) (fun q => by rw [hk] at q; exact absurd q (by decide)))
    simp only [f_G_wipe, f1, f2, f4, g99, g77, hf, c1, iP, n5', n6, w1, w2, w5, ga, k8, c5, Option.bind_some, cond_true, reduceCtorEq, show ¬ (1 : Int32) = 0 from by decide, if_false, if_true, reduceIte, tg, show gtin (some (6, 16)) [1] = false from rfl, show gtin (some (6, 16)) [1, 6] = true from rfl, cond_false, gtx, f_Text_clear]
  · have tg : gtag h (A 7 P) = some (1, 16) := by rw [H1.tag t7, hk]; rfl
    obtain ⟨g1, g2', g3, g4, g5⟩ := gr_facts H1 H3.1 p3 hk
    have t11 := cT11g (L := L) (kd := S.2 5) p3 hk
    have q1 : f_Arrays_fill_2 n h (some (A 11 P)) 32 = some (gfil h (A 11 P) 32 0 1440) := by
      unfold f_Arrays_fill_2
      simp only [Option.bind_some, g3, show (Nat.ble 20 20 && Nat.ble 20 24) = true from rfl, cond_true]
      exact e_fill2 n h (A 11 P) 1440 1440 0 32 g3 (by omega) (by decide) (by omega) (by omega)
    have HF : Hrep (gfil h (A 11 P) 32 0 1440) A ρ (cT L a (S.2 5)) (K.g 11 P (fun k => if k < 1440 then 32 else K.1 11 P k)) := by
      refine H1.g t11 (fun _ => rfl) (fun _ _ => rfl) (fun b k hb => ?_) (fun k => ?_)
      · rw [gint_fil, if_neg (fun q => hb q.1)]
      · rw [gint_fil]
        by_cases c : k < 1440
        · rw [if_pos ⟨rfl, by omega, c⟩, if_pos c]
        · rw [if_neg (by omega), if_neg c, H1.int t11]
    have ft : ∀ b, gtag (gfil h (A 11 P) 32 0 1440) b = gtag h b := fun _ => rfl
    refine PO_loc (r := 1) (P := P) (K' := ((K.g 11 P (fun k => if k < 1440 then 32 else K.1 11 P k)).i 7 P 14 0).i 7 P 15 0) rfl rfl rfl H p3 (h1 := gsetI (gsetI (gfil h (A 11 P) 32 0 1440) (A 7 P) 14 0) (A 7 P) 15 0) ?_ hM ((HF.i t7 14 0).i t7 15 0) ⟨rfl, fun c' p' k' e1 e2 => by rw [KS.i_1, if_neg (by omega), KS.i_1, if_neg (by omega), KS.g_1, if_neg e2]⟩ sp (lS _ m1 (fun q => by rw [hk] at q; exact absurd q (by decide)) (fun _ => ⟨?_, ?_, fun k hk' => ?_⟩))
    · simp only [f_G_wipe, f1, f2, f4, g99, g77, hf, c1, iP, n5', n6, w1, w2, w5, ga, k8, c5, Option.bind_some, cond_true, reduceCtorEq, show ¬ (1 : Int32) = 0 from by decide, if_false, if_true, reduceIte, tg, ggr, show gtin (some (1, 16)) [1, 6] = true from rfl, f_Grid_clear, g2', q1, gtag_setI, ft]
    · rw [KS.i_1, if_neg (by omega), KS.i_1, if_pos ⟨rfl, rfl, rfl⟩]
    · rw [KS.i_1, if_pos ⟨rfl, rfl, rfl⟩]
    · rw [KS.i_1, if_neg (by omega), KS.i_1, if_neg (by omega), KS.g_1, if_pos ⟨rfl, rfl⟩, if_pos hk']
