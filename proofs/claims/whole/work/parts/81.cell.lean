theorem rg_w {z : Int32} {w : Nat} (hw : w < 2 ^ 31) : rgB z 0 (nI w - 1) = decide (0 ≤ z.toInt ∧ z.toInt < (w : Int)) := by
  have e : (nI w - 1).toInt = (w : Int) - 1 := nI_sub_toInt (x := w) (y := 1) hw (by omega)
  unfold rgB
  rw [e, show (0 : Int32).toInt = 0 by decide]
  by_cases c1 : 0 ≤ z.toInt
  · by_cases c2 : z.toInt < (w : Int)
    · rw [decide_eq_true c1, decide_eq_true (show z.toInt ≤ (w : Int) - 1 by omega), decide_eq_true (show 0 ≤ z.toInt ∧ z.toInt < (w : Int) from ⟨c1, c2⟩)]; rfl
    · rw [decide_eq_false (show ¬ z.toInt ≤ (w : Int) - 1 by omega), decide_eq_false (show ¬ (0 ≤ z.toInt ∧ z.toInt < (w : Int)) from fun q => c2 q.2), Bool.and_false]
  · rw [decide_eq_false c1, decide_eq_false (show ¬ (0 ≤ z.toInt ∧ z.toInt < (w : Int)) from fun q => c1 q.1), Bool.false_and]
theorem inW_n {z : Int32} {w : Nat} (h : decide (0 ≤ z.toInt ∧ z.toInt < (w : Int)) = true) : ∃ x, x < w ∧ z = nI x := by
  have h := of_decide_eq_true h
  have h1 := i32_ix h.1
  exact ⟨ix z, by omega, (ixn' h.1).symm⟩
section CEL
variable {h : gHp} {A : Nat → Nat → Nat} {ρ : Nat → Nat × Nat} {L a P w v n : Nat} {K : KS} {S : MS}
theorem has_w {kd : Nat → Int32} (H : Hrep h A ρ (cT L a kd) K) (hP : RKp K S a) (hp : pnN a P = true) (n : Nat) (s14 : S.2 14 P = nI w) (s15 : S.2 15 P = nI v) (hw : w ≤ 60) (hv : v ≤ 24) (x y : Int32) : f_Pane_has n h (A 7 P) x y = some (b32 (decide (0 ≤ x.toInt ∧ x.toInt < (w : Int)) && decide (0 ≤ y.toInt ∧ y.toInt < (v : Int))), h) := by
  rw [e_has H hP hp n x y, s14, s15]
  have z0 : (0 : Int32).toInt = 0 := by decide
  have a1 : decide (0 ≤ x.toInt ∧ x.toInt < (w : Int)) = (!decide (x < 0) && !decide (nI w ≤ x)) := by
    rw [Bool.eq_iff_iff]
    simp only [decide_eq_true_eq, Bool.and_eq_true, Bool.not_eq_true', decide_eq_false_iff_not, i32_lt, i32_le, nI_toInt (show w < 2 ^ 31 by omega), z0]
    omega
  have a2 : decide (0 ≤ y.toInt ∧ y.toInt < (v : Int)) = (!decide (y < 0) && !decide (nI v ≤ y)) := by
    rw [Bool.eq_iff_iff]
    simp only [decide_eq_true_eq, Bool.and_eq_true, Bool.not_eq_true', decide_eq_false_iff_not, i32_lt, i32_le, nI_toInt (show v < 2 ^ 31 by omega), z0]
    omega
  rw [a1, a2, Bool.and_assoc, Bool.and_assoc]
theorem size_of {j : Nat} (W : WF S a j) (hP : P ≤ 60) : ∃ w v, S.2 14 P = nI w ∧ S.2 15 P = nI v ∧ w ≤ 60 ∧ v ≤ 24 := by
  obtain ⟨z1, z2, z3, z4, z5, z6⟩ := W.2.2.2.2.2.2.2.1.2.1 P hP
  obtain ⟨w, w1, w2⟩ := bd_n (show bd (S.2 14 P) 60 from ⟨z3, by omega⟩)
  obtain ⟨v, v1, v2⟩ := bd_n (show bd (S.2 15 P) 24 from ⟨z4, by omega⟩)
  exact ⟨w, v, w2, v2, w1, v1⟩
theorem gr_of {e j : Nat} {ly : Nat → Bool} (H : Cpl h A ρ L K S a e ly j) (hp : pnN a P = true) (hk : S.2 5 P = 2) (ho : ¬ S.2 4 P = 0) : ∃ w v cx cy T, GRt K S P w v cx cy ∧ cx ≤ 99 ∧ cy ≤ 99 + j ∧ K.1 9 P 2 = nI T ∧ T ≤ 40 ∧ (∀ k, k < T → K.1 10 P k = cellv (S.2 24 (40 * P + k)) 8 0 ∧ sgn (S.2 24 (40 * P + k))) ∧ asks S P T := by
  obtain ⟨H1, H2, H3, H4, H5⟩ := H
  have hP : P ≤ 60 := by have := (pnN_le hp).2; have := H4.1.1; omega
  have hw := wr2 hk
  obtain ⟨w, v, cx, cy, g1, g2, g3⟩ := (LOC.of H3.nine H4 hp ho).grd hk H3.2.2.1 H4.2.2.2.2.2.2.2.1 hp hP
  obtain ⟨-, -, -, -, -, b23, -⟩ := H4.2.1.1 P hP
  obtain ⟨u1, u2⟩ := H3.2.2.2.2.2.1 P hp hw
  cases hl : ly P with
  | false =>
    rw [hl, cond_false] at u1
    have q0 : S.2 21 (4 * P + 1) = 0 := Classical.byContradiction fun q => by rw [(H5 P hp).mpr q] at hl; cases hl
    exact ⟨w, v, cx, cy, 0, g1, g2, g3, u1, by omega, fun k hk' => by omega, fun _ => rfl, fun q => absurd q0 q⟩
  | true =>
    rw [hl, cond_true] at u1
    have q0 := (H5 P hp).mp hl
    obtain ⟨T, hT, eT⟩ := bd_n b23
    rw [eT] at u1
    refine ⟨w, v, cx, cy, T, g1, g2, g3, u1, hT, fun k hk' => ?_, fun q => absurd q q0, fun _ => eT⟩
    have hk'' : k < ix (S.2 23 P) := by rw [eT, ixn (by omega)]; exact hk'
    exact ⟨(u2 hl).2 k hk'', H4.2.2.1.2.1 P k hP hk''⟩
/-- what stands at a place of a grid -/
theorem gr_cellAt {T cx cy x y : Nat} (H : Hrep h A ρ (cT L a (S.2 5)) K) (hS : RKs K a (S.2 5)) (hp : pnN a P = true) (hk : S.2 5 P = 2) (hP : P ≤ 60) (hX : GRt K S P w v cx cy) (hcx : cx ≤ 99) (hcy : cy < 200000) (k2 : K.1 9 P 2 = nI T) (hT : T ≤ 40) (kc : ∀ k, k < T → K.1 10 P k = cellv (S.2 24 (40 * P + k)) 8 0 ∧ sgn (S.2 24 (40 * P + k))) (hA : asks S P T) (hx : x < w) (hy : y < v) (n : Nat) : ∃ s st l, f_Grid_cellAt n h (A 7 P) (nI x) (nI y) = some (cellv s st l, h) ∧ (∀ wh, f_M_shownAt n S (nI P) (nI x) (nI y) wh = some (if wh = 0 then s else if wh = 1 then st else l, S)) ∧ bd s 127 ∧ bd st 10 ∧ bd l 999 := by
  have iP := ixn (show P < 2 ^ 31 by omega)
  have bP : inB (nI P) 61 = true := inn (by omega) (by decide)
  have x4 : (4 : Int32) * nI P + 1 = nI (4 * P + 1) := (ix4 hP (k := 1) (by decide)).1
  have x5 := (ix4 hP (k := 1) (by decide)).2.1
  have x6 := (ix4 hP (k := 1) (by decide)).2.2
  obtain ⟨f1, f2, f3, f4, f5⟩ := gr_facts H hS hp hk
  obtain ⟨l1, l2, l3, l4⟩ := ln_facts H hS hp (wr2 hk)
  obtain ⟨⟨y1, y2, y3, y4, y5, y6, y7, y8⟩, y9, y10, y11, y12⟩ := id hX
  have i14 : gint h (A 7 P) 14 = nI cx := by rw [f4, y9]
  have i15 : gint h (A 7 P) 15 = nI cy := by rw [f4, y11]
  have i92 : gint h (A 9 P) 2 = nI T := by rw [H.int (cT9 hp (wr2 hk)), k2]
  have n21 : ¬ (2 : Int32) = 1 := by decide
  have q1 := e_indexOf H hS hp hk n y1 y2 y5 y6 (show x < 2 ^ 31 by omega) (show y < 2 ^ 31 by omega)
  rw [if_pos ⟨hx, hy⟩] at q1
  have e0 : ¬ nI (60 * y + x) < 0 := nI_pos (by omega)
  have e1 : gArr (some (20, 1440)) 20 (nI (60 * y + x)) = true := gArr_n (by omega) (by decide)
  have e2 := ixn (show 60 * y + x < 2 ^ 31 by omega)
  have e3 : (1440 : Int32) * nI P + (60 : Int32) * nI y + nI x = nI (1440 * P + (60 * y + x)) := by rw [show (1440 : Int32) = nI 1440 from rfl, show (60 : Int32) = nI 60 from rfl, pk_mul, pk_mul, nI_add, nI_add, Nat.add_assoc]
  have e4 := inn (show 1440 * P + (60 * y + x) < 87840 by omega) (by decide)
  have e5 := ixn (show 1440 * P + (60 * y + x) < 2 ^ 31 by omega)
  obtain ⟨z1, z2, z3, z4⟩ := y7 (60 * y + x) (by omega)
  have eqy : nI y = nI cy ↔ y = cy := nI_eq (by omega) (by omega)
  have B : ∀ wh, f_M_shownAt_B207 n S (nI P) (nI x) (nI y) wh = some (if wh = 0 then S.2 29 (1440 * P + (60 * y + x)) else if wh = 1 then S.2 30 (1440 * P + (60 * y + x)) else S.2 31 (1440 * P + (60 * y + x)), S) := by
    intro wh
    unfold f_M_shownAt_B207
    rw [e3, e4, e5]
    simp only [cond_true]
    split
    · rfl
    · split <;> rfl
  by_cases C : y = cy ∧ cx ≤ x ∧ x - cx < T
  · obtain ⟨C1, C2, C3⟩ := C
    have sb : nI x - nI cx = nI (x - cx) := pk_sub C2
    obtain ⟨u1, u2⟩ := kc (x - cx) C3
    have e7 := e_cellOf H hS hp (wr2 hk) n k2 hT (show x - cx < 2 ^ 31 by omega)
    rw [if_pos C3, u1] at e7
    have nT : ¬ S.2 21 (4 * P + 1) = 0 := fun q => by have := hA.1 q; omega
    have s23 := hA.2 nT
    refine ⟨S.2 24 (40 * P + (x - cx)), 8, 0, ?_, fun wh => ?_, sgn_bd u2, by decide, by decide⟩
    · unfold f_Grid_cellAt
      simp only [f1, ggr, cond_true, i14, i15, if_pos (eqy.mpr C1), sb, nI_pos (show x - cx < 2 ^ 31 by omega), if_false, reduceIte, l1, Option.bind_some, l2, gtl, gtl', i92, nI_ge C3 (show T < 2 ^ 31 by omega), e7]
    · unfold f_M_shownAt
      have r1 : rgB (nI (x - cx)) 0 (nI T - 1) = true := by
        rw [rg_w (by omega), nI_toInt (by omega)]
        exact decide_eq_true (by omega)
      have e8 : (40 : Int32) * nI P + nI (x - cx) = nI (40 * P + (x - cx)) := by rw [show (40 : Int32) = nI 40 from rfl, pk_mul, nI_add]
      simp only [bP, cond_true, iP, hk, n21, if_false, reduceIte, x4, x5, x6, nT, y12, if_pos (eqy.mpr C1), y10, s23, sb, e_in, r1, b32_t, Option.bind_some, show ¬ (1 : Int32) = 0 from by decide, e8, inn (show 40 * P + (x - cx) < 2440 by omega) (by decide), ixn (show 40 * P + (x - cx) < 2 ^ 31 by omega)]
      by_cases d0 : wh = 0
      · rw [if_pos d0, if_pos d0]
      · rw [if_neg d0, if_neg d0]
        by_cases d1 : wh = 1
        · rw [if_pos d1, if_pos d1]
        · rw [if_neg d1, if_neg d1]
  · refine ⟨S.2 29 (1440 * P + (60 * y + x)), S.2 30 (1440 * P + (60 * y + x)), S.2 31 (1440 * P + (60 * y + x)), ?_, fun wh => ?_, sgn_bd z2, z3, z4⟩
    · have cell : (((bif gtis (gtag h (A 7 P)) 1 then f_Grid_indexOf n h (A 7 P) (nI x) (nI y) else none)).bind (fun q2 => (if q2.1 < (0 : Int32) then some ((32 : Int32), q2.2) else (bif gtin (gtag (q2.2) (A 7 P)) [1] then ((gref (q2.2) (A 7 P) 13).bind (fun b4 => (bif gArr (gtag (q2.2) b4) 20 (q2.1) then some (gint (q2.2) b4 (ix (q2.1)), q2.2) else none))) else none)))) = some (cellv (S.2 29 (1440 * P + (60 * y + x))) (S.2 30 (1440 * P + (60 * y + x))) (S.2 31 (1440 * P + (60 * y + x))), h) := by
        simp only [f1, ggr, ggr', cond_true, q1, Option.bind_some, e0, if_false, reduceIte, f2, f3, e1, f5, e2, z1]
      unfold f_Grid_cellAt
      rw [cell]
      simp only [f1, ggr, cond_true, i14, i15]
      by_cases c1 : y = cy
      · rw [if_pos (eqy.mpr c1)]
        by_cases c2 : cx ≤ x
        · have sb : nI x - nI cx = nI (x - cx) := pk_sub c2
          rw [sb, if_neg (nI_pos (show x - cx < 2 ^ 31 by omega)), l1, Option.bind_some, l2, gtl, cond_true, i92, if_pos (nI_le (show T ≤ x - cx by omega) (by omega))]
        · rw [if_pos (nI_sub_neg (by omega) (by omega))]
      · rw [if_neg (fun q => c1 (eqy.mp q))]
    · unfold f_M_shownAt
      simp only [bP, cond_true, iP, hk, n21, if_false, reduceIte, x4, x5, x6, y12, y10]
      by_cases c0 : S.2 21 (4 * P + 1) = 0
      · rw [if_pos c0, B wh]
      · rw [if_neg c0]
        by_cases c1 : y = cy
        · rw [if_pos (eqy.mpr c1), hA.2 c0, e_in, Option.bind_some, rg_w (by omega), nI_sub_toInt (by omega) (by omega), decide_eq_false (by omega), if_pos (show b32 false = 0 from rfl), B wh]
        · rw [if_neg (fun q => c1 (eqy.mp q)), B wh]
/-- what stands at a place of a pane that can be written to -/
theorem any_cell {e j x y : Nat} {ly : Nat → Bool} (H : Cpl h A ρ L K S a e ly j) (hj : j < 50000) (hp : pnN a P = true) (hw : wrK (S.2 5 P) = true) (ho : ¬ S.2 4 P = 0) (s14 : S.2 14 P = nI w) (s15 : S.2 15 P = nI v) (hw' : w ≤ 60) (hv' : v ≤ 24) (hx : x < w) (hy : y < v) (hn : 5000 ≤ n) : ∃ h' K' S' s st l, (bif gtin (gtag h (A 7 P)) [1] then f_Grid_cellAt n h (A 7 P) (nI x) (nI y) else (bif gtin (gtag h (A 7 P)) [6] then f_Text_cellAt n h (A 7 P) (nI x) (nI y) else none)) = some (cellv s st l, h') ∧ (∀ wh, f_M_shownAt n S (nI P) (nI x) (nI y) wh = some (if wh = 0 then s else if wh = 1 then st else l, S')) ∧ bd s 127 ∧ bd st 10 ∧ bd l 999 ∧ Hrep h' A ρ (cT L a (S.2 5)) K' ∧ KWF K K' ∧ SWF S S' := by
  obtain ⟨H1, H2, H3, H4, H5⟩ := id H
  have hP : P ≤ 60 := by have := (pnN_le hp).2; have := H4.1.1; omega
  rcases wr_or hw with hk | hk
  · obtain ⟨t, T, w0, hX, hA⟩ := tw_of H hp hk
    have tg := (tx_facts H1 H3.1 hp hk).1
    obtain ⟨h', K', S', s, st, l, q1, q2⟩ := tx_cellAt (v := v) H1 H3.1 H3.2.2.1 hp hk hP hX hA s15 hv' (show x < 100 by omega) (show y < 100 by omega) hn
    exact ⟨h', K', S', s, st, l, by rw [tg]; exact q1, q2⟩
  · obtain ⟨w0, v0, cx, cy, T, hX, c1, c2, k2, hT, kc, hA⟩ := gr_of H hp hk ho
    have tg := (gr_facts H1 H3.1 hp hk).1
    have ew : w0 = w := (nI_eq (by have := hX.1.2.2.2.2.1; omega) (by omega)).mp (by rw [← hX.1.2.2.1, s14])
    have ev : v0 = v := (nI_eq (by have := hX.1.2.2.2.2.2.1; omega) (by omega)).mp (by rw [← hX.1.2.2.2.1, s15])
    subst ew ev
    obtain ⟨s, st, l, q1, q2, q3, q4, q5⟩ := gr_cellAt H1 H3.1 hp hk hP hX c1 (by omega) k2 hT kc hA hx hy n
    exact ⟨h, K, S, s, st, l, by rw [tg]; exact q1, q2, q3, q4, q5, H1, KWF.rf, SWF.rf⟩
end CEL
theorem p_shown {n b L ax am j : Nat} {h : gHp} (hI : Iv b L ax am j h) (hn : 5000 ≤ n) (hj : j < 50000) (z1 z2 z3 z4 : Int32) : PO_shown n (Iv b L ax am (j + 1)) b L ax am h z1 z2 z3 z4 := by
  obtain ⟨A, ρ, K, S, a, e, ly, rfl, rfl, rfl, H⟩ := hI
  obtain ⟨H1, H2, H3, H4, H5⟩ := id H
  obtain ⟨f1, f2, f3, f4, f5⟩ := top_facts H1 H3.1
  have hf := e_find H1 H3.1 H3.2.1 n z1
  by_cases c1 : opB S z1 = true
  case neg => exact PO_sm (r := -1) rfl rfl rfl H (by simp [f_G_shown, f1, f2, f4, g99, g77, hf, c1]) (by show f_M_shown n S _ _ _ _ = _; simp [f_M_shown, e_isPane, c1, b32])
  obtain ⟨P, rfl, p1, p2, p3, p4⟩ := opB_nI H4.1 c1
  have iP := ixn (show P < 2 ^ 31 by omega)
  have bP : inB (nI P) 61 = true := inn (by omega) (by decide)
  have t7 : cT L a (S.2 5) 7 P = some (cTag (S.2 5 P)) := cT7 p3
  have tg := H1.tag t7
  obtain ⟨n1, n2, n3, n4, n5⟩ := no_inst H1 H4.1 p3
  have hwr : f_M_isWritable n S (nI P) = some (b32 (wrK (S.2 5 P)), S) := by rw [e_isWritable n S (nI P) bP, wrB, iP]; rfl
  obtain ⟨w, v, s14, s15, hw, hv⟩ := size_of H4 p2
  have hh := has_w H1 H3.2.2.1 p3 n s14 s15 hw hv z2 z3
  have r1 := rg_w (z := z2) (show w < 2 ^ 31 by omega)
  have r2 := rg_w (z := z3) (show v < 2 ^ 31 by omega)
  by_cases c2 : decide (0 ≤ z2.toInt ∧ z2.toInt < (w : Int)) = true
  case neg =>
    rw [Bool.not_eq_true] at c2
    rw [c2] at hh r1
    exact PO_sm (r := -1) rfl rfl rfl H (by simp [f_G_shown, f1, f2, f4, g99, g77, hf, c1, iP, tg, cTag_pane, hh, b32]) (by show f_M_shown n S _ _ _ _ = _; simp [f_M_shown, e_isPane, e_in, c1, b32, bP, iP, s14, r1])
  by_cases c3 : decide (0 ≤ z3.toInt ∧ z3.toInt < (v : Int)) = true
  case neg =>
    rw [Bool.not_eq_true] at c3
    rw [c2, c3] at hh
    rw [c2] at r1
    rw [c3] at r2
    exact PO_sm (r := -1) rfl rfl rfl H (by simp [f_G_shown, f1, f2, f4, g99, g77, hf, c1, iP, tg, cTag_pane, hh, b32]) (by show f_M_shown n S _ _ _ _ = _; simp [f_M_shown, e_isPane, e_in, c1, b32, bP, iP, s14, s15, r1, r2])
  rw [c2, c3] at hh
  rw [c2] at r1
  rw [c3] at r2
  by_cases c4 : rgB z4 0 2 = true
  case neg => exact PO_sm (r := -1) rfl rfl rfl H (by rcases rgB_f c4 with c4' | c4' <;> simp [f_G_shown, f1, f2, f4, g99, g77, hf, c1, iP, tg, cTag_pane, hh, b32, c4']) (by show f_M_shown n S _ _ _ _ = _; simp [f_M_shown, e_isPane, e_in, c1, b32, bP, iP, s14, s15, r1, r2, c4])
  have c4' := rgB_t.mp c4
  by_cases cw : wrK (S.2 5 P) = true
  case neg => exact PO_sm (r := -3) rfl rfl rfl H (by simp [f_G_shown, f1, f2, f4, g99, g77, hf, c1, iP, tg, cTag_pane, hh, b32, c4'.1, c4'.2, n5, cw]) (by show f_M_shown n S _ _ _ _ = _; simp [f_M_shown, e_isPane, e_in, c1, b32, bP, iP, s14, s15, r1, r2, c4, hwr, cw])
  have n5' : gInst h (some (A 7 P)) "GlkPanes$Writing" = some 1 := by rw [n5, cw]; rfl
  have n6 := cas_of n5'
  obtain ⟨x, hx, rfl⟩ := inW_n c2
  obtain ⟨y, hy, rfl⟩ := inW_n c3
  obtain ⟨h', K', S', s, st, l, q1, q2, q3, q4, q5, q6, q7, q8⟩ := any_cell H hj p3 cw p4 s14 s15 hw hv hx hy hn
  have o1 := e_signOf n h' q3 q4 q5
  have o2 := e_styleOf n h' q3 q4 q5
  have o3 := e_linkOf n h' q3 q4 q5
  refine PO_wf (r := if z4 = 0 then s else if z4 = 1 then st else l) (S' := S') rfl rfl rfl H (h1 := h') ?_ ?_ q6 q7 q8
  · simp only [f_G_shown, f1, f2, f4, g99, g77, hf, c1, iP, Option.bind_some, cond_true, reduceCtorEq, if_true, if_false, reduceIte, hh, Bool.and_self, b32_t, show ¬ (1 : Int32) = 0 from by decide, c4'.1, c4'.2, n5', n6, q1]
    rw [tg, cTag_pane, cond_true]
    simp only [Option.bind_some, show ¬ (1 : Int32) = 0 from by decide, if_false, reduceIte, n5', n6, cond_true, q1, o1, o2, o3]
    by_cases d0 : z4 = 0
    · rw [if_pos d0, if_pos d0]
    · rw [if_neg d0, if_neg d0]
      by_cases d1 : z4 = 1
      · rw [if_pos d1, if_pos d1]
      · rw [if_neg d1, if_neg d1]
  · show f_M_shown n S _ _ _ _ = _
    simp only [f_M_shown, e_isPane, e_in, c1, b32_t, show ¬ (1 : Int32) = 0 from by decide, bP, iP, s14, s15, r1, r2, c4, hwr, cw, q2, Option.bind_some, cond_true, if_false, reduceIte]
