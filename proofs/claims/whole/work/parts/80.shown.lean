theorem bm {x : Int} (h1 : -2147483648 ≤ x) (h2 : x < 2147483648) : x.bmod (2 ^ 32) = x := Int.bmod_eq_of_le (by omega) (by omega)
theorem nI_sub_toInt {x y : Nat} (hx : x < 2 ^ 31) (hy : y < 2 ^ 31) : (nI x - nI y).toInt = (x : Int) - (y : Int) := by
  rw [Int32.toInt_sub, nI_toInt hx, nI_toInt hy, bm (by omega) (by omega)]
theorem nI_sub_neg {x y : Nat} (h : x < y) (hy : y < 2 ^ 31) : nI x - nI y < 0 := by
  rw [i32_lt, nI_sub_toInt (by omega) hy, show (0 : Int32).toInt = 0 by decide]
  omega
section WFR
variable {K K' : KS} {S S' : MS} {a e j : Nat} {ly : Nat → Bool}
theorem RK.wf (H : RK K S a e ly) (hK : KWF K K') (hS : SWF S S') : RK K' S' a e ly := by
  obtain ⟨k2, k1⟩ := hK
  obtain ⟨s1, s2⟩ := hS
  simp only [RK, RKs, RKt, RKp, RKk, RKa, RKl, RKx, RKg, RKe, RKr, k2, k1 1 (by decide), k1 2 (by decide), k1 5 (by decide), k1 6 (by decide), k1 7 (by decide), k1 8 (by decide), k1 9 (by decide), k1 10 (by decide), k1 11 (by decide), s1 0 (by decide), s1 1 (by decide), s1 2 (by decide), s1 3 (by decide), s1 41 (by decide), s1 42 (by decide), s2 4 (by decide), s2 5 (by decide), s2 6 (by decide), s2 7 (by decide), s2 8 (by decide), s2 9 (by decide), s2 10 (by decide), s2 11 (by decide), s2 12 (by decide), s2 13 (by decide), s2 14 (by decide), s2 15 (by decide), s2 16 (by decide), s2 17 (by decide), s2 18 (by decide), s2 19 (by decide), s2 20 (by decide), s2 21 (by decide), s2 22 (by decide), s2 23 (by decide), s2 24 (by decide), s2 25 (by decide), s2 26 (by decide), s2 27 (by decide), s2 28 (by decide), s2 29 (by decide), s2 30 (by decide), s2 31 (by decide), s2 34 (by decide), s2 35 (by decide), s2 43 (by decide)] at H ⊢
  exact H
theorem WF.wf (H : WF S a j) (hS : SWF S S') : WF S' a j := by
  obtain ⟨s1, s2⟩ := hS
  have z : WFz S' a := by
    intro p hp hq
    refine ⟨fun k hk => ?_, fun k hk => ?_⟩
    · rw [s2 k (fun q => by rcases q with q | q <;> (rw [q] at hk; revert hk; decide))]; exact (H.2.2.2.2.1 p hp hq).1 k hk
    · rw [s2 21 (by decide)]; exact (H.2.2.2.2.1 p hp hq).2 k hk
  obtain ⟨w1, w2, w3, w4, w5, w6, w7, w8, w9⟩ := H
  refine ⟨?_, ?_, ?_, ?_, z, ?_, ?_, ?_, ?_⟩
  all_goals simp only [WFa, WFn, WFc, WFq, WFk, WFt, WFr, WFg, inR, s1 0 (by decide), s1 1 (by decide), s1 2 (by decide), s1 3 (by decide), s1 41 (by decide), s1 42 (by decide), s2 4 (by decide), s2 5 (by decide), s2 6 (by decide), s2 7 (by decide), s2 8 (by decide), s2 9 (by decide), s2 10 (by decide), s2 11 (by decide), s2 12 (by decide), s2 13 (by decide), s2 14 (by decide), s2 15 (by decide), s2 16 (by decide), s2 17 (by decide), s2 18 (by decide), s2 19 (by decide), s2 20 (by decide), s2 21 (by decide), s2 22 (by decide), s2 23 (by decide), s2 24 (by decide), s2 25 (by decide), s2 26 (by decide), s2 27 (by decide), s2 28 (by decide), s2 29 (by decide), s2 30 (by decide), s2 31 (by decide), s2 32 (by decide), s2 33 (by decide), s2 34 (by decide), s2 35 (by decide)]
  · exact w1
  · exact w2
  · exact w3
  · exact w4
  · exact w6
  · exact w7
  · exact w8
  · exact w9
end WFR
theorem PO_wf {b L ax am j : Nat} {h h1 : gHp} {A : Nat → Nat → Nat} {ρ : Nat → Nat × Nat} {K K' : KS} {S S' : MS} {a e : Nat} {ly : Nat → Bool} {r : Int32} {fG : Option (Int32 × gHp)} {fM : MS → Option (Int32 × MS)} (e1 : A 17 0 = b) (e2 : A 0 0 = ax) (e3 : A 15 0 = am) (H : Cpl h A ρ L K S a e ly j) (hG : fG = some (r, h1)) (hM : fM S = some (r, S')) (H1 : Hrep h1 A ρ (cT L a (S.2 5)) K') (hK : KWF K K') (hS : SWF S S') : POg (Iv b L ax am (j + 1)) b L am h fG fM := by
  obtain ⟨H1', H2, H3, H4, H5⟩ := id H
  refine PO_mk (e' := e) (ly' := ly) e1 e2 e3 H hG hM H1 hK.keep (hS.2 5 (by decide)) (H3.wf hK hS) ((H4.mono (Nat.le_succ j)).wf hS) (fun p hp => ?_)
  rw [hS.2 21 (by decide)]
  exact H5 p hp
section SHW
variable {h : gHp} {A : Nat → Nat → Nat} {ρ : Nat → Nat × Nat} {L a P t T w n : Nat} {K : KS} {S : MS}
/-- the line's length, as both see it -/
def asks (S : MS) (P T : Nat) : Prop := (S.2 21 (4 * P + 1) = 0 → T = 0) ∧ (¬ S.2 21 (4 * P + 1) = 0 → S.2 23 P = nI T)
theorem tw_of {e j : Nat} {ly : Nat → Bool} (H : Cpl h A ρ L K S a e ly j) (hp : pnN a P = true) (hk : S.2 5 P = 1) : ∃ t T w, TW K S P t T w ∧ asks S P T := by
  obtain ⟨H1, H2, H3, H4, H5⟩ := H
  have hP : P ≤ 60 := by have := (pnN_le hp).2; have := H4.1.1; omega
  have hw := wr1 hk
  obtain ⟨-, -, -, -, b25, b23, -⟩ := H4.2.1.1 P hP
  obtain ⟨t, ht, et⟩ := bd_n b25
  obtain ⟨z1, z2, z3, z4, z5, z6⟩ := H4.2.2.2.2.2.2.2.1.2.1 P hP
  have bw : bd (S.2 14 P) 60 := ⟨z3, by omega⟩
  obtain ⟨w, w1, w2⟩ := bd_n bw
  have tx : TXt K S P t := by
    refine ⟨by rw [(H3.2.2.2.1 P hp).2.2.2 hk, et], et, ht, fun k hk' => ?_⟩
    have hk'' : k < ix (S.2 25 P) := by rw [et, ixn (by omega)]; exact hk'
    exact ⟨H3.2.2.2.2.2.2.1 P hp hk k hk'', H4.2.2.1.1 P k hP hk''⟩
  obtain ⟨u1, u2⟩ := H3.2.2.2.2.2.1 P hp hw
  cases hl : ly P with
  | false =>
    rw [hl, cond_false] at u1
    have q0 : S.2 21 (4 * P + 1) = 0 := Classical.byContradiction fun q => by rw [(H5 P hp).mpr q] at hl; cases hl
    exact ⟨t, 0, w, ⟨tx, u1, by omega, fun k hk' => by omega, w2, w1⟩, fun _ => rfl, fun q => absurd q0 q⟩
  | true =>
    rw [hl, cond_true] at u1
    have q0 := (H5 P hp).mp hl
    obtain ⟨T, hT, eT⟩ := bd_n b23
    rw [eT] at u1
    refine ⟨t, T, w, ⟨tx, u1, hT, fun k hk' => ?_, w2, w1⟩, fun q => absurd q q0, fun _ => eT⟩
    have hk'' : k < ix (S.2 23 P) := by rw [eT, ixn (by omega)]; exact hk'
    exact ⟨(u2 hl).2 k hk'', H4.2.2.1.2.1 P k hP hk''⟩
theorem fold_text (H : Hrep h A ρ (cT L a (S.2 5)) K) (hS : RKs K a (S.2 5)) (hp : pnN a P = true) (hk : S.2 5 P = 1) (hP : P ≤ 60) (hX : TW K S P t T w) (hA : asks S P T) (hn : 5000 ≤ n) : ∃ h' K' S' m, f_Wrap_fold n h (A 12 P) (some (A 7 P)) (nI w) = some h' ∧ f_M_findLines n S (nI P) = some S' ∧ Hrep h' A ρ (cT L a (S.2 5)) K' ∧ WR K' S' P m (t + T) ∧ KWF K K' ∧ SWF S S' := by
  have iP := ixn (show P < 2 ^ 31 by omega)
  have bP : inB (nI P) 61 = true := inn (by omega) (by decide)
  have x4 : (4 : Int32) * nI P + 1 = nI (4 * P + 1) := (ix4 hP (k := 1) (by decide)).1
  have x5 := (ix4 hP (k := 1) (by decide)).2.1
  have x6 := (ix4 hP (k := 1) (by decide)).2.2
  obtain ⟨f0, f1, f2, f3, f4, f5, f6⟩ := wp_facts H hS hp hk
  have g1 := (tx_facts H hS hp hk).1
  have g4 := (tx_facts H hS hp hk).2.2.2.1
  obtain ⟨l1, l2, l3, l4⟩ := ln_facts H hS hp (wr1 hk)
  have H0 := H.i (cT12 hp hk) 2 0
  have k0 : KWF K (K.i 12 P 2 0) := ⟨rfl, fun c hc => by funext p k; rw [KS.i_1, if_neg (by omega)]⟩
  have s0 : SWF S (S.f 38 0) := ⟨fun k hk' => by show (if k = 38 then 0 else S.1 k) = _; rw [if_neg hk'], fun _ _ => rfl⟩
  have X0 := hX.fr k0 s0
  have R0 : WR (K.i 12 P 2 0) (S.f 38 0) P 0 (t + T) := ⟨by rw [KS.i_1, if_pos ⟨rfl, rfl, rfl⟩]; rfl, rfl, by omega, fun i hi => by omega⟩
  obtain ⟨⟨y1, y2, y3, y4⟩, y5, y6, y7, y8, y9⟩ := id hX
  have n12 : ¬ (A 7 P = A 12 P ∧ 14 = 2) := fun q => by omega
  have n9 : ¬ A 9 P = A 12 P := H.ne (cT9 hp (wr1 hk)) (cT12 hp hk) (by omega)
  have i92 : gint h (A 9 P) 2 = nI T := by rw [H.int (cT9 hp (wr1 hk)), y5]
  have len : f_Text_length n (gsetI h (A 12 P) 2 0) (A 7 P) = some (nI (t + T), gsetI h (A 12 P) 2 0) := by
    unfold f_Text_length
    simp only [gtag_setI, gref_setI, gint_setI, g1, gtx, cond_true, l1, Option.bind_some, l2, gtl, n12, n9, false_and, if_false, reduceIte, g4, y1, i92, nI_add]
  have hM : f_M_findLines n S (nI P) = (if nI (t + T) = 0 then some (S.f 38 0) else if nI w = 0 then some (S.f 38 0) else f_M_findLines_B52 n (S.f 38 0) (nI P) (nI (t + T)) 0) := by
    unfold f_M_findLines f_M_findLines_B34
    simp only [bP, cond_true, x4, x5, x6, iP, MS.f_2]
    by_cases c : S.2 21 (4 * P + 1) = 0
    · have e0 := hA.1 c
      subst e0
      simp only [c, if_true, reduceIte, y2, y8, show nI t + 0 = nI (t + 0) from nI_add t 0]
    · simp only [c, if_false, reduceIte, hA.2 c, y2, y8, nI_add]
  unfold f_Wrap_fold
  simp only [f1, gwr, cond_true, Option.bind_some, gtag_setI, g1, gtx', len]
  rw [hM]
  by_cases c1 : t + T = 0
  · rw [if_pos (show nI (t + T) = 0 by rw [c1]; rfl), if_pos (show nI (t + T) = 0 by rw [c1]; rfl)]
    exact ⟨_, _, _, 0, rfl, rfl, H0, R0, k0, s0⟩
  · have c1' : ¬ nI (t + T) = 0 := by rw [show (0 : Int32) = nI 0 from rfl, nI_eq (by omega) (by omega)]; exact c1
    rw [if_neg c1', if_neg c1']
    by_cases c2 : w = 0
    · rw [if_neg (show ¬ (0 : Int32) < nI w by rw [c2]; decide), if_pos (show nI w = 0 by rw [c2]; rfl)]
      exact ⟨_, _, _, 0, rfl, rfl, H0, R0, k0, s0⟩
    · rw [if_pos (show (0 : Int32) < nI w from nI_lt (a := 0) (by omega) (by omega)), if_neg (show ¬ nI w = 0 by rw [show (0 : Int32) = nI 0 from rfl, nI_eq (by omega) (by omega)]; exact c2)]
      obtain ⟨n', hn'⟩ : ∃ n', n = n' + 1 := ⟨n - 1, by omega⟩
      obtain ⟨h', K', S', m', q1, q2, q3, q4, q5, q6⟩ := all_lines hp hk hP (en := t + T) (by omega) rfl (by omega) (t + T) 0 0 0 n n' n' (gsetI h (A 12 P) 2 0) (K.i 12 P 2 0) (S.f 38 0) (by omega) (by omega) (by omega) (by omega) (by omega) (by omega) H0 hS X0 R0
      refine ⟨h', K', S', m', q1, ?_, q3, q4, k0.tr q5, s0.tr q6⟩
      subst hn'
      rw [f_M_findLines_B52, if_neg (show ¬ nI (t + T) < 0 from nI_pos (by omega))]
      exact q2
theorem p_lines {b L ax am j : Nat} {h : gHp} (hI : Iv b L ax am j h) (hn : 5000 ≤ n) (z1 : Int32) : PO_lines n (Iv b L ax am (j + 1)) b L ax am h z1 := by
  obtain ⟨A, ρ, K, S, a, e, ly, rfl, rfl, rfl, H⟩ := hI
  obtain ⟨H1, H2, H3, H4, H5⟩ := id H
  obtain ⟨f1, f2, f3, f4, f5⟩ := top_facts H1 H3.1
  have hf := e_find H1 H3.1 H3.2.1 n z1
  by_cases c1 : opB S z1 = true
  case neg => exact PO_sm (r := -1) rfl rfl rfl H (by simp [f_G_lines, f1, f2, f4, g99, g77, hf, c1]) (by show f_M_lines n S _ = _; simp [f_M_lines, e_isPane, c1, b32])
  obtain ⟨P, rfl, p1, p2, p3, p4⟩ := opB_nI H4.1 c1
  have iP := ixn (show P < 2 ^ 31 by omega)
  have bP : inB (nI P) 61 = true := inn (by omega) (by decide)
  obtain ⟨n1, n2, n3, n4, n5⟩ := no_inst H1 H4.1 p3
  by_cases hk : S.2 5 P = 1
  case neg => exact PO_sm (r := -3) rfl rfl rfl H (by simp [f_G_lines, f1, f2, f4, g99, g77, hf, c1, iP, n2, hk, b32]) (by show f_M_lines n S _ = _; simp [f_M_lines, e_isPane, c1, b32, bP, iP, hk])
  obtain ⟨t, T, w, hX, hA⟩ := tw_of H p3 hk
  obtain ⟨h', K', S', m, q1, q2, q3, q4, q5, q6⟩ := fold_text H1 H3.1 p3 hk p2 hX hA hn
  obtain ⟨g0, g1, g2, g3, g4, g5, g6⟩ := wp_facts H1 H3.1 p3 hk
  have hS' : RKs K' a (S.2 5) := H3.1.eq q5.1
  obtain ⟨g0', g1', -, -, -, -, g6'⟩ := wp_facts q3 hS' p3 hk
  have tg := (tx_facts H1 H3.1 p3 hk).1
  have tg' := (tx_facts q3 hS' p3 hk).1
  have k5 : gint h (A 7 P) 5 = nI w := by rw [(pane_ints H1 H3.2.2.1 p3).2.2.2.2.1, hX.2.2.2.2.1]
  have n2' : gInst h (some (A 7 P)) "GlkPanes$Text" = some 1 := by rw [n2, hk]; rfl
  have n6 := cas_of n2'
  refine PO_wf (r := nI m) (S' := S') rfl rfl rfl H (h1 := h') ?_ ?_ q3 q5 q6
  · simp only [f_G_lines, f1, f2, f4, g99, g77, hf, c1, iP, n2', n6, tg, gtx, gtx', Option.bind_some, cond_true, reduceCtorEq, show ¬ (1 : Int32) = 0 from by decide, if_false, if_true, reduceIte, f_Text_countLines, g0, g1, gwr, gwr', k5, q1, tg', g0', g1', g6', q4.1]
  · show f_M_lines n S _ = _
    simp only [f_M_lines, e_isPane, c1, b32_t, bP, iP, hk, Option.bind_some, cond_true, show ¬ (1 : Int32) = 0 from by decide, if_false, if_true, reduceIte, q2, q4.2.1]
theorem sb_le : ∀ v, v < 25 → ∀ m, m < 25 → m ≤ v → ¬ (0 : Int32) < nI m - nI v := by decide
/-- what stands at a place of a text -/
theorem tx_cellAt {v x y : Nat} (H : Hrep h A ρ (cT L a (S.2 5)) K) (hS : RKs K a (S.2 5)) (hR : RKp K S a) (hp : pnN a P = true) (hk : S.2 5 P = 1) (hP : P ≤ 60) (hX : TW K S P t T w) (hA : asks S P T) (hv : S.2 15 P = nI v) (hv' : v ≤ 24) (hx : x < 100) (hy : y < 100) (hn : 5000 ≤ n) : ∃ h' K' S' s st l, f_Text_cellAt n h (A 7 P) (nI x) (nI y) = some (cellv s st l, h') ∧ (∀ wh, f_M_shownAt n S (nI P) (nI x) (nI y) wh = some (if wh = 0 then s else if wh = 1 then st else l, S')) ∧ bd s 127 ∧ bd st 10 ∧ bd l 999 ∧ Hrep h' A ρ (cT L a (S.2 5)) K' ∧ KWF K K' ∧ SWF S S' := by
  have iP := ixn (show P < 2 ^ 31 by omega)
  have bP : inB (nI P) 61 = true := inn (by omega) (by decide)
  obtain ⟨h', K', S', m, q1, q2, q3, q4, q5, q6⟩ := fold_text H hS hp hk hP hX hA hn
  obtain ⟨g0, g1, g2, g3, g4, g5, g6⟩ := wp_facts H hS hp hk
  have hS' : RKs K' a (S.2 5) := hS.eq q5.1
  obtain ⟨e0, e1, e2, e3, e4, e5, e6⟩ := wp_facts q3 hS' hp hk
  have tg := (tx_facts H hS hp hk).1
  have tg' := (tx_facts q3 hS' hp hk).1
  have k5 : gint h (A 7 P) 5 = nI w := by rw [(pane_ints H hR hp).2.2.2.2.1, hX.2.2.2.2.1]
  have k6 : gint h' (A 7 P) 6 = nI v := by rw [q3.int (cT7 hp), q5.2 7 (by decide), (hR P hp).2.2.2.2.2.1, hv]
  obtain ⟨m1, m2, m3, m4⟩ := q4
  have X' := hX.fr q5 q6
  have s15 : S'.2 15 P = nI v := by rw [q6.2 15 (by decide), hv]
  have s25 : S'.2 25 P = nI t := X'.1.2.1
  -- the line's number
  obtain ⟨l, hl, c1, c2⟩ : ∃ l, l < 1000 ∧ (if (0 : Int32) < nI m - nI v then nI m - nI v else 0) + nI y = nI l ∧ ∀ xx, (if nI m ≤ nI v then f_M_standing_B35 n S' xx (nI y) else f_M_standing_B35 n S' xx (nI m - nI v + nI y)) = f_M_standing_B35 n S' xx (nI l) := by
    by_cases c : m ≤ v
    · refine ⟨y, by omega, ?_, fun xx => ?_⟩
      · rw [if_neg (sb_le v (by omega) m (by omega) c), show (0 : Int32) = nI 0 from rfl, nI_add, Nat.zero_add]
      · rw [if_pos (nI_le c (by omega))]
    · have sb : nI m - nI v = nI (m - v) := pk_sub (by omega)
      refine ⟨m - v + y, by omega, ?_, fun xx => ?_⟩
      · rw [sb, if_pos (show (0 : Int32) < nI (m - v) from nI_lt (a := 0) (by omega) (by omega)), nI_add]
      · rw [if_neg (nI_ge (by omega) (by omega)), sb, nI_add]
  have hG : f_Text_cellAt n h (A 7 P) (nI x) (nI y) = (f_Wrap_signIndex n h' (A 12 P) (nI l) (nI x)).bind (fun q5 => (if q5.1 < (0 : Int32) then some ((32 : Int32), q5.2) else (((bif gtis (gtag (q5.2) (A 7 P)) 6 then f_Text_cellOf n (q5.2) (A 7 P) (q5.1) else none)).bind (fun q7 => some (q7.1, q7.2))))) := by
    unfold f_Text_cellAt
    simp only [tg, gtx, gtx', cond_true, g0, Option.bind_some, g1, gwr, gwr', k5, q1, tg', e0, e1, e6, m1, k6, c1]
  have hM : ∀ wh, f_M_shownAt n S (nI P) (nI x) (nI y) wh = (f_M_standing_B35 n S' (nI x) (nI l)).bind (fun q2 => (if (0 : Int32) ≤ q2.1 then (bif inB (nI P) 61 then (if ((q2.2).2 25 P) ≤ q2.1 then f_M_shownAt_B52  n (q2.2) (nI P) (wh) (q2.1) ((0 : Int32)) else f_M_shownAt_B52  n (q2.2) (nI P) (wh) (q2.1) ((1 : Int32))) else none) else (if wh = (0 : Int32) then some ((32 : Int32), q2.2) else some ((0 : Int32), q2.2)))) := by
    intro wh
    unfold f_M_shownAt f_M_standing
    simp only [bP, cond_true, iP, hk, if_true, reduceIte, q2, Option.bind_some, m2, s15, c2]
  by_cases c3 : m ≤ l
  · refine ⟨h', K', S', 32, 0, 0, ?_, fun wh => ?_, by decide, by decide, by decide, q3, q5, q6⟩
    · rw [hG, cell_0]
      unfold f_Wrap_signIndex
      rw [if_neg (nI_pos (show l < 2 ^ 31 by omega)), e1, gwr, cond_true, e6, m1, if_pos (nI_le c3 (by omega)), Option.bind_some]
      rfl
    · rw [hM wh]
      unfold f_M_standing_B35
      rw [m2, if_pos (nI_le c3 (by omega)), Option.bind_some, if_neg (show ¬ (0 : Int32) ≤ -2 by decide)]
      split <;> simp
  · obtain ⟨f, s, y1, y2, y3, y4, y5⟩ := m4 l (by omega)
    have hE : t + T ≤ 440 := by have := hX.1.2.2.1; have := hX.2.2.1; omega
    have i13 : gint h' (A 13 P) l = nI f := by rw [q3.int (cT13 hp hk), y1]
    have i14 : gint h' (A 14 P) l = nI (f + s) := by rw [q3.int (cT14 hp hk), y2]
    have ga : gArr (some (20, 441)) 20 (nI l) = true := gArr_n (by omega) (by decide)
    have il := ixn (show l < 2 ^ 31 by omega)
    have bl := inn (show l < 900 by omega) (by decide)
    have sI : f_Wrap_signIndex n h' (A 12 P) (nI l) (nI x) = some (if s ≤ x then -1 else nI (f + x), h') := by
      unfold f_Wrap_signIndex
      have lt : nI l < Int32.ofNat 441 := nI_lt (a := l) (b := 441) (by omega) (by decide)
      rw [if_neg (nI_pos (show l < 2 ^ 31 by omega)), e1, gwr, cond_true, e6, m1, if_neg (nI_ge (by omega) (by omega))]
      simp only [e1, gwr, cond_true, e2, e3, Option.bind_some, e4, e5, blk20 441, lt, if_true, reduceIte, ga, il, i13, i14, nI_add]
      by_cases c : s ≤ x
      · rw [if_pos (nI_le (by omega) (by omega)), if_pos c]
      · rw [if_neg (nI_ge (by omega) (by omega)), if_neg c]
    have st : f_M_standing_B35 n S' (nI x) (nI l) = some (if s ≤ x then -2 else nI (f + x), S') := by
      unfold f_M_standing_B35
      rw [m2, if_neg (nI_ge (by omega) (by omega)), bl, cond_true, cond_true, il, y3, y4]
      by_cases c : s ≤ x
      · rw [if_pos (nI_le c (by omega)), if_pos c]
      · rw [if_neg (nI_ge (by omega) (by omega)), if_neg c, nI_add]
    by_cases c4 : s ≤ x
    · rw [if_pos c4] at sI st
      refine ⟨h', K', S', 32, 0, 0, ?_, fun wh => ?_, by decide, by decide, by decide, q3, q5, q6⟩
      · rw [hG, cell_0, sI, Option.bind_some]
        rfl
      · rw [hM wh, st, Option.bind_some, if_neg (show ¬ (0 : Int32) ≤ -2 by decide)]
        split <;> simp
    · rw [if_neg c4] at sI st
      obtain ⟨z1, z2, z3, z4⟩ := e_tcell q3 hS' hp hk X' n (show f + x < t + T by omega)
      have z5 := e_tsign (S := S') hP s25 X'.1.2.2.1 X'.2.2.1 n (show f + x < t + T by omega)
      refine ⟨h', K', S', sg S' P t (f + x), stl S' P t (f + x), lnk S' P t (f + x), ?_, fun wh => ?_, okc_bd z2, z3, z4, q3, q5, q6⟩
      · rw [hG, sI, Option.bind_some, if_neg (show ¬ nI (f + x) < 0 from nI_pos (by omega)), tg', gtx', cond_true, z1, Option.bind_some]
      · rw [hM wh, st, Option.bind_some, if_pos (show (0 : Int32) ≤ nI (f + x) from nI_le (a := 0) (by omega) (by omega)), bP, cond_true, s25]
        have ht4 := hX.1.2.2.1
        have e7 : (400 : Int32) * nI P + nI (f + x) = nI (400 * P + (f + x)) := by rw [show (400 : Int32) = nI 400 from rfl, pk_mul, nI_add]
        unfold f_M_shownAt_B52 stl lnk
        rw [z5]
        by_cases c5 : f + x < t
        · rw [if_neg (nI_ge c5 (by omega)), if_pos c5, if_pos c5, e7, inn (show 400 * P + (f + x) < 24400 by omega) (by decide), ixn (show 400 * P + (f + x) < 2 ^ 31 by omega)]
          simp only [cond_true, show ¬ (1 : Int32) = 0 from by decide, if_false, reduceIte, Option.bind_some]
          by_cases d0 : wh = 0
          · rw [if_pos d0, if_pos d0]
          · rw [if_neg d0, if_neg d0]
            by_cases d1 : wh = 1
            · rw [if_pos d1, if_pos d1]
            · rw [if_neg d1, if_neg d1]
        · rw [if_pos (nI_le (by omega) (by omega)), if_neg c5, if_neg c5]
          simp only [if_true, reduceIte, Option.bind_some]
          by_cases d0 : wh = 0
          · rw [if_pos d0, if_pos d0]
          · rw [if_neg d0, if_neg d0]
            by_cases d1 : wh = 1
            · rw [if_pos d1, if_pos d1]
            · rw [if_neg d1, if_neg d1]
end SHW
