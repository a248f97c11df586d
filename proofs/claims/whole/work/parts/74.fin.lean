/-! ===== a line ends: it is put to the pane ===== -/
section FIN
variable {A : Nat → Nat → Nat} {ρ : Nat → Nat × Nat} {L a P T : Nat} {kd σ : Nat → Int32}
theorem RKs.eq {K K' : KS} (H : RKs K a kd) (h : K'.2 = K.2) : RKs K' a kd := by unfold RKs at H ⊢; rw [h]; exact H
theorem pl_text (hp : pnN a P = true) (hk : kd P = 1) (hP : P ≤ 60) (hT : T ≤ 40) (hσ : ∀ k, k < T → sgn (σ k)) : ∀ (d i : Nat) (h : gHp) (K : KS) (S : MS) (t n n' : Nat), i + d = T → d + 2001 < n → d + 2001 < n' → Hrep h A ρ (cT L a kd) K → RKs K a kd → TXt K S P t → K.1 9 P 2 = nI T → (∀ k, k < T → K.1 10 P k = cellv (σ k) 8 0) → S.2 23 P = nI T → S.2 5 P = 1 → (∀ k, k < T → S.2 24 (40 * P + k) = σ k) → ∃ h' K' S' t', f_Text_putLine_B2 (A 7 P) n h (nI i) = some h' ∧ f_M_echoLine_B29 n' S (nI P) (nI i) = some S' ∧ Hrep h' A ρ (cT L a kd) K' ∧ TXt K' S' P t' ∧ KXF K K' P ∧ SXF S S' P := by
  have iP := ixn (show P < 2 ^ 31 by omega)
  have bP : inB (nI P) 61 = true := inn (by omega) (by decide)
  have hw := wr1 hk
  intro d
  induction d with
  | zero =>
    intro i h K S t n n' h1 h2 h3 H hS hX k2 kc s23 s5 s24
    have e : i = T := by omega
    subst e
    cases n with
    | zero => omega
    | succ n =>
    cases n' with
    | zero => omega
    | succ n' =>
    obtain ⟨f1, f2, f3, f4, f5⟩ := tx_facts H hS hp hk
    obtain ⟨l1, l2, l3, l4⟩ := ln_facts H hS hp hw
    have i2 : gint h (A 9 P) 2 = nI i := by rw [H.int (cT9 hp hw), k2]
    obtain ⟨h', K', S', t', q1, q2, q3, q4, q5, q6⟩ := put_text H hS hp hk hP hX (c := 10) (s := 8) (l := 0) (Or.inl rfl) (by decide) (by decide) (n := n) (n' := n') (by omega) (by omega)
    refine ⟨h', K', S', t', ?_, ?_, q3, q4, q5, q6⟩
    · rw [f_Text_putLine_B2]
      simp only [f1, gtx, gtx', cond_true, l1, Option.bind_some, l2, gtl, i2, if_pos (nI_le (Nat.le_refl i) (show i < 2 ^ 31 by omega)), e_cell, q1]
    · rw [f_M_echoLine_B29]
      simp only [bP, cond_true, iP, s23, if_pos (nI_le (Nat.le_refl i) (show i < 2 ^ 31 by omega)), s5, if_true, reduceIte, q2, Option.bind_some]
  | succ d ih =>
    intro i h K S t n n' h1 h2 h3 H hS hX k2 kc s23 s5 s24
    cases n with
    | zero => omega
    | succ n =>
    cases n' with
    | zero => omega
    | succ n' =>
    obtain ⟨f1, f2, f3, f4, f5⟩ := tx_facts H hS hp hk
    obtain ⟨l1, l2, l3, l4⟩ := ln_facts H hS hp hw
    have i2 : gint h (A 9 P) 2 = nI T := by rw [H.int (cT9 hp hw), k2]
    have e1 : ¬ nI T ≤ nI i := nI_ge (by omega) (by omega)
    have e5 := e_cellOf H hS hp hw n k2 hT (show i < 2 ^ 31 by omega)
    rw [if_pos (by omega), kc i (by omega)] at e5
    have e7 : (40 : Int32) * nI P + nI i = nI (40 * P + i) := by rw [show (40 : Int32) = nI 40 from rfl, pk_mul, nI_add]
    have e8 := inn (show 40 * P + i < 2440 by omega) (by decide)
    have e9 := ixn (show 40 * P + i < 2 ^ 31 by omega)
    obtain ⟨h1', K1, S1, t1, q1, q2, q3, q4, q5, q6⟩ := put_text H hS hp hk hP hX (c := σ i) (s := 8) (l := 0) (Or.inr (hσ i (by omega))) (by decide) (by decide) (n := n) (n' := n') (by omega) (by omega)
    obtain ⟨h', K', S', t', r1, r2, r3, r4, r5, r6⟩ := ih (i + 1) h1' K1 S1 t1 n n' (by omega) (by omega) (by omega) q3 (hS.eq q5.1) q4 (by rw [q5.2 9 P 2 (by omega) (by omega), k2]) (fun k hk' => by rw [q5.2 10 P k (by omega) (by omega), kc k hk']) (by rw [q6.2 23 P (by omega) (by omega), s23]) (by rw [q6.2 5 P (by omega) (by omega), s5]) (fun k hk' => by rw [q6.2 24 _ (by omega) (by omega), s24 k hk'])
    refine ⟨h', K', S', t', ?_, ?_, r3, r4, q5.tr r5, q6.tr r6⟩
    · rw [f_Text_putLine_B2]
      simp only [f1, gtx, gtx', cond_true, l1, Option.bind_some, l2, gtl, gtl', i2, e1, if_false, reduceIte, e5, q1, nI_1, r1]
    · rw [f_M_echoLine_B29]
      simp only [bP, cond_true, iP, s23, e1, if_false, reduceIte, e7, e8, e9, s5, if_true, s24 i (show i < T by omega), q2, Option.bind_some, nI_1, r2]
theorem pl_grid {w v cx cy : Nat} (hp : pnN a P = true) (hk : kd P = 2) (hP : P ≤ 60) (hT : T ≤ 40) (hσ : ∀ k, k < T → sgn (σ k)) (hx : cx ≤ 99) (hy : cy < 200000) : ∀ (d i : Nat) (h : gHp) (K : KS) (S : MS) (n n' : Nat), i + d = T → d < n → d < n' → Hrep h A ρ (cT L a kd) K → RKs K a kd → GRt K S P w v cx cy → K.1 9 P 2 = nI T → (∀ k, k < T → K.1 10 P k = cellv (σ k) 8 0) → S.2 23 P = nI T → S.2 5 P = 2 → (∀ k, k < T → S.2 24 (40 * P + k) = σ k) → ∃ h' K' S', f_Grid_putLine_B2 (A 7 P) n h (nI i) = some h' ∧ f_M_echoLine_B29 n' S (nI P) (nI i) = some S' ∧ Hrep h' A ρ (cT L a kd) K' ∧ GRt K' S' P w v 0 (cy + 1) ∧ KGF K K' P ∧ SGF S S' P := by
  have iP := ixn (show P < 2 ^ 31 by omega)
  have bP : inB (nI P) 61 = true := inn (by omega) (by decide)
  have hw := wr2 hk
  have n21 : ¬ (2 : Int32) = 1 := by decide
  intro d
  induction d with
  | zero =>
    intro i h K S n n' h1 h2 h3 H hS hX k2 kc s23 s5 s24
    have e : i = T := by omega
    subst e
    cases n with
    | zero => omega
    | succ n =>
    cases n' with
    | zero => omega
    | succ n' =>
    obtain ⟨f1, f2, f3, f4, f5⟩ := gr_facts H hS hp hk
    obtain ⟨l1, l2, l3, l4⟩ := ln_facts H hS hp hw
    have i2 : gint h (A 9 P) 2 = nI i := by rw [H.int (cT9 hp hw), k2]
    obtain ⟨h', K', S', q1, q2, q3, q4, q5, q6⟩ := nx_row H hS hp hk hP hX n n'
    refine ⟨h', K', S', ?_, ?_, q3, q4, q5, q6⟩
    · rw [f_Grid_putLine_B2]
      simp only [f1, ggr, ggr', cond_true, l1, Option.bind_some, l2, gtl, i2, if_pos (nI_le (Nat.le_refl i) (show i < 2 ^ 31 by omega)), q1]
    · rw [f_M_echoLine_B29]
      simp only [bP, cond_true, iP, s23, if_pos (nI_le (Nat.le_refl i) (show i < 2 ^ 31 by omega)), s5, n21, if_false, reduceIte, q2, Option.bind_some]
  | succ d ih =>
    intro i h K S n n' h1 h2 h3 H hS hX k2 kc s23 s5 s24
    cases n with
    | zero => omega
    | succ n =>
    cases n' with
    | zero => omega
    | succ n' =>
    obtain ⟨f1, f2, f3, f4, f5⟩ := gr_facts H hS hp hk
    obtain ⟨l1, l2, l3, l4⟩ := ln_facts H hS hp hw
    have i2 : gint h (A 9 P) 2 = nI T := by rw [H.int (cT9 hp hw), k2]
    have i14 : gint h (A 7 P) 14 = nI cx := by rw [f4, hX.2.1]
    have i15 : gint h (A 7 P) 15 = nI cy := by rw [f4, hX.2.2.2.1]
    have e1 : ¬ nI T ≤ nI i := nI_ge (by omega) (by omega)
    have e5 := e_cellOf H hS hp hw n k2 hT (show i < 2 ^ 31 by omega)
    rw [if_pos (by omega), kc i (by omega)] at e5
    have e7 : (40 : Int32) * nI P + nI i = nI (40 * P + i) := by rw [show (40 : Int32) = nI 40 from rfl, pk_mul, nI_add]
    have e8 := inn (show 40 * P + i < 2440 by omega) (by decide)
    have e9 := ixn (show 40 * P + i < 2 ^ 31 by omega)
    obtain ⟨h1', K1, S1, q1, q2, q3, q4, q5, q6⟩ := wr_cell H hS hp hk hP hX (show cx + i < 2 ^ 31 by omega) (show cy < 2 ^ 31 by omega) (hσ i (by omega)) (s := 8) (l := 0) (by decide) (by decide) n n'
    obtain ⟨h', K', S', r1, r2, r3, r4, r5, r6⟩ := ih (i + 1) h1' K1 S1 n n' (by omega) (by omega) (by omega) q3 (hS.eq q5.1) q4 (by rw [q5.2 9 P 2 (by omega) (by omega), k2]) (fun k hk' => by rw [q5.2 10 P k (by omega) (by omega), kc k hk']) (by rw [q6.2 23 P (by omega) (by omega), s23]) (by rw [q6.2 5 P (by omega) (by omega), s5]) (fun k hk' => by rw [q6.2 24 _ (by omega) (by omega), s24 k hk'])
    refine ⟨h', K', S', ?_, ?_, r3, r4, q5.tr r5, q6.tr r6⟩
    · rw [f_Grid_putLine_B2]
      simp only [f1, ggr, ggr', cond_true, l1, Option.bind_some, l2, gtl, gtl', i2, e1, if_false, reduceIte, e5, i14, i15, nI_add, q1, nI_1, r1]
    · rw [f_M_echoLine_B29]
      simp only [bP, cond_true, iP, s23, e1, if_false, reduceIte, e7, e8, e9, s5, n21, s24 i (show i < T by omega), hX.2.2.1, hX.2.2.2.2, nI_add, q2, Option.bind_some, nI_1, r2]
end FIN
/-- no line any more -/
theorem RK9.endl {K : KS} {S : MS} {a P : Nat} {ly : Nat → Bool} (H : RK9 K S a ly) : RK9 ((K.i 9 P 1 0).i 9 P 2 0) S a (fun p => ly p && !decide (p = P)) := by
  refine ⟨H.1, H.2.1, H.2.2.1, H.2.2.2.1, H.2.2.2.2.1, fun p hp hw => ?_, H.2.2.2.2.2.2.1, H.2.2.2.2.2.2.2.1, H.2.2.2.2.2.2.2.2⟩
  obtain ⟨u1, u2⟩ := H.2.2.2.2.2.1 p hp hw
  by_cases e : p = P
  · subst e
    refine ⟨?_, fun q => by simp at q⟩
    rw [KS.i_1, if_pos ⟨rfl, rfl, rfl⟩]
    simp
  · refine ⟨?_, fun q => ?_⟩
    · rw [KS.i_1, if_neg (by omega), KS.i_1, if_neg (by omega), u1]
      simp [e]
    · have q' : ly p = true := by simpa [e] using q
      rw [KS.i_1, if_neg (by omega), KS.i_1, if_neg (by omega)]
      exact u2 q'
section FIN2
variable {h : gHp} {A : Nat → Nat → Nat} {ρ : Nat → Nat × Nat} {L a P j n : Nat} {K : KS} {S : MS} {ly : Nat → Bool}
theorem wr_or {k : Int32} (h : wrK k = true) : k = 1 ∨ k = 2 := by
  simpa [wrK] using h
/-- the line ends -/
theorem fin_line (H : Hrep h A ρ (cT L a (S.2 5)) K) (R : RK9 K S a ly) (W : WF S a j) (hj : j < 50000) (hp : pnN a P = true) (hw : wrK (S.2 5 P) = true) (ho : ¬ S.2 4 P = 0) (hl : ly P = true) (hn : 5000 ≤ n) : ∃ h' K' S', f_Writing_finishLine n h (A 7 P) = some h' ∧ f_M_echoLine n S (nI P) = some S' ∧ Hrep h' A ρ (cT L a (S.2 5)) K' ∧ KEEP K K' ∧ (K'.1 2 = K.1 2 ∧ K'.1 5 = K.1 5 ∧ K'.1 6 = K.1 6) ∧ RK9 K' S' a (fun p => ly p && !decide (p = P)) ∧ WF S' a (j + 1) ∧ SPF S S' P := by
  have hP : P ≤ 60 := by have := (pnN_le hp).2; have := W.1.1; omega
  have iP := ixn (show P < 2 ^ 31 by omega)
  have bP : inB (nI P) 61 = true := inn (by omega) (by decide)
  have t7 := cT7 (L := L) (kd := S.2 5) hp
  have t9 := cT9 (L := L) (kd := S.2 5) hp hw
  obtain ⟨w1, w2, w3, w4, w5, w6, w7, w8⟩ := wr_facts H R.1 hp hw
  obtain ⟨-, -, -, -, -, -, -, -, k9, k10⟩ := pane_ints H R.2.2.1 hp
  obtain ⟨-, -, -, -, -, b23, -⟩ := W.2.1.1 P hP
  obtain ⟨T, hT, eT⟩ := bd_n b23
  obtain ⟨u1, u2⟩ := R.2.2.2.2.2.1 P hp hw
  rw [hl, cond_true, eT] at u1
  have u3 := (u2 hl).2
  rw [eT, ixn (by omega)] at u3
  have hσ : ∀ k, k < T → sgn (S.2 24 (40 * P + k)) := fun k hk => W.2.2.1.2.1 P k hP (by rw [eT, ixn (by omega)]; exact hk)
  have lc := LOC.of R W hp ho
  by_cases c : S.2 19 P = 0
  · rw [if_pos c] at k10
    -- what is put, and then the written ones
    have fin : ∀ (h1 : gHp) (K1 : KS) (S1 : MS), (bif gtin (gtag h (A 7 P)) [1] then f_Grid_putLine n h (A 7 P) else (bif gtin (gtag h (A 7 P)) [6] then f_Text_putLine n h (A 7 P) else none)) = some h1 → f_M_echoLine_B29 n (S.a 18 P (S.2 18 P + (nI T + 1))) (nI P) 0 = some S1 → Hrep h1 A ρ (cT L a (S.2 5)) K1 → KPF K K1 P → K1.1 7 P 9 = S.2 18 P → S1.2 18 P = S.2 18 P + (nI T + 1) → SPF (S.a 18 P (S.2 18 P + (nI T + 1))) S1 P → (K1.1 9 P 2 = nI T) → LOC (K1.i 7 P 9 (S.2 18 P + (nI T + 1))) S1 P (j + 1) → ∃ h' K' S', f_Writing_finishLine n h (A 7 P) = some h' ∧ f_M_echoLine n S (nI P) = some S' ∧ Hrep h' A ρ (cT L a (S.2 5)) K' ∧ KEEP K K' ∧ (K'.1 2 = K.1 2 ∧ K'.1 5 = K.1 5 ∧ K'.1 6 = K.1 6) ∧ RK9 K' S' a (fun p => ly p && !decide (p = P)) ∧ WF S' a (j + 1) ∧ SPF S S' P := by
      intro h1 K1 S1 g1 g2 g3 g4 g5 g6 g7 g8 g9
      have hS1 : RKs K1 a (S.2 5) := R.1.eq g4.1
      obtain ⟨v1, v2, v3, v4, v5, v6, v7, v8⟩ := wr_facts g3 hS1 hp hw
      have j9 : gint h1 (A 7 P) 9 = S.2 18 P := by rw [g3.int t7, g5]
      have j2 : gint h1 (A 9 P) 2 = nI T := by rw [g3.int t9, g8]
      have sp : SPF S S1 P := SPF.tr (show SPF S (S.a 18 P (S.2 18 P + (nI T + 1))) P from ⟨rfl, fun k q e1 e2 e3 => by rw [MS.a_2, if_neg (by omega)]⟩) g7
      have kp : KPF K (K1.i 7 P 9 (S.2 18 P + (nI T + 1))) P := g4.tr ⟨rfl, fun c' p' k' e1 e2 => by rw [KS.i_1, if_neg (by omega)]⟩
      have r9 := (R.loc W hp kp sp g9).endl (P := P)
      refine ⟨gsetI (gsetI (gsetI h1 (A 7 P) 9 (S.2 18 P + (nI T + 1))) (A 9 P) 1 0) (A 9 P) 2 0, _, S1, ?_, ?_, ((g3.i t7 9 _).i t9 1 0).i t9 2 0, kp.keep.tr ⟨rfl, rfl, rfl, rfl⟩, ⟨kp.cls 2 (by decide), kp.cls 5 (by decide), kp.cls 6 (by decide)⟩, r9, W.loc hp sp g9 (by omega), sp⟩
      · unfold f_Writing_finishLine
        simp only [w1, cond_true, k10, show ¬ (1 : Int32) = 0 from by decide, if_false, reduceIte, g1, Option.bind_some, v1, v3, v6, gtl, gtl', gtag_setI, gref_setI, j9, j2, f_Line_begin]
      · unfold f_M_echoLine
        simp only [bP, cond_true, iP, c, if_true, reduceIte, eT, g2]
    rcases wr_or hw with hk | hk
    · obtain ⟨t, hX⟩ := lc.txt hk
      have tg : gtag h (A 7 P) = some (6, 16) := by rw [H.tag t7, hk]; rfl
      obtain ⟨h1, K1, S1, t1, q1, q2, q3, q4, q5, q6⟩ := pl_text (σ := fun k => S.2 24 (40 * P + k)) hp hk hP hT hσ T 0 h K (S.a 18 P (S.2 18 P + (nI T + 1))) t n n (by omega) (by omega) (by omega) H R.1 hX u1 u3 eT hk (fun _ _ => rfl)
      have s18 : S1.2 18 P = S.2 18 P + (nI T + 1) := by rw [q6.2 18 P (by omega) (by omega), MS.a_2, if_pos ⟨rfl, rfl⟩]
      have k9' : K1.1 7 P 9 = S.2 18 P := by rw [q5.2 7 P 9 (by omega) (by omega)]; exact lc.1
      refine fin h1 K1 S1 ?_ q2 q3 q5.p k9' s18 q6.p (by rw [q5.2 9 P 2 (by omega) (by omega), u1]) ?_
      · rw [tg]; exact q1
      · have lc1 : LOC (K.i 7 P 9 (S.2 18 P + (nI T + 1))) (S.a 18 P (S.2 18 P + (nI T + 1))) P (j + 1) := by
          obtain ⟨m1, m2, m3, m4, m5, m6, m7⟩ := lc
          refine ⟨?_, m2, ⟨m3.1, Int.le_trans m3.2 (by omega)⟩, m4, m5, m6, m7⟩
          rw [KS.i_1, if_pos ⟨rfl, rfl, rfl⟩, MS.a_2, if_pos ⟨rfl, rfl⟩]
        exact lc1.text hk q4 q6 (by rw [s18, KS.i_1, if_pos ⟨rfl, rfl, rfl⟩])
    · obtain ⟨w, v, cx, cy, hX, hx, hy⟩ := lc.grd hk R.2.2.1 W.2.2.2.2.2.2.2.1 hp hP
      have tg : gtag h (A 7 P) = some (1, 16) := by rw [H.tag t7, hk]; rfl
      obtain ⟨h1, K1, S1, q1, q2, q3, q4, q5, q6⟩ := pl_grid (σ := fun k => S.2 24 (40 * P + k)) hp hk hP hT hσ hx (by omega) T 0 h K (S.a 18 P (S.2 18 P + (nI T + 1))) n n (by omega) (by omega) (by omega) H R.1 hX u1 u3 eT hk (fun _ _ => rfl)
      have s18 : S1.2 18 P = S.2 18 P + (nI T + 1) := by rw [q6.2 18 P (by omega) (by omega), MS.a_2, if_pos ⟨rfl, rfl⟩]
      have k9' : K1.1 7 P 9 = S.2 18 P := by rw [q5.2 7 P 9 (by omega) (by omega)]; exact lc.1
      refine fin h1 K1 S1 ?_ q2 q3 q5.p k9' s18 q6.p (by rw [q5.2 9 P 2 (by omega) (by omega), u1]) ?_
      · rw [tg]; exact q1
      · have lc1 : LOC (K.i 7 P 9 (S.2 18 P + (nI T + 1))) (S.a 18 P (S.2 18 P + (nI T + 1))) P (j + 1) := by
          obtain ⟨m1, m2, m3, m4, m5, m6, m7⟩ := lc
          refine ⟨?_, m2, ⟨m3.1, Int.le_trans m3.2 (by omega)⟩, m4, m5, m6, m7⟩
          rw [KS.i_1, if_pos ⟨rfl, rfl, rfl⟩, MS.a_2, if_pos ⟨rfl, rfl⟩]
        have q4' : GRt (K1.i 7 P 9 (S.2 18 P + (nI T + 1))) S1 P w v 0 (cy + 1) := q4
        exact lc1.grid hk q4' q6 (by rw [s18, KS.i_1, if_pos ⟨rfl, rfl, rfl⟩]) (by omega) (by omega) (by omega)
  · rw [if_neg c] at k10
    refine ⟨gsetI (gsetI h (A 9 P) 1 0) (A 9 P) 2 0, (K.i 9 P 1 0).i 9 P 2 0, S, ?_, ?_, (H.i t9 1 0).i t9 2 0, ⟨rfl, rfl, rfl, rfl⟩, ⟨rfl, rfl, rfl⟩, R.endl, W.mono (by omega), ⟨rfl, fun _ _ _ _ _ => rfl⟩⟩
    · unfold f_Writing_finishLine
      simp only [w1, cond_true, k10, if_true, reduceIte, w3, Option.bind_some, w6, gtl', gtl, f_Line_begin, gtag_setI]
    · unfold f_M_echoLine
      simp only [bP, cond_true, iP, c, if_false, reduceIte]
end FIN2
