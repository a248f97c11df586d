/-! ===== one pane more ===== -/
def G9 (K : KS) (S : MS) (a : Nat) (ly : Nat → Bool) (j : Nat) : Prop :=
  RKs K a (S.2 5) ∧ RKp K S a ∧ RKk K S a ∧ RKa K S a ∧ RKl K S a ly ∧ RKx K S a ∧ RKgP K S a ∧ WFn S j ∧ ((∀ p k, p ≤ 60 → k < ix (S.2 25 p) → (S.2 26 (400 * p + k) = 10 ∨ sgn (S.2 26 (400 * p + k))) ∧ bd (S.2 27 (400 * p + k)) 10 ∧ bd (S.2 28 (400 * p + k)) 999) ∧ (∀ p k, p ≤ 60 → k < ix (S.2 23 p) → sgn (S.2 24 (40 * p + k)))) ∧ WFq S a ∧ WFz S a ∧
  (∀ p, p ≤ 60 → 0 ≤ (S.2 12 p).toInt ∧ 0 ≤ (S.2 13 p).toInt ∧ 0 ≤ (S.2 14 p).toInt ∧ 0 ≤ (S.2 15 p).toInt ∧ (S.2 12 p).toInt + (S.2 14 p).toInt ≤ 60 ∧ (S.2 13 p).toInt + (S.2 15 p).toInt ≤ 24)
theorem G9.of {K : KS} {S : MS} {a j : Nat} {ly : Nat → Bool} (R : RK9 K S a ly) (W : WF S a j) : G9 K S a ly j :=
  ⟨R.1, R.2.2.1, R.2.2.2.1, R.2.2.2.2.1, R.2.2.2.2.2.1, R.2.2.2.2.2.2.1, RKgP.of R.2.2.2.2.2.2.2.1 W, W.2.1, ⟨W.2.2.1.1, W.2.2.1.2.1⟩, W.2.2.2.1, W.2.2.2.2.1, W.2.2.2.2.2.2.2.1.2.1⟩
/-- the new pane P -/
def NEWP (K : KS) (S : MS) (P : Nat) : Prop :=
  (K.1 7 P 0 = nI P ∧ K.1 7 P 1 = S.2 5 P ∧ (∀ i, 3 ≤ i → i ≤ 9 → K.1 7 P i = 0) ∧ K.1 7 P 10 = 1) ∧
  (S.2 5 P = 4 → K.1 7 P 11 = S.2 9 P ∧ K.1 7 P 12 = S.2 10 P) ∧ (S.2 5 P = 3 → K.1 7 P 11 = 0) ∧ (S.2 5 P = 2 → K.1 7 P 14 = 0 ∧ K.1 7 P 15 = 0 ∧ ∀ t, t < 1440 → K.1 11 P t = 32) ∧ (S.2 5 P = 1 → K.1 7 P 14 = 0) ∧
  (wrK (S.2 5 P) = true → K.2 7 P 11 = some (8, P) ∧ K.2 7 P 12 = some (9, P) ∧ K.2 7 P 13 = some (11, P) ∧ K.2 9 P 0 = some (10, P) ∧ (∀ i, K.1 8 P i = 0) ∧ K.1 9 P 2 = 0) ∧
  (S.2 5 P = 1 → K.2 7 P 15 = some (12, P) ∧ K.2 12 P 0 = some (13, P) ∧ K.2 12 P 1 = some (14, P))
theorem LEAF.newp {K : KS} {S : MS} {P k : Nat} (H : LEAF K P k (nI P)) (hk : S.2 5 P = nI k) (hk3 : k ≤ 3) : NEWP K S P := by
  obtain ⟨a1, a2, a3, a4, a5⟩ := H
  have kk : ∀ m, m ≤ 4 → (S.2 5 P = nI m ↔ k = m) := fun m hm => by rw [hk, nI_eq (by omega) (by omega)]
  refine ⟨⟨by rw [a1]; rfl, by rw [a1, hk]; rfl, fun i h1 h2 => by rw [a1, if_neg (by omega), if_neg (by omega), if_neg (by omega)], by rw [a1]; rfl⟩, fun q => ?_, fun q => ?_, fun q => ?_, fun q => ?_, fun q => ?_, fun q => ?_⟩
  · have := (kk 4 (by omega)).mp q; omega
  · rw [a1]; rfl
  · exact ⟨by rw [a1]; rfl, by rw [a1]; rfl, a5 ((kk 2 (by omega)).mp q)⟩
  · rw [a1]; rfl
  · have : k = 1 ∨ k = 2 := by
      rcases wr_or q with q | q
      · exact Or.inl ((kk 1 (by omega)).mp q)
      · exact Or.inr ((kk 2 (by omega)).mp q)
    obtain ⟨b1, b2, b3, b4, b5, b6⟩ := a3 this
    exact ⟨b1, b2, b3, b4, b5, b6 2⟩
  · exact a4 ((kk 1 (by omega)).mp q)
theorem G9.grow {K K' : KS} {S S' : MS} {a j : Nat} {ly : Nat → Bool} (G : G9 K S a ly j) (ha : a + 1 ≤ 60) (hK : ∀ c p i, ¬ (7 ≤ c ∧ c ≤ 14 ∧ p = a + 1) → K'.1 c p i = K.1 c p i ∧ K'.2 c p i = K.2 c p i) (hS : ∀ k q, ¬ ((k = 4 ∨ k = 5 ∨ k = 6 ∨ k = 9 ∨ k = 10 ∨ k = 11) ∧ q = a + 1) → S'.2 k q = S.2 k q) (h4 : ¬ S'.2 4 (a + 1) = 0) (h11 : bd (S'.2 11 (a + 1)) 60) (s41 : S'.1 41 = S.1 41) (s42 : S'.1 42 = S.1 42) (hN : NEWP K' S' (a + 1)) : G9 K' S' (a + 1) (fun p => ly p && decide (p ≤ a)) j := by
  obtain ⟨q1, q2, q3, q4, q5, q6, q7, q8, q9, q10, q11, q12⟩ := G
  obtain ⟨⟨n1, n2, n3, n4⟩, n5, n6, n7, n8, n9, n10⟩ := hN
  obtain ⟨zz, z21⟩ := q11 (a + 1) (by omega) (by omega)
  have row : ∀ k, ¬ (k = 4 ∨ k = 5 ∨ k = 6 ∨ k = 9 ∨ k = 10 ∨ k = 11) → S'.2 k = S.2 k := fun k hk => funext fun q => hS k q (fun h => hk h.1)
  have old : ∀ k p, ¬ p = a + 1 → S'.2 k p = S.2 k p := fun k p hp => hS k p (fun h => hp h.2)
  have kc : ∀ c, ¬ (7 ≤ c ∧ c ≤ 14) → K'.1 c = K.1 c ∧ K'.2 c = K.2 c := fun c hc => ⟨funext fun p => funext fun i => (hK c p i (fun h => hc ⟨h.1, h.2.1⟩)).1, funext fun p => funext fun i => (hK c p i (fun h => hc ⟨h.1, h.2.1⟩)).2⟩
  have ko : ∀ c p i, ¬ p = a + 1 → K'.1 c p i = K.1 c p i ∧ K'.2 c p i = K.2 c p i := fun c p i hp => hK c p i (fun h => hp h.2.2)
  have pn : ∀ p, pnN (a + 1) p = true → ¬ p = a + 1 → pnN a p = true := fun p hp hne => by have := pnN_le hp; exact pnN_of (by omega) (by omega)
  have z : ∀ k, k ∈ frs → S.2 k (a + 1) = 0 := zz
  refine ⟨?_, fun p hp => ?_, fun p hp => ?_, fun p hp hw k hk => ?_, fun p hp hw => ?_, fun p hp hk k hk' => ?_, fun p hp hk => ?_, ?_, ?_, ?_, fun p p1 p2 => ?_, ?_⟩
  · obtain ⟨a1, a2, a3, a4, a5, a6, a7, a8⟩ := q1
    refine ⟨by rw [(kc 0 (by omega)).2]; exact a1, by rw [(kc 0 (by omega)).2]; exact a2, by rw [(kc 1 (by omega)).2]; exact a3, by rw [(kc 2 (by omega)).2]; exact a4, by rw [(kc 2 (by omega)).2]; exact a5, by rw [(kc 4 (by omega)).2]; exact a6, fun p hp hw => ?_, fun p hp hk => ?_⟩
    · by_cases e : p = a + 1
      · subst e
        obtain ⟨b1, b2, b3, b4, -⟩ := n9 hw
        exact ⟨b1, b2, b3, b4⟩
      · rw [(ko 7 p 11 e).2, (ko 7 p 12 e).2, (ko 7 p 13 e).2, (ko 9 p 0 e).2]
        exact a7 p (pn p hp e) (by rw [← old 5 p e]; exact hw)
    · by_cases e : p = a + 1
      · subst e; exact n10 hk
      · rw [(ko 7 p 15 e).2, (ko 12 p 0 e).2, (ko 12 p 1 e).2]
        exact a8 p (pn p hp e) (by rw [← old 5 p e]; exact hk)
  · by_cases e : p = a + 1
    · subst e
      rw [row 12 (by decide), row 13 (by decide), row 14 (by decide), row 15 (by decide), row 16 (by decide), row 17 (by decide), row 18 (by decide), row 19 (by decide), z 12 (by decide), z 13 (by decide), z 14 (by decide), z 15 (by decide), z 16 (by decide), z 17 (by decide), z 18 (by decide), z 19 (by decide)]
      exact ⟨n1, n2, n3 3 (by omega) (by omega), n3 4 (by omega) (by omega), n3 5 (by omega) (by omega), n3 6 (by omega) (by omega), n3 7 (by omega) (by omega), n3 8 (by omega) (by omega), n3 9 (by omega) (by omega), by rw [n4, if_pos rfl]⟩
    · rw [(ko 7 p 0 e).1, (ko 7 p 1 e).1, (ko 7 p 3 e).1, (ko 7 p 4 e).1, (ko 7 p 5 e).1, (ko 7 p 6 e).1, (ko 7 p 7 e).1, (ko 7 p 8 e).1, (ko 7 p 9 e).1, (ko 7 p 10 e).1, old 5 p e, old 12 p e, old 13 p e, old 14 p e, old 15 p e, old 16 p e, old 17 p e, old 18 p e, old 19 p e]
      exact q2 p (pn p hp e)
  · by_cases e : p = a + 1
    · subst e
      rw [row 20 (by decide), row 34 (by decide), row 35 (by decide), row 25 (by decide), z 20 (by decide), z 34 (by decide), z 35 (by decide), z 25 (by decide)]
      exact ⟨n5, n6, fun q => ⟨(n7 q).1, (n7 q).2.1⟩, n8⟩
    · rw [(ko 7 p 11 e).1, (ko 7 p 12 e).1, (ko 7 p 14 e).1, (ko 7 p 15 e).1, old 5 p e, old 9 p e, old 10 p e, old 20 p e, old 34 p e, old 35 p e, old 25 p e]
      exact q3 p (pn p hp e)
  · rw [row 21 (by decide)]
    by_cases e : p = a + 1
    · subst e
      obtain ⟨-, -, -, -, b5, -⟩ := n9 hw
      rw [b5, z21 k hk]
    · rw [(ko 8 p k e).1]
      exact q4 p (pn p hp e) (by rw [← old 5 p e]; exact hw) k hk
  · rw [row 22 (by decide), row 23 (by decide), row 24 (by decide)]
    by_cases e : p = a + 1
    · subst e
      obtain ⟨-, -, -, -, -, b6⟩ := n9 hw
      have e0 : (ly (a + 1) && decide (a + 1 ≤ a)) = false := by rw [decide_eq_false (by omega), Bool.and_false]
      refine ⟨?_, fun q => ?_⟩
      · show _ = bif (ly (a + 1) && decide (a + 1 ≤ a)) then _ else _
        rw [e0, b6]; rfl
      · have q : (ly (a + 1) && decide (a + 1 ≤ a)) = true := q
        rw [e0] at q; cases q
    · have pa := pnN_le (pn p hp e)
      have e0 : (ly p && decide (p ≤ a)) = ly p := by rw [decide_eq_true pa.2, Bool.and_true]
      show _ = (bif (ly p && decide (p ≤ a)) then _ else _) ∧ ((ly p && decide (p ≤ a)) = true → _)
      rw [e0, (ko 9 p 2 e).1, (ko 9 p 1 e).1]
      simp only [fun k => (ko 10 p k e).1]
      exact q5 p (pn p hp e) (by rw [← old 5 p e]; exact hw)
  · rw [row 25 (by decide)] at hk'
    rw [row 26 (by decide), row 27 (by decide), row 28 (by decide)]
    by_cases e : p = a + 1
    · subst e
      rw [z 25 (by decide)] at hk'
      exact absurd hk' (Nat.not_lt_zero _)
    · rw [(ko 11 p k e).1]
      exact q6 p (pn p hp e) (by rw [← old 5 p e]; exact hk) k hk'
  · by_cases e : p = a + 1
    · subst e
      rw [row 14 (by decide), row 15 (by decide), row 32 (by decide), row 33 (by decide), z 14 (by decide), z 15 (by decide), z 32 (by decide), z 33 (by decide)]
      refine ⟨fun q => absurd q h4, fun _ => ⟨rfl, rfl, fun w v e1 e2 l1 l2 t ht => ⟨fun q => ?_, fun _ => (n7 hk).2.2 t ht⟩⟩⟩
      have : w = 0 := (nI_eq (by omega) (by omega)).mp (show nI w = nI 0 from e1.symm)
      omega
    · rw [old 5 p e] at hk
      rw [old 4 p e, row 14 (by decide), row 15 (by decide), row 29 (by decide), row 30 (by decide), row 31 (by decide), row 32 (by decide), row 33 (by decide)]
      simp only [fun t => (ko 11 p t e).1]
      exact q7 p (pn p hp e) hk
  · unfold WFn at q8 ⊢
    rw [s41, s42, row 16 (by decide), row 17 (by decide), row 34 (by decide), row 35 (by decide), row 25 (by decide), row 23 (by decide), row 22 (by decide), row 20 (by decide), row 19 (by decide)]
    refine ⟨q8.1, fun p hp => ⟨(q8.2.1 p hp).1, ?_⟩, q8.2.2⟩
    by_cases e : p = a + 1
    · subst e; exact h11
    · rw [old 11 p e]; exact (q8.2.1 p hp).2
  · rw [row 25 (by decide), row 26 (by decide), row 27 (by decide), row 28 (by decide), row 23 (by decide), row 24 (by decide)]; exact q9
  · rw [WFq, row 21 (by decide)]
    refine ⟨q10.1, fun p hp hw k hk => ?_⟩
    by_cases e : p = a + 1
    · subst e; exact z21 k hk
    · exact q10.2 p (pn p hp e) (by rw [← old 5 p e]; exact hw) k hk
  · rw [row 21 (by decide)]
    obtain ⟨y1, y2⟩ := q11 p (by omega) p2
    refine ⟨fun k hk => ?_, y2⟩
    rw [old k p (by omega)]; exact y1 k hk
  · rw [row 12 (by decide), row 13 (by decide), row 14 (by decide), row 15 (by decide)]; exact q12
theorem e_make {n : Nat} {S : MS} {a : Nat} (ha : a + 1 ≤ 60) (s2 : S.1 2 = nI a) (k : Int32) : f_M_make n S k = some (nI (a + 1), (((S.f 2 (nI (a + 1))).a 4 (a + 1) 1).a 5 (a + 1) k).a 6 (a + 1) 0) := by
  have e1 : (S.f 2 (S.1 2 + 1)) = S.f 2 (nI (a + 1)) := by rw [s2, nI_1]
  have e2 : (S.f 2 (nI (a + 1))).1 2 = nI (a + 1) := rfl
  unfold f_M_make
  rw [e1]
  simp only [e2, inn (show a + 1 < 61 by omega) (by decide), cond_true, show isZ 1 = true from rfl, ixn (show a + 1 < 2 ^ 31 by omega)]
theorem io_Pane_1 : gIo 1 "GlkPanes$Pane" = some 1 := by decide +kernel
theorem io_Pane_3 : gIo 3 "GlkPanes$Pane" = some 1 := by decide +kernel
theorem io_Pane_5 : gIo 5 "GlkPanes$Pane" = some 1 := by decide +kernel
theorem io_Pane_6 : gIo 6 "GlkPanes$Pane" = some 1 := by decide +kernel
theorem pnk_tag {h : gHp} {x : Nat} {k : Int32} (hx : gtag h x = some (cTag k)) : gPnk h (some x) = true := by
  show (match gtag h x with
    | none => false
    | some t => Nat.beq t.1 4 || decide (gIo t.1 "GlkPanes$Pane" = some 1)) = true
  rw [hx]
  show (Nat.beq (cTag k).1 4 || decide (gIo (cTag k).1 "GlkPanes$Pane" = some 1)) = true
  have hc : (cTag k).1 = 4 ∨ (cTag k).1 = 6 ∨ (cTag k).1 = 1 ∨ (cTag k).1 = 5 ∨ (cTag k).1 = 3 := by
    unfold cTag
    repeat' split
    · exact Or.inl rfl
    · exact Or.inr (Or.inl rfl)
    · exact Or.inr (Or.inr (Or.inl rfl))
    · exact Or.inr (Or.inr (Or.inr (Or.inl rfl)))
    · exact Or.inr (Or.inr (Or.inr (Or.inr rfl)))
  rcases hc with e | e | e | e | e
  · rw [e]; rfl
  · rw [e, io_Pane_6]; rfl
  · rw [e, io_Pane_1]; rfl
  · rw [e, io_Pane_5]; rfl
  · rw [e, io_Pane_3]; rfl
theorem e_enter {h : gHp} {A : Nat → Nat → Nat} {ρ : Nat → Nat × Nat} {L a P n : Nat} {kd : Nat → Int32} {K : KS} (H : Hrep h A ρ (cT L a kd) K) (ha : a ≤ 60) (hp : pnN a P = true) (r0 : K.2 1 0 0 = some (3, 0)) (k0 : K.1 7 P 0 = nI P) : f_Tree_enter n h (A 1 0) (some (A 7 P)) = some (gsetI (gsetR h (A 3 0) P (some (A 7 P))) (A 1 0) 1 (nI P)) ∧ Hrep (gsetI (gsetR h (A 3 0) P (some (A 7 P))) (A 1 0) 1 (nI P)) A ρ (cT L a kd) ((K.r 3 0 P (some (7, P))).i 1 0 1 (nI P)) := by
  obtain ⟨u1, u2⟩ := pnN_le hp
  have tu := H.tag (cT7 (L := L) (kd := kd) hp)
  have i0 : gint h (A 7 P) 0 = nI P := by rw [H.int (cT7 hp), k0]
  have t1 : gtag h (A 1 0) = some (7, 5) := H.tag (c := 1) (p := 0) rfl
  have t3 : gtag h (A 3 0) = some (22, 61) := H.tag (c := 3) (p := 0) rfl
  have r1 : gref h (A 1 0) 0 = some (A 3 0) := by rw [H.ref (c := 1) (p := 0) (t := (7, 5)) rfl, r0]; rfl
  have n1 : ¬ nI P < 1 := nI_nlt (a := P) (b := 1) (by omega) (by omega)
  have n2 : ¬ Int32.ofNat 61 ≤ nI P := nI_ge (a := P) (b := 61) (by omega) (by decide)
  have pk := pnk_tag tu
  refine ⟨?_, (H.r (c := 3) (p := 0) (t := (22, 61)) rfl P (some (7, P)) (clo_pane hp)).i (c := 1) (p := 0) (t := (7, 5)) rfl 1 (nI P)⟩
  unfold f_Tree_enter
  simp only [Option.bind_some, tu, cTag_pane, cond_true, i0, n1, if_false, reduceIte, t1, g77', r1, t3, show (Nat.ble 20 22 && Nat.ble 22 24) = true from rfl, n2, gArr22 (show P < 61 by omega), pk, ixn (show P < 2 ^ 31 by omega), gtag_setR, gint_setR]
