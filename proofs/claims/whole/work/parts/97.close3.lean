theorem cO_mono {f g : Nat → Bool} : ∀ (k lo : Nat), (∀ p, f p = true → g p = true) → cO f lo k ≤ cO g lo k := by
  intro k
  induction k with
  | zero => intro lo _; exact Nat.le_refl 0
  | succ k ih =>
    intro lo h
    show (bif f lo then 1 else 0) + cO f (lo + 1) k ≤ (bif g lo then 1 else 0) + cO g (lo + 1) k
    have := ih (lo + 1) h
    cases e : f lo with
    | false => simp only [cond_false]; omega
    | true => rw [h lo e]; simp only [cond_true]; omega
/-- a pane goes: from where the tree is cut on -/
theorem cl_fin {b L ax am j n P : Nat} {h hc : gHp} {A : Nat → Nat → Nat} {ρ : Nat → Nat × Nat} {K Kc : KS} {S Sc : MS} {a e : Nat} {ly : Nat → Bool} {x2 : Int32} {l lP l' lc : List Nat} {fG : Option (Int32 × gHp)} {fM : MS → Option (Int32 × MS)} (e1 : A 17 0 = b) (e2 : A 0 0 = ax) (e3 : A 15 0 = am) (H : Cpl h A ρ L K S a e ly j) (hPp : pnN a P = true) (hl : ∀ p, p ≤ 60 → (¬ S.2 4 p = 0 ↔ p ∈ l)) (hl12 : lvs (S.2 5) l ≤ 12) (hln : l.Nodup) (lm : ∀ x, x ∈ l → x ≤ 60 ∧ pnN a x = true ∧ ¬ S.2 4 x = 0) (hPl : P ∈ lP) (l'm : ∀ x, x ∈ l' ↔ (x ∈ l ∧ ¬ x ∈ lP) ∧ ¬ nI x = x2) (lcm : ∀ x, x ∈ lc ↔ x ∈ l ∧ ¬ nI x = x2) (Hc : Hrep hc A ρ (cT L a (S.2 5)) Kc) (kc1 : Kc.1 = K.1) (kc2 : ∀ c, ¬ c = 1 → ¬ c = 3 → ¬ c = 7 → Kc.2 c = K.2 c) (kc3 : Kc.2 1 0 0 = K.2 1 0 0) (kc4 : Kc.2 1 0 2 = nz (Sc.1 3)) (kc5 : ∀ x, x ≤ 60 → Kc.2 3 0 x = if x ∈ lc then some (7, x) else none) (kc6 : ∀ p k, ¬ k = 2 → ¬ ((k = 14 ∨ k = 15) ∧ S.2 5 p = 4) → Kc.2 7 p k = K.2 7 p k) (kc7 : ∀ x, x ∈ l' → Kc.2 7 x 2 = nz (Sc.2 6 x) ∧ (S.2 5 x = 4 → Kc.2 7 x 14 = nz (Sc.2 7 x) ∧ Kc.2 7 x 15 = nz (Sc.2 8 x))) (sc1 : ∀ k, ¬ k = 3 → Sc.1 k = S.1 k) (sc2 : ∀ k, ¬ k = 6 → ¬ k = 7 → ¬ k = 8 → Sc.2 k = S.2 k) (scz : ∀ k, 6 ≤ k → k ≤ 8 → ∀ p, a < p → p ≤ 60 → Sc.2 k p = 0) (tree : (l' = [] ∧ Sc.1 3 = 0) ∨ (∃ d' r', Sc.1 3 = nI r' ∧ TP (S.2 4) (S.2 5) (Sc.2 6) (Sc.2 7) (Sc.2 8) d' 0 r' l')) (nd' : l'.Nodup) (hW : ∀ (n : Nat) (S' : MS) (x : Nat), 100 ≤ n → S'.2 6 = Sc.2 6 → x ∈ l → f_M_isWithin n S' (nI x) (nI P) = some (b32 (decide (x ∈ lP)), S')) (hB : ∀ (n : Nat) (h' : gHp) (K' : KS) (x : Nat), 100 ≤ n → Hrep h' A ρ (cT L a (S.2 5)) K' → K'.2 7 = Kc.2 7 → x ∈ lc → ¬ x = P → f_G_isBelow n h' (some (A 7 x)) (some (A 7 P)) = some (b32 (decide (x ∈ lP)), h')) (hn : 6000 ≤ n) (hG : ∀ h1 h2 h3 c, f_Tree_forgetWithAllBelow n hc (A 1 0) (some (A 7 P)) = some h1 → gtag h1 (A 1 0) = some (7, 5) → f_Tree_forgetClosedKeys n h1 (A 1 0) = some h2 → gtag h2 (A 1 0) = some (7, 5) → f_Tree_layOut n h2 (A 1 0) = some (c, h3) → gtin (gtag h3 (A 7 P)) [1, 3, 4, 5, 6] = true → fG = some (gint h3 (A 7 P) 9, h3)) (hM : fM S = f_M_close_B68 n Sc (nI P) x2 (nI 1)) : POg (Iv b L ax am (j + 1)) b L am h fG fM := by
  obtain ⟨H1, H2, H3, H4, H5⟩ := id H
  have ha := H4.1.1
  have z0 : ¬ (0 : Nat) ∈ l := fun q => by have := (pnN_le (lm 0 q).2.1).1; omega
  have l'l : ∀ x, x ∈ l' → x ∈ l := fun x hx => ((l'm x).mp hx).1.1
  -- the class forgets
  obtain ⟨h1, K1, a1, a2, a3, a4, a5⟩ := fw_loop (lc := lc) (lP := lP) (K0 := Kc) (by rw [kc3]; exact H3.1.2.2.1) hPp hPl kc5 (fun x hx => (lm x ((lcm x).mp hx).1).2.1) hB 60 1 n hc Kc (by omega) (by omega) Hc rfl (fun _ _ => rfl) (fun _ _ _ => rfl)
  -- so does the reference
  obtain ⟨S1, n1, b1, b2, b3, b4, b5⟩ := cl_open (S0 := Sc) (P := P) (x2 := x2) (l' := l') ha (by rw [sc1 2 (by decide)]; exact H4.1.2.1) (fun x x1 x2' q q' => by rw [sc2 4 (by decide) (by decide) (by decide)] at q; exact (lm x (l'l x q')).2.2 q) (fun n' S' x hn' h6 x1 x2' ho' => by
    rw [sc2 4 (by decide) (by decide) (by decide)] at ho'
    have xl : x ∈ l := (hl x (by omega)).mp ho'
    refine ⟨decide (x ∈ lP), hW n' S' x hn' h6 xl, ?_⟩
    rw [l'm, decide_eq_false_iff_not]
    exact ⟨fun q => ⟨q.1.2, q.2⟩, fun q => ⟨⟨xl, q.1⟩, q.2⟩⟩) a 1 n Sc (by omega) (by omega) (by omega) rfl (fun _ _ => rfl) (fun _ _ => rfl)
  obtain ⟨S2, n2, c1, c2, c3, c4, c5⟩ := cl_keys (S0 := S1) (P := P) ha (by rw [b3, sc1 2 (by decide)]; exact H4.1.2.1) (fun p hp => by rw [b4 11 (by decide), sc2 11 (by decide) (by decide) (by decide)]; exact (H4.2.1.2.1 p hp).2) a 1 n1 S1 (by omega) (by omega) (by omega) rfl (fun _ _ => rfl) (fun _ _ => rfl)
  have row : ∀ k, ¬ k = 4 → ¬ k = 6 → ¬ k = 7 → ¬ k = 8 → ¬ k = 11 → S2.2 k = S.2 k := fun k q1 q2 q3 q4 q5 => by rw [c4 k q5, b4 k q1, sc2 k q2 q3 q4]
  have r6 : S2.2 6 = Sc.2 6 := by rw [c4 6 (by decide), b4 6 (by decide)]
  have r7 : S2.2 7 = Sc.2 7 := by rw [c4 7 (by decide), b4 7 (by decide)]
  have r8 : S2.2 8 = Sc.2 8 := by rw [c4 8 (by decide), b4 8 (by decide)]
  have r4 : S2.2 4 = S1.2 4 := c4 4 (by decide)
  have s2 : ∀ k, ¬ k = 3 → S2.1 k = S.1 k := fun k hk => by rw [c3, b3, sc1 k hk]
  have s23 : S2.1 3 = Sc.1 3 := by rw [c3, b3]
  have op : ∀ x, x ≤ 60 → S2.2 4 x = if x ∈ l' then 1 else 0 := by
    intro x hx
    rw [r4, b5]
    by_cases q : 1 ≤ x ∧ x ≤ a
    · rw [if_pos q]
    · rw [if_neg q, sc2 4 (by decide) (by decide) (by decide)]
      have nl : ¬ x ∈ l := fun q' => by have := pnN_le (lm x q').2.1; omega
      rw [if_neg (fun q' => nl (l'l x q'))]
      exact Classical.byContradiction fun q' => nl ((hl x hx).mp q')
  have opi : ∀ x, x ≤ 60 → (¬ S2.2 4 x = 0 ↔ x ∈ l') := by
    intro x hx
    rw [op x hx]
    by_cases q : x ∈ l'
    · rw [if_pos q]; exact ⟨fun _ => q, fun _ => by decide⟩
    · rw [if_neg q]; exact ⟨fun q' => absurd rfl q', fun q' => absurd q' q⟩
  have k11 : ∀ x, S2.2 11 x = if 1 ≤ x ∧ x ≤ a ∧ S.2 5 x = 4 ∧ S2.2 4 (ix (S.2 11 x)) = 0 then 0 else S.2 11 x := by
    intro x
    rw [c5, b4 5 (by decide), b4 11 (by decide), sc2 5 (by decide) (by decide) (by decide), sc2 11 (by decide) (by decide) (by decide), r4]
  have W1 : WFa S2 a := by
    refine ⟨ha, by rw [s2 2 (by decide)]; exact H4.1.2.1, ?_, fun p hp => ?_, fun p hp ho => ?_, ?_⟩
    · rw [op 0 (by omega), if_neg (fun q => z0 (l'l 0 q))]
    · rw [op p hp]; split
      · exact Or.inr rfl
      · exact Or.inl rfl
    · exact (pnN_le (lm p (l'l p ((opi p hp).mp ho))).2.1).2
    · rw [row 5 (by decide) (by decide) (by decide) (by decide) (by decide)]; exact H4.1.2.2.2.2.2
  have hT1 : RKt K1 S2 := by
    obtain ⟨u1, u2, u3, u4, u5⟩ := H3.2.1
    refine ⟨by rw [a3, kc1, s2 2 (by decide)]; exact u1, by rw [a3, kc1, s2 0 (by decide)]; exact u2, by rw [a3, kc1, s2 1 (by decide)]; exact u3, by rw [a4 1 (by decide), kc4, s23], fun x hx => ?_⟩
    rw [a5 x hx, op x hx]
    by_cases q : x ∈ l'
    · have q' := (l'm x).mp q
      have := (pnN_le (lm x q'.1.1).2.1).1
      rw [if_pos q, if_neg (show ¬ (1 : Int32) = 0 by decide), if_pos (show 1 ≤ x by omega), if_pos (show x ∈ lc ∧ ¬ x ∈ lP from ⟨(lcm x).mpr ⟨q'.1.1, q'.2⟩, q'.1.2⟩)]
    · rw [if_neg q, if_pos (show (0 : Int32) = 0 from rfl)]
      by_cases q1 : 1 ≤ x
      · rw [if_pos q1, if_neg (fun q2 => q ((l'm x).mpr ⟨⟨((lcm x).mp q2.1).1, q2.2⟩, ((lcm x).mp q2.1).2⟩))]
      · rw [if_neg q1, kc5 x hx, if_neg (fun q2 => by
          have := pnN_le (lm x ((lcm x).mp q2).1).2.1
          omega)]
  have s5 := row 5 (by decide) (by decide) (by decide) (by decide) (by decide)
  have hS1 : RKs K1 a (S2.2 5) := by
    rw [s5]
    refine H3.1.up (fun c q1 q2 q3 => by rw [a4 c q2, kc2 c q1 q2 q3]) (by rw [a4 1 (by decide), kc3]) (fun p k q1 q2 => ?_)
    rw [a4 7 (by decide), kc6 p k q1 (fun q => q2 ⟨Or.inr q.1, q.2⟩)]
  have a2' : Hrep h1 A ρ (cT L a (S2.2 5)) K1 := by rw [s5]; exact a2
  obtain ⟨h2, K2, d1, d2, d3, d4⟩ := fk_loop (l' := l') (K0 := K1) (S := S2) (kv := S.2 11) W1 hT1 opi (fun x hx => ⟨(lm x (l'l x hx)).1, (lm x (l'l x hx)).2.1⟩) (fun p hp => by rw [a3, kc1]; exact (H3.2.2.1 p hp).1) (fun p hp hk => by
    rw [s5] at hk
    have pl := lm p (l'l p hp)
    refine ⟨?_, ?_⟩
    · rw [a4 7 (by decide), kc6 p 13 (by decide) (fun q => by omega)]
      exact ((H3.2.2.2.2.2.2.2.2.2 p pl.2.1 pl.2.2).2 hk).1
    · rcases (H4.2.2.2.2.2.1 p pl.1 pl.2.2 hk).2.2.2 with q | ⟨q, q1, q2, -⟩
      · exact Or.inl q
      · exact Or.inr ⟨q, q1, q2⟩) 60 1 n h1 K1 (by omega) (by omega) (by omega) a2' rfl (fun _ _ _ _ => rfl) hS1
  have K21 : K2.1 = K.1 := by rw [d3, a3, kc1]
  have K2c : ∀ c, ¬ c = 7 → K2.2 c = K1.2 c := fun c hc => by funext p k; rw [d4, if_neg (fun q => hc q.1)]
  have K27 : ∀ p k, ¬ k = 13 → K2.2 7 p k = Kc.2 7 p k := fun p k hk => by rw [d4, if_neg (fun q => hk q.2.1), a4 7 (by decide)]
  have P1 : PRE K2 S2 a ly (j + 1) := by
    obtain ⟨w1, w2, w3, w4, w5, w6, w7, w8, w9⟩ := H4.mono (Nat.le_succ j)
    obtain ⟨q1, q2, q3, q4, q5, q6, q7, q8, q9⟩ := H3.nine
    have gp : RKgP K2 S2 a := by
      have g0 := RKgP.of q8 H4
      intro p hp hk
      rw [s5] at hk
      rw [K21, row 14 (by decide) (by decide) (by decide) (by decide) (by decide), row 15 (by decide) (by decide) (by decide) (by decide) (by decide), row 29 (by decide) (by decide) (by decide) (by decide) (by decide), row 30 (by decide) (by decide) (by decide) (by decide) (by decide), row 31 (by decide) (by decide) (by decide) (by decide) (by decide), row 32 (by decide) (by decide) (by decide) (by decide) (by decide), row 33 (by decide) (by decide) (by decide) (by decide) (by decide)]
      refine ⟨fun _ t ht => ⟨q8 p hp hk t ht, w3.2.2 p t hp hk ht⟩, fun ho => ?_⟩
      have pl := (opi p (by have := (pnN_le hp).2; omega)).mp ho
      exact (g0 p hp hk).2 (lm p (l'l p pl)).2.2
    refine ⟨⟨?_, ?_, ?_, ?_, ?_, ?_, ?_, gp, fun p hp ho => ?_⟩, W1, ?_, ⟨?_, ?_⟩, ?_, fun p p1 p2 => ⟨fun k hk => ?_, ?_⟩, fun p hp ho hk => ?_, ?_, ?_, ?_⟩
    · refine hS1.up (fun c q1 q2 q3 => K2c c q3) (by rw [K2c 1 (by decide)]) (fun p k q1 q2 => ?_)
      rw [d4, if_neg (fun q => q2 ⟨Or.inl q.2.1, q.2.2.2.2.2.1⟩)]
    · obtain ⟨u1, u2, u3, u4, u5⟩ := hT1
      exact ⟨by rw [d3]; exact u1, by rw [d3]; exact u2, by rw [d3]; exact u3, by rw [K2c 1 (by decide)]; exact u4, by rw [K2c 3 (by decide)]; exact u5⟩
    · unfold RKp; rw [K21, s5, row 12 (by decide) (by decide) (by decide) (by decide) (by decide), row 13 (by decide) (by decide) (by decide) (by decide) (by decide), row 14 (by decide) (by decide) (by decide) (by decide) (by decide), row 15 (by decide) (by decide) (by decide) (by decide) (by decide), row 16 (by decide) (by decide) (by decide) (by decide) (by decide), row 17 (by decide) (by decide) (by decide) (by decide) (by decide), row 18 (by decide) (by decide) (by decide) (by decide) (by decide), row 19 (by decide) (by decide) (by decide) (by decide) (by decide)]; exact q3
    · unfold RKk; rw [K21, s5, row 9 (by decide) (by decide) (by decide) (by decide) (by decide), row 10 (by decide) (by decide) (by decide) (by decide) (by decide), row 20 (by decide) (by decide) (by decide) (by decide) (by decide), row 34 (by decide) (by decide) (by decide) (by decide) (by decide), row 35 (by decide) (by decide) (by decide) (by decide) (by decide), row 25 (by decide) (by decide) (by decide) (by decide) (by decide)]; exact q4
    · unfold RKa; rw [K21, s5, row 21 (by decide) (by decide) (by decide) (by decide) (by decide)]; exact q5
    · unfold RKl; rw [K21, s5, row 22 (by decide) (by decide) (by decide) (by decide) (by decide), row 23 (by decide) (by decide) (by decide) (by decide) (by decide), row 24 (by decide) (by decide) (by decide) (by decide) (by decide)]; exact q6
    · unfold RKx; rw [K21, s5, row 25 (by decide) (by decide) (by decide) (by decide) (by decide), row 26 (by decide) (by decide) (by decide) (by decide) (by decide), row 27 (by decide) (by decide) (by decide) (by decide) (by decide), row 28 (by decide) (by decide) (by decide) (by decide) (by decide)]; exact q7
    · have hp60 : p ≤ 60 := by have := (pnN_le hp).2; omega
      have pl := (opi p hp60).mp ho
      have pll := lm p (l'l p pl)
      obtain ⟨v1, v2⟩ := kc7 p pl
      rw [K27 p 2 (by decide), r6, s5]
      refine ⟨v1, fun hk => ⟨?_, ?_, ?_⟩⟩
      · rw [d4, k11, s5, a4 7 (by decide), kc6 p 13 (by decide) (fun q => by omega)]
        by_cases q : S2.2 4 (ix (S.2 11 p)) = 0
        · rw [if_pos ⟨rfl, rfl, (pnN_le hp).1, hp60, pl, hk, q⟩, if_pos ⟨(pnN_le hp).1, (pnN_le hp).2, hk, q⟩]; rfl
        · rw [if_neg (fun q' => q q'.2.2.2.2.2.2), if_neg (fun q' => q q'.2.2.2)]
          exact ((q9 p hp pll.2.2).2 hk).1
      · rw [K27 p 14 (by decide), r7]; exact (v2 hk).1
      · rw [K27 p 15 (by decide), r8]; exact (v2 hk).2
    · unfold WFn at w2 ⊢
      rw [s2 41 (by decide), s2 42 (by decide), row 16 (by decide) (by decide) (by decide) (by decide) (by decide), row 17 (by decide) (by decide) (by decide) (by decide) (by decide), row 34 (by decide) (by decide) (by decide) (by decide) (by decide), row 35 (by decide) (by decide) (by decide) (by decide) (by decide), row 25 (by decide) (by decide) (by decide) (by decide) (by decide), row 23 (by decide) (by decide) (by decide) (by decide) (by decide), row 22 (by decide) (by decide) (by decide) (by decide) (by decide), row 20 (by decide) (by decide) (by decide) (by decide) (by decide), row 19 (by decide) (by decide) (by decide) (by decide) (by decide)]
      refine ⟨w2.1, fun p hp => ⟨(w2.2.1 p hp).1, ?_⟩, w2.2.2⟩
      rw [k11]; split
      · decide
      · exact (w2.2.1 p hp).2
    · rw [row 25 (by decide) (by decide) (by decide) (by decide) (by decide), row 26 (by decide) (by decide) (by decide) (by decide) (by decide), row 27 (by decide) (by decide) (by decide) (by decide) (by decide), row 28 (by decide) (by decide) (by decide) (by decide) (by decide)]; exact w3.1
    · rw [row 23 (by decide) (by decide) (by decide) (by decide) (by decide), row 24 (by decide) (by decide) (by decide) (by decide) (by decide)]; exact w3.2.1
    · unfold WFq; rw [s5, row 21 (by decide) (by decide) (by decide) (by decide) (by decide)]; exact w4
    · by_cases q6 : k = 6
      · subst q6; rw [r6]; exact scz 6 (by omega) (by omega) p p1 p2
      by_cases q7 : k = 7
      · subst q7; rw [r7]; exact scz 7 (by omega) (by omega) p p1 p2
      by_cases q8 : k = 8
      · subst q8; rw [r8]; exact scz 8 (by omega) (by omega) p p1 p2
      by_cases q11 : k = 11
      · subst q11; rw [k11, if_neg (by omega)]; exact (w5 p p1 p2).1 11 hk
      · rw [row k (fun q => by rw [q] at hk; revert hk; decide) q6 q7 q8 q11]; exact (w5 p p1 p2).1 k hk
    · rw [row 21 (by decide) (by decide) (by decide) (by decide) (by decide)]; exact (w5 p p1 p2).2
    · have pl := (opi p hp).mp ho
      have pll := lm p (l'l p pl)
      rw [s5] at hk
      obtain ⟨v1, v2, v3, v4⟩ := w6 p hp pll.2.2 hk
      rw [row 9 (by decide) (by decide) (by decide) (by decide) (by decide), row 10 (by decide) (by decide) (by decide) (by decide) (by decide), s5]
      refine ⟨v1, v2, v3, ?_⟩
      rw [k11]
      by_cases q : S2.2 4 (ix (S.2 11 p)) = 0
      · rw [if_pos ⟨(pnN_le pll.2.1).1, (pnN_le pll.2.1).2, hk, q⟩]; exact Or.inl rfl
      · rw [if_neg (fun q' => q q'.2.2.2)]
        rcases v4 with v4 | ⟨q', v4, v5, v6, v7⟩
        · exact Or.inl v4
        · refine Or.inr ⟨q', v4, v5, ?_, v7⟩
          rw [v4, ixn (by have := (pnN_le v5).2; omega)] at q
          exact q
    · rcases tree with ⟨t1, t2⟩ | ⟨d', r', t1, t2⟩
      · refine Or.inl ⟨by rw [s23]; exact t2, fun p hp => ?_⟩
        rw [op p hp, t1]; simp
      · refine Or.inr ⟨d', r', l', by rw [s23]; exact t1, t2.cong (fun x hx => ⟨(opi x (lm x (l'l x hx)).1).mpr hx, by rw [s5], by rw [r6], fun _ => ⟨by rw [r7], by rw [r8]⟩⟩), nd', ?_, opi⟩
        rw [s5, lvs_cO nd' (fun q hq => by obtain ⟨u1, u2, u3⟩ := lm q (l'l q hq); have := (pnN_le u2).1; omega)]
        rw [lvs_cO hln (fun q hq => by obtain ⟨u1, u2, u3⟩ := lm q hq; have := (pnN_le u2).1; omega)] at hl12
        refine Nat.le_trans (cO_mono _ _ (fun p hp => ?_)) hl12
        rw [Bool.and_eq_true, decide_eq_true_eq] at hp ⊢
        exact ⟨l'l p hp.1, hp.2⟩
    · rw [s2 0 (by decide), s2 1 (by decide)]; exact w8.1
    · rw [row 12 (by decide) (by decide) (by decide) (by decide) (by decide), row 13 (by decide) (by decide) (by decide) (by decide) (by decide), row 14 (by decide) (by decide) (by decide) (by decide) (by decide), row 15 (by decide) (by decide) (by decide) (by decide) (by decide)]; exact w8.2.1
  obtain ⟨h3, K3, S3, c, y1, y2, y3, y4, y5, y6, y7, y8, y9, y10⟩ := lay_all (n := n) (n' := n2) d2 P1 (by omega) (by omega)
  have iP := ixn (show P < 2 ^ 31 by have := (pnN_le hPp).2; omega)
  have bP : inB (nI P) 61 = true := inn (by have := (pnN_le hPp).2; omega) (by decide)
  have kp : KEEP K K2 := by
    refine ⟨by rw [K21], by rw [K21], by rw [K21], ?_⟩
    rw [K2c 15 (by decide), a4 15 (by decide), kc2 15 (by decide) (by decide) (by decide)]
  have i9 : gint h3 (A 7 P) 9 = S3.2 18 P := by rw [y3.int (cT7 hPp)]; exact (y5.2.2.1 P hPp).2.2.2.2.2.2.2.2.1
  refine PO_mk (r := S3.2 18 P) (S' := S3) (e' := e) (ly' := ly) e1 e2 e3 H (h1 := h3) ?_ ?_ (by rw [s5] at y3; exact y3) (kp.tr y4) (by rw [y9 5 (by omega) (by omega) (by omega), s5]) (y5.with (RKe.eq' (K := K) (S := S) H3.2.2.2.2.2.2.2.2.1 (by rw [y6.1, K21]) (by rw [y6.2.1, K21]) (by rw [y6.2.2, K21]) (by rw [y8, s2 41 (by decide)]) (by rw [y8, s2 42 (by decide)]) (by rw [y9 43 (by omega) (by omega) (by omega), row 43 (by decide) (by decide) (by decide) (by decide) (by decide)]))) y7 (fun p hp => ?_)
  · rw [← i9]
    exact hG h1 h2 h3 _ a1 (a2.tag (c := 1) (p := 0) rfl) d1 (d2.tag (c := 1) (p := 0) rfl) y1 (by rw [y3.tag (cT7 hPp)]; exact cTag_pane _)
  · rw [hM, b2, c2, y2, Option.bind_some, bP, cond_true, iP]
  · rw [y9 21 (by omega) (by omega) (by omega), row 21 (by decide) (by decide) (by decide) (by decide) (by decide)]
    exact H5 p hp
