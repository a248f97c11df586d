theorem split_all {b L ax am j n k m z O : Nat} {h : gHp} {A : Nat → Nat → Nat} {ρ : Nat → Nat × Nat} {K : KS} {S : MS} {a e : Nat} {ly : Nat → Bool} {z1 z2 z3 z4 : Int32} {Q : Option gv → gHp → Prop} (e1 : A 17 0 = b) (e2 : A 0 0 = ax) (e3 : A 15 0 = am) (H : Cpl h A ρ L K S a e ly j) (hO : pnN a O = true) (ho : ¬ S.2 4 O = 0) (ha : a + 2 ≤ 60) (hc : cO (lfN S) 1 a < 12) (hk : k ≤ 3) (hm : m < 16) (hz : z ≤ 999) (hz' : ¬ m / 4 % 2 = 0 → z ≤ 100) (hn : 6000 ≤ n) (hM : ∀ Sp S', f_M_put n (mk2 S a k m z) (nI (a + 2)) (nI O) = some Sp → f_M_arrangeAll n ((((Sp.a 7 (a + 2) (nI (if m % 2 = 0 then a + 1 else O))).a 8 (a + 2) (nI (if m % 2 = 0 then O else a + 1))).a 6 (a + 1) (nI (a + 2))).a 6 O (nI (a + 2))) = some S' → f_M_open n S z1 z2 z3 z4 = some (nI (a + 1), S')) (hQ : ∀ h', OPq n (Iv b L ax am (j + 1)) b L am h z1 z2 z3 z4 (nI (a + 1)) h' → Q (some (.inl (nI (a + 1)))) h') : w_Tree_split n h (A 1 0) (some (A 7 O)) (nI m) (nI z) (nI k) Q := by
  obtain ⟨H1, H2, H3, H4, H5⟩ := id H
  obtain ⟨Oa1, Oa2⟩ := pnN_le hO
  have ha1 : a + 1 ≤ 60 := by omega
  have hRr := H3.2.2.2.2.2.2.2.2.2
  have t1 : gtag h (A 1 0) = some (7, 5) := H1.tag (c := 1) (p := 0) rfl
  have i1 : gint h (A 1 0) 1 + 1 = nI (a + 1) := by rw [H1.int (c := 1) (p := 0) (t := (7, 5)) rfl, H3.2.1.1, H4.1.2.1, nI_1]
  obtain ⟨S0, hS0⟩ : ∃ S0, S0 = mk1 S a (nI k) := ⟨_, rfl⟩
  obtain ⟨S2, hS2⟩ : ∃ S2, S2 = mk2 S a k m z := ⟨_, rfl⟩
  rw [← hS2] at hM
  have g0 : ∀ k' q, S0.2 k' q = if k' = 6 ∧ q = a + 1 then 0 else if k' = 5 ∧ q = a + 1 then nI k else if k' = 4 ∧ q = a + 1 then 1 else S.2 k' q := fun k' q => by rw [hS0, mk1_2]
  have g2 : ∀ k' q, S2.2 k' q = if k' = 11 ∧ q = a + 2 then nI (a + 1) else if k' = 10 ∧ q = a + 2 then nI z else if k' = 9 ∧ q = a + 2 then nI m else if k' = 6 ∧ q = a + 2 then 0 else if k' = 5 ∧ q = a + 2 then 4 else if k' = 4 ∧ q = a + 2 then 1 else S0.2 k' q := fun k' q => by rw [hS2, mk2_2, hS0]
  have g1 : ∀ k', ¬ k' = 2 → S2.1 k' = S.1 k' := fun k' c => by rw [hS2, mk2_1, if_neg c, if_neg c]
  have g12 : S2.1 2 = nI (a + 2) := by rw [hS2]; rfl
  have s0o : ∀ k' q, ¬ q = a + 1 → S0.2 k' q = S.2 k' q := fun k' q c => by rw [g0, if_neg (fun x => c x.2), if_neg (fun x => c x.2), if_neg (fun x => c x.2)]
  have s2o : ∀ k' q, ¬ q = a + 2 → S2.2 k' q = S0.2 k' q := fun k' q c => by rw [g2, if_neg (fun x => c x.2), if_neg (fun x => c x.2), if_neg (fun x => c x.2), if_neg (fun x => c x.2), if_neg (fun x => c x.2), if_neg (fun x => c x.2)]
  have s2r : ∀ k', ¬ k' = 4 → ¬ k' = 5 → ¬ k' = 6 → ¬ k' = 9 → ¬ k' = 10 → ¬ k' = 11 → S2.2 k' = S.2 k' := fun k' c1 c2 c3 c4 c5 c6 => funext fun q => by rw [g2, if_neg (fun x => c6 x.1), if_neg (fun x => c5 x.1), if_neg (fun x => c4 x.1), if_neg (fun x => c3 x.1), if_neg (fun x => c2 x.1), if_neg (fun x => c1 x.1), g0, if_neg (fun x => c3 x.1), if_neg (fun x => c2 x.1), if_neg (fun x => c1 x.1)]
  have s2a : ∀ k' q, ¬ q = a + 1 → ¬ q = a + 2 → S2.2 k' q = S.2 k' q := fun k' q c1 c2 => by rw [s2o k' q c2, s0o k' q c1]
  have k5 : S0.2 5 (a + 1) = nI k := by rw [g0, if_neg (by omega), if_pos ⟨rfl, rfl⟩]
  have F5 : S2.2 5 (a + 1) = nI k := by rw [s2o 5 (a + 1) (by omega), k5]
  have P5 : S2.2 5 (a + 2) = 4 := by rw [g2, if_neg (by omega), if_neg (by omega), if_neg (by omega), if_neg (by omega), if_pos ⟨rfl, rfl⟩]
  have F4 : S2.2 4 (a + 1) = 1 := by rw [s2o 4 (a + 1) (by omega), g0, if_neg (by omega), if_neg (by omega), if_pos ⟨rfl, rfl⟩]
  have P4 : S2.2 4 (a + 2) = 1 := by rw [g2, if_neg (by omega), if_neg (by omega), if_neg (by omega), if_neg (by omega), if_neg (by omega), if_pos ⟨rfl, rfl⟩]
  have P9 : S2.2 9 (a + 2) = nI m := by rw [g2, if_neg (by omega), if_neg (by omega), if_pos ⟨rfl, rfl⟩]
  have P10 : S2.2 10 (a + 2) = nI z := by rw [g2, if_neg (by omega), if_pos ⟨rfl, rfl⟩]
  have P11 : S2.2 11 (a + 2) = nI (a + 1) := by rw [g2, if_pos ⟨rfl, rfl⟩]
  have kn4 : ¬ nI k = 4 := fun q => by have := (nI_eq (b := 4) (by omega) (by omega)).mp q; omega
  have hF : pnN (a + 1) (a + 1) = true := pnN_of (by omega) (Nat.le_refl _)
  have hF2 : pnN (a + 2) (a + 1) = true := pnN_of (by omega) (by omega)
  have hP2 : pnN (a + 2) (a + 2) = true := pnN_of (by omega) (Nat.le_refl _)
  have hO2 : pnN (a + 2) O = true := pnN_of (by omega) (by omega)
  -- O's parent
  obtain ⟨r, l, du, uu, lu, u1, u2, u3, u4, u5, u6, u7, u8, u9, u10, u11, lm⟩ := sub_of H4.1 H4.2.2.2.2.2.2.1 (show O ≤ 60 by omega) ho
  have s6O : S.2 6 O = nI uu := u7.here.2.2.2.1
  have uuU : ¬ uu = 0 → uu ∈ l ∧ S.2 5 uu = 4 ∧ ¬ uu ∈ lu := fun q => by
    rcases u10 with w | w
    · exact w
    · exact absurd w.2 q
  unfold w_Tree_split
  refine ⟨by rw [t1]; rfl, ?_⟩
  rw [i1]
  refine new_leaf (kd' := S0.2 5) H1 hk k5 (fun p hp' => s0o 5 p (by omega)) (by omega) (fun x h2 A2 ρ2 K2 N1 N2 N3 N4 N5 => ?_)
  subst N2
  refine ⟨_, rfl, fun y hy => ?_⟩
  have eA := N3 1 0 (by omega)
  have eO := N3 7 O (by omega)
  rw [← eA, ← eO]
  have tn : ∀ v, ¬ v = y → gtag (gnew h2 y 3 16) v = gtag h2 v ∧ ∀ i, gint (gnew h2 y 3 16) v i = gint h2 v i := fun v hv => ⟨by rw [gtag_new, if_neg hv], fun i => by rw [gint_new, if_neg hv]⟩
  have t2 : gtag h2 (A2 1 0) = some (7, 5) := N1.tag (c := 1) (p := 0) rfl
  have ny : ¬ A2 1 0 = y := fun q => by rw [q, hy] at t2; cases t2
  have i2 : gint (gnew h2 y 3 16) (A2 1 0) 1 + 2 = nI (a + 1 + 1) := by
    rw [(tn _ ny).2, N1.int (c := 1) (p := 0) (t := (7, 5)) rfl, (N4 1 0 1 (by omega)).1, H3.2.1.1, H4.1.2.1]
    exact nI_add a 2
  refine ⟨by rw [(tn _ ny).1, t2]; rfl, ?_⟩
  rw [i2]
  refine new_pair (kd' := S2.2 5) N1 hy P5 (fun p hp' => s2o 5 p (by omega)) hF (fun h3 A3 ρ3 K3 M1 M2 M3 M4 M5 M6 => ⟨rfl, ?_⟩)
  subst M2
  have eA3 := M3 1 0 (by omega)
  have eO3 := M3 7 O (by omega)
  have eF3 := M3 7 (a + 1) (by omega)
  rw [← eA3, ← eO3, ← eF3]
  have M1 : Hrep h3 A3 ρ3 (cT L (a + 2) (S2.2 5)) K3 := M1
  -- both are entered
  have k30 : K3.2 1 0 0 = some (3, 0) := by rw [(M4 1 0 0 (by omega)).2, (N4 1 0 0 (by omega)).2]; exact H3.1.2.2.1
  have kF0 : K3.1 7 (a + 1) 0 = nI (a + 1) := by rw [(M4 7 (a + 1) 0 (by omega)).1, N5.1]; rfl
  have kP0 : K3.1 7 (a + 2) 0 = nI (a + 2) := by rw [M5]; rfl
  obtain ⟨E1, E2⟩ := e_enter (n := n) M1 ha hF2 k30 kF0
  obtain ⟨E3, E4⟩ := e_enter (n := n) E2 ha hP2 (by rw [KS.i_2, KS.r_2, if_neg (by omega)]; exact k30) (by rw [KS.i_1, if_neg (by omega), KS.r_1]; exact kP0)
  obtain ⟨h4, hh4⟩ : ∃ h4, h4 = gsetI (gsetR h3 (A3 3 0) (a + 1) (some (A3 7 (a + 1)))) (A3 1 0) 1 (nI (a + 1)) := ⟨_, rfl⟩
  rw [← hh4] at E1 E2 E3 E4
  obtain ⟨h5, hh5⟩ : ∃ h5, h5 = gsetI (gsetR h4 (A3 3 0) (a + 2) (some (A3 7 (a + 2)))) (A3 1 0) 1 (nI (a + 2)) := ⟨_, rfl⟩
  rw [← hh5] at E3 E4
  obtain ⟨K6, hK6⟩ : ∃ K6, K6 = ((((K3.r 3 0 (a + 1) (some (7, a + 1))).i 1 0 1 (nI (a + 1))).r 3 0 (a + 2) (some (7, a + 2))).i 1 0 1 (nI (a + 2))) := ⟨_, rfl⟩
  rw [← hK6] at E4
  have k6r : ∀ c p i, K6.2 c p i = if c = 3 ∧ p = 0 ∧ i = a + 2 then some (7, a + 2) else if c = 3 ∧ p = 0 ∧ i = a + 1 then some (7, a + 1) else K3.2 c p i := by
    intro c p i
    rw [hK6, KS.i_2, KS.r_2, KS.i_2, KS.r_2]
  have k6i : ∀ c p i, K6.1 c p i = if c = 1 ∧ p = 0 ∧ i = 1 then nI (a + 2) else K3.1 c p i := by
    intro c p i
    rw [hK6, KS.i_1, KS.r_1, KS.i_1, KS.r_1]
    by_cases q : c = 1 ∧ p = 0 ∧ i = 1
    · rw [if_pos q, if_pos q]
    · rw [if_neg q, if_neg q, if_neg q]
  -- what is old
  have ko : ∀ c p i, ¬ (7 ≤ c ∧ c ≤ 14 ∧ (p = a + 1 ∨ p = a + 2)) → K3.1 c p i = K.1 c p i ∧ K3.2 c p i = K.2 c p i := by
    intro c p i q
    obtain ⟨m1, m2⟩ := M4 c p i (by omega)
    obtain ⟨n1, n2⟩ := N4 c p i (by omega)
    exact ⟨m1.trans n1, m2.trans n2⟩
  have k7o : ∀ p i, p ≤ a → K6.2 7 p i = K.2 7 p i := fun p i hp => by rw [k6r, if_neg (by omega), if_neg (by omega), (ko 7 p i (by omega)).2]
  have Ou : K6.2 7 O 2 = nz (nI uu) := by rw [k7o O 2 Oa2, (hRr O hO ho).1, s6O]
  have S6O : S2.2 6 O = nI uu := by rw [s2a 6 O (by omega) (by omega), s6O]
  have xl1 : ∀ x, x ∈ l → 1 ≤ x ∧ x ≤ a := fun x hx => pnN_le (lm x hx).2.1
  have huu : uu = 0 ∨ (pnN (a + 2) uu = true ∧ S2.2 5 uu = 4 ∧ K6.2 7 uu 14 = nz (S2.2 7 uu) ∧ K6.2 7 uu 15 = nz (S2.2 8 uu) ∧ ∃ f, S2.2 7 uu = nI f ∧ pnN (a + 2) f = true) := by
    by_cases q : uu = 0
    · exact Or.inl q
    · obtain ⟨v1, v2, v3⟩ := uuU q
      obtain ⟨x1, x2⟩ := xl1 uu v1
      obtain ⟨y1, y2, y3⟩ := (hRr uu (lm uu v1).2.1 (lm uu v1).2.2).2 v2
      obtain ⟨f9, s9, w1, w2, w3, w4, w5, w6, w7, w8⟩ := u2.child v1 v2
      have fa := xl1 f9 w3
      refine Or.inr ⟨pnN_of (by omega) (by omega), by rw [s2a 5 uu (by omega) (by omega), v2], by rw [k7o uu 14 x2, y2, s2a 7 uu (by omega) (by omega)], by rw [k7o uu 15 x2, y3, s2a 8 uu (by omega) (by omega)], f9, by rw [s2a 7 uu (by omega) (by omega), w1], pnN_of (by omega) (by omega)⟩
  obtain ⟨h6, Kc, Sp, b1, b2, b3, b4, b5, b6, b7, b8, b9, b10, b11, b12, b13⟩ := repl_both E4 ha hO2 hP2 huu Ou S6O n n
  -- joined
  have c11 : Kc.1 7 (a + 2) 11 = nI m := by rw [b4, k6i, if_neg (by omega), M5]; rfl
  obtain ⟨h7, j1, j2⟩ := e_join (n := n) (f := a + 1) (g := O) b2 hP2 P5 c11 hm hF2 hO2
  have j3 := j2.r (cT7 hF2) 2 (some (7, a + 2)) (clo_pane hP2)
  have j4 := j3.r (cT7 hO2) 2 (some (7, a + 2)) (clo_pane hP2)
  obtain ⟨f, hf⟩ : ∃ f, f = if m % 2 = 0 then a + 1 else O := ⟨_, rfl⟩
  obtain ⟨s, hs⟩ : ∃ s, s = if m % 2 = 0 then O else a + 1 := ⟨_, rfl⟩
  rw [← hf, ← hs] at hM j2 j3 j4
  have hfs : (f = a + 1 ∧ s = O) ∨ (f = O ∧ s = a + 1) := by
    by_cases c : m % 2 = 0
    · rw [if_pos c] at hf hs; exact Or.inl ⟨hf, hs⟩
    · rw [if_neg c] at hf hs; exact Or.inr ⟨hf, hs⟩
  obtain ⟨S1, hS1⟩ : ∃ S1, S1 = (((Sp.a 7 (a + 2) (nI f)).a 8 (a + 2) (nI s)).a 6 (a + 1) (nI (a + 2))).a 6 O (nI (a + 2)) := ⟨_, rfl⟩
  have hM' := fun S' => hM Sp S' b3
  rw [← hS1] at hM'
  obtain ⟨K1, hK1⟩ : ∃ K1, K1 = (((Kc.r 7 (a + 2) 14 (some (7, f))).r 7 (a + 2) 15 (some (7, s))).r 7 (a + 1) 2 (some (7, a + 2))).r 7 O 2 (some (7, a + 2)) := ⟨_, rfl⟩
  rw [← hK1] at j4
  have r1 : ∀ k' q, S1.2 k' q = if k' = 6 ∧ q = O then nI (a + 2) else if k' = 6 ∧ q = a + 1 then nI (a + 2) else if k' = 8 ∧ q = a + 2 then nI s else if k' = 7 ∧ q = a + 2 then nI f else Sp.2 k' q := fun k' q => by rw [hS1]; rfl
  have r0 : S1.1 = Sp.1 := by rw [hS1]; rfl
  have row : ∀ k', ¬ k' = 6 → ¬ k' = 7 → ¬ k' = 8 → S1.2 k' = S2.2 k' := fun k' c1 c2 c3 => funext fun q => by rw [r1, if_neg (fun x => c1 x.1), if_neg (fun x => c1 x.1), if_neg (fun x => c3 x.1), if_neg (fun x => c2 x.1), b13 k' c1 c2 c3]
  have o4 : ∀ p, S1.2 4 p = if p = a + 1 ∨ p = a + 2 then 1 else S.2 4 p := by
    intro p
    rw [row 4 (by decide) (by decide) (by decide)]
    by_cases c1 : p = a + 1
    · rw [if_pos (Or.inl c1), c1, F4]
    · by_cases c2 : p = a + 2
      · rw [if_pos (Or.inr c2), c2, P4]
      · rw [if_neg (fun q => q.elim c1 c2), s2a 4 p c1 c2]
  have o5 : ∀ p, S1.2 5 p = if p = a + 1 then nI k else if p = a + 2 then 4 else S.2 5 p := by
    intro p
    rw [row 5 (by decide) (by decide) (by decide)]
    by_cases c1 : p = a + 1
    · rw [if_pos c1, c1, F5]
    · by_cases c2 : p = a + 2
      · rw [if_neg c1, if_pos c2, c2, P5]
      · rw [if_neg c1, if_neg c2, s2a 5 p c1 c2]
  have o6 : ∀ p, S1.2 6 p = if p = O ∨ p = a + 1 then nI (a + 2) else if p = a + 2 then nI uu else S.2 6 p := by
    intro p
    rw [r1]
    by_cases c1 : p = O
    · rw [if_pos ⟨rfl, c1⟩, if_pos (Or.inl c1)]
    · by_cases c2 : p = a + 1
      · rw [if_neg (fun q => c1 q.2), if_pos ⟨rfl, c2⟩, if_pos (Or.inr c2)]
      · rw [if_neg (fun q => c1 q.2), if_neg (fun q => c2 q.2), if_neg (by omega), if_neg (by omega), b10, if_neg (show ¬ (p = O ∨ p = a + 1) from fun q => q.elim c1 c2)]
        by_cases c3 : p = a + 2
        · rw [if_pos c3, if_pos c3]
        · rw [if_neg c3, if_neg c3, s2a 6 p c2 c3]
  have z7 : ∀ k', k' = 7 ∨ k' = 8 → S2.2 k' = S.2 k' := fun k' q => s2r k' (by omega) (by omega) (by omega) (by omega) (by omega) (by omega)
  have o7 : ∀ p, S1.2 7 p = if p = a + 2 then nI f else if p = uu ∧ ¬ uu = 0 ∧ S.2 7 uu = nI O then nI (a + 2) else S.2 7 p := by
    intro p
    rw [r1, if_neg (by omega), if_neg (by omega), if_neg (by omega)]
    by_cases c : p = a + 2
    · rw [if_pos ⟨rfl, c⟩, if_pos c]
    · rw [if_neg (fun q => c q.2), if_neg c, b11, z7 7 (Or.inl rfl)]
  have o8 : ∀ p, S1.2 8 p = if p = a + 2 then nI s else if p = uu ∧ ¬ uu = 0 ∧ ¬ S.2 7 uu = nI O then nI (a + 2) else S.2 8 p := by
    intro p
    rw [r1, if_neg (by omega), if_neg (by omega)]
    by_cases c : p = a + 2
    · rw [if_pos ⟨rfl, c⟩, if_pos c]
    · rw [if_neg (fun q => c q.2), if_neg (by omega), if_neg c, b12, z7 7 (Or.inl rfl), z7 8 (Or.inr rfl)]
  have o3 : S1.1 3 = if uu = 0 then nI (a + 2) else S.1 3 := by
    rw [r0, b9]
    by_cases c : uu = 0
    · rw [if_pos ⟨rfl, c⟩, if_pos c]
    · rw [if_neg (fun q => c q.2), if_neg c, g1 3 (by decide)]
  have o1 : ∀ k', ¬ k' = 3 → S1.1 k' = S2.1 k' := fun k' c => by rw [r0, b9, if_neg (fun q => c q.1)]
  have uua : ¬ uu = 0 → uu ≤ a := fun q => (xl1 uu (uuU q).1).2
  have oa : ∀ k' p, p ≤ a → ¬ k' = 6 → ¬ k' = 7 → ¬ k' = 8 → S1.2 k' p = S.2 k' p := fun k' p hp c1 c2 c3 => by rw [row k' c1 c2 c3, s2a k' p (by omega) (by omega)]
  have k1r : ∀ c p i, K1.2 c p i = if c = 7 ∧ p = O ∧ i = 2 then some (7, a + 2) else if c = 7 ∧ p = a + 1 ∧ i = 2 then some (7, a + 2) else if c = 7 ∧ p = a + 2 ∧ i = 15 then some (7, s) else if c = 7 ∧ p = a + 2 ∧ i = 14 then some (7, f) else Kc.2 c p i := by
    intro c p i
    rw [hK1, KS.r_2, KS.r_2, KS.r_2, KS.r_2]
  have k1i : ∀ c p i, K1.1 c p i = if c = 1 ∧ p = 0 ∧ i = 1 then nI (a + 2) else K3.1 c p i := by
    intro c p i
    rw [hK1, KS.r_1, KS.r_1, KS.r_1, KS.r_1, b4, k6i]
  have kc7 : ∀ c, ¬ c = 7 → K1.2 c = Kc.2 c := fun c hc' => funext fun p => funext fun i => by rw [k1r, if_neg (fun q => hc' q.1), if_neg (fun q => hc' q.1), if_neg (fun q => hc' q.1), if_neg (fun q => hc' q.1)]
  have kc3 : ∀ c, ¬ c = 1 → ¬ c = 3 → ¬ c = 7 → K1.2 c = K3.2 c := fun c h1 h3' h7' => by
    rw [kc7 c h7']
    exact funext fun p => funext fun i => by rw [b5 c p i (fun q => h7' q.1) (fun q => h1 q.1) (fun q => h7' q.1), k6r, if_neg (fun q => h3' q.1), if_neg (fun q => h3' q.1)]
  have ki3 : ∀ c, ¬ c = 1 → K1.1 c = K3.1 c := fun c h1 => funext fun p => funext fun i => by rw [k1i, if_neg (fun q => h1 q.1)]
  have kk1 : ∀ c, ¬ c = 1 → ¬ (7 ≤ c ∧ c ≤ 14) → K1.1 c = K.1 c := fun c h1 h7' => by
    rw [ki3 c h1]; exact funext fun p => funext fun i => (ko c p i (fun q => h7' ⟨q.1, q.2.1⟩)).1
  have nzP : nz (nI (a + 2)) = some (7, a + 2) := nz_n (by omega) ha
  have bdn : ∀ x y : Nat, x ≤ y → y ≤ 2000 → bd (nI x) y := fun x y h1 h2 => ⟨by rw [nI_toInt (by omega)]; omega, by rw [nI_toInt (by omega)]; omega⟩
  -- what does not change
  have G1 : G9 K2 S0 (a + 1) (fun p => ly p && decide (p ≤ a)) j := (G9.of H3.nine H4).grow (K' := K2) (S' := S0) ha1 N4 (fun k' q c => by rw [g0, if_neg (by omega), if_neg (by omega), if_neg (by omega)]) (by rw [g0, if_neg (by omega), if_neg (by omega), if_pos ⟨rfl, rfl⟩]; decide) (by rw [g0, if_neg (by omega), if_neg (by omega), if_neg (by omega), (H4.2.2.2.2.1 (a + 1) (by omega) ha1).1 11 (by decide)]; decide) (by rw [hS0]; rfl) (by rw [hS0]; rfl) (N5.newp k5 hk)
  have nw : NEWP K3 S2 (a + 2) := by
    have M5' : ∀ j, K3.1 7 (a + 2) j = if j = 12 then nI z else if j = 11 then nI m else if j = 1 then 4 else if j = 0 then nI (a + 2) else if j = 10 then 1 else 0 := M5
    refine ⟨⟨kP0, by rw [M5', P5]; rfl, fun i h1 h2 => by rw [M5', if_neg (by omega), if_neg (by omega), if_neg (by omega), if_neg (by omega), if_neg (by omega)], by rw [M5']; rfl⟩, fun _ => ⟨by rw [M5', P9]; rfl, by rw [M5', P10]; rfl⟩, fun q => ?_, fun q => ?_, fun q => ?_, fun q => ?_, fun q => ?_⟩
    all_goals
      rw [P5] at q
      exact absurd q (by decide)
  have G2 : G9 K3 S2 (a + 2) (fun p => (ly p && decide (p ≤ a)) && decide (p ≤ a + 1)) j := G1.grow (K' := K3) (S' := S2) ha (fun c p i q => M4 c p i (fun w => q ⟨by omega, by omega, w.2⟩)) (fun k' q c => by rw [g2, if_neg (by omega), if_neg (by omega), if_neg (by omega), if_neg (by omega), if_neg (by omega), if_neg (by omega)]) (by show ¬ S2.2 4 (a + 2) = 0; rw [P4]; decide) (by show bd (S2.2 11 (a + 2)) 60; rw [P11]; exact bdn _ _ (by omega) (by omega)) (by rw [g1 41 (by decide), hS0]; rfl) (by rw [g1 42 (by decide), hS0]; rfl) nw
  have kuu : ¬ uu = 0 → S2.2 5 uu = 4 := fun q => by have := uua q; rw [s2a 5 uu (by omega) (by omega)]; exact (uuU q).2.1
  have G3 : G9 K1 S1 (a + 2) (fun p => (ly p && decide (p ≤ a)) && decide (p ≤ a + 1)) j := by
    refine G2.cong (RKs.up G2.1 kc3 ?_ (fun p i h1 h2 => ?_)) (fun c c1 c2 => ki3 c (by omega)) row (fun k' p p1 p2 => ?_) (o1 41 (by decide)) (o1 42 (by decide))
    · rw [kc7 1 (by decide), b5 1 0 0 (by omega) (by omega) (by omega), k6r, if_neg (by omega), if_neg (by omega)]
    · rw [k1r, if_neg (by omega), if_neg (by omega), if_neg (fun q => h2 ⟨by omega, by rw [q.2.1]; exact P5⟩), if_neg (fun q => h2 ⟨by omega, by rw [q.2.1]; exact P5⟩), b5 7 p i (by omega) (by omega) (fun q => h2 ⟨by omega, by rw [q.2.1]; exact kuu q.2.2.1⟩), k6r, if_neg (by omega), if_neg (by omega)]
    · rw [r1, if_neg (by omega), if_neg (by omega), if_neg (by omega), if_neg (by omega)]
      by_cases c6 : k' = 6
      · rw [c6, b10, if_neg (by omega)]
      · by_cases c7 : k' = 7
        · rw [c7, b11, if_neg (fun q => by have := uua q.2.1; omega)]
        · by_cases c8 : k' = 8
          · rw [c8, b12, if_neg (fun q => by have := uua q.2.1; omega)]
          · rw [b13 k' c6 c7 c8]
  have ly1 := ly_grow (S1 := S0) ha1 H5 H4.2.2.2.2.1 (funext fun q => by rw [g0, if_neg (by omega), if_neg (by omega), if_neg (by omega)])
  have ly2 := ly_grow (S := S0) (S1 := S1) (a := a + 1) (ly := fun p => ly p && decide (p ≤ a)) ha ly1 G1.2.2.2.2.2.2.2.2.2.2.1 (by rw [row 21 (by decide) (by decide) (by decide)]; exact funext fun q => by rw [g2, if_neg (by omega), if_neg (by omega), if_neg (by omega), if_neg (by omega), if_neg (by omega), if_neg (by omega)])
  -- the tree's own
  have tT : RKt K1 S1 := by
    refine ⟨by rw [k1i, if_pos ⟨rfl, rfl, rfl⟩, o1 2 (by decide), g12], by rw [k1i, if_neg (by omega), (ko 1 0 3 (by omega)).1, o1 0 (by decide), g1 0 (by decide)]; exact H3.2.1.2.1, by rw [k1i, if_neg (by omega), (ko 1 0 4 (by omega)).1, o1 1 (by decide), g1 1 (by decide)]; exact H3.2.1.2.2.1, ?_, fun i hi => ?_⟩
    · rw [kc7 1 (by decide), b7, o3]
      by_cases c : uu = 0
      · rw [if_pos c, if_pos c, nzP]
      · rw [if_neg c, if_neg c, k6r, if_neg (by omega), if_neg (by omega), (ko 1 0 2 (by omega)).2]; exact H3.2.1.2.2.2.1
    · rw [kc7 3 (by decide), b5 3 0 i (by omega) (by omega) (by omega), k6r, o4]
      by_cases c2 : i = a + 2
      · rw [if_pos ⟨rfl, rfl, c2⟩, if_pos (show i = a + 1 ∨ i = a + 2 from Or.inr c2), if_neg (show ¬ (1 : Int32) = 0 by decide), c2]
      · rw [if_neg (fun q => c2 q.2.2)]
        by_cases c1 : i = a + 1
        · rw [if_pos ⟨rfl, rfl, c1⟩, if_pos (show i = a + 1 ∨ i = a + 2 from Or.inl c1), if_neg (show ¬ (1 : Int32) = 0 by decide), c1]
        · rw [if_neg (fun q => c1 q.2.2), if_neg (show ¬ (i = a + 1 ∨ i = a + 2) by omega), (ko 3 0 i (by omega)).2]; exact H3.2.1.2.2.2.2 i hi
  have cases3 : ∀ p, p ≤ 60 → ¬ S1.2 4 p = 0 → p = a + 1 ∨ p = a + 2 ∨ (pnN a p = true ∧ ¬ S.2 4 p = 0) := by
    intro p hp hop
    rw [o4] at hop
    by_cases c : p = a + 1 ∨ p = a + 2
    · omega
    · rw [if_neg c] at hop
      refine Or.inr (Or.inr ⟨pnN_of ?_ (H4.1.2.2.2.2.1 p hp hop), hop⟩)
      rcases Nat.eq_zero_or_pos p with q | q
      · subst q; exact absurd H4.1.2.2.1 hop
      · exact q
  have tR : RKr K1 S1 (a + 2) := by
    intro p hp hop
    have hp60 : p ≤ 60 := by have := (pnN_le hp).2; omega
    rcases cases3 p hp60 hop with c | c | ⟨c, hop'⟩
    · subst c
      refine ⟨?_, fun q => ?_⟩
      · rw [k1r, if_neg (by omega), if_pos ⟨rfl, rfl, rfl⟩, o6, if_pos (Or.inr rfl), nzP]
      · rw [o5, if_pos rfl] at q; exact absurd q kn4
    · subst c
      refine ⟨?_, fun _ => ⟨?_, ?_, ?_⟩⟩
      · rw [k1r, if_neg (by omega), if_neg (by omega), if_neg (by omega), if_neg (by omega), b6, o6, if_neg (by omega), if_pos rfl]
      · rw [k1r, if_neg (by omega), if_neg (by omega), if_neg (by omega), if_neg (by omega), b5 7 (a + 2) 13 (by omega) (by omega) (by omega), k6r, if_neg (by omega), if_neg (by omega), row 11 (by decide) (by decide) (by decide), P11, nz_n (by omega) ha1]
        exact M6 13
      · rw [k1r, if_neg (by omega), if_neg (by omega), if_neg (by omega), if_pos ⟨rfl, rfl, rfl⟩, o7, if_pos rfl, nz_n (by omega) (by omega)]
      · rw [k1r, if_neg (by omega), if_neg (by omega), if_pos ⟨rfl, rfl, rfl⟩, o8, if_pos rfl, nz_n (by omega) (by omega)]
    · obtain ⟨pa1, pa2⟩ := pnN_le c
      obtain ⟨v1, v2⟩ := hRr p c hop'
      refine ⟨?_, fun q => ?_⟩
      · by_cases cO' : p = O
        · rw [k1r, if_pos ⟨rfl, cO', rfl⟩, o6, if_pos (Or.inl cO'), nzP]
        · rw [k1r, if_neg (by omega), if_neg (by omega), if_neg (by omega), if_neg (by omega), b5 7 p 2 (by omega) (by omega) (by omega), k7o p 2 pa2, o6, if_neg (by omega), if_neg (by omega), v1]
      · rw [oa 5 p pa2 (by decide) (by decide) (by decide)] at q
        obtain ⟨v3, v4, v5⟩ := v2 q
        have n7 : ¬ p = a + 2 := by omega
        refine ⟨?_, ?_, ?_⟩
        · rw [k1r, if_neg (by omega), if_neg (by omega), if_neg (by omega), if_neg (by omega), b5 7 p 13 (by omega) (by omega) (by omega), k7o p 13 pa2, oa 11 p pa2 (by decide) (by decide) (by decide), v3]
        · rw [k1r, if_neg (by omega), if_neg (by omega), if_neg (by omega), if_neg (by omega), r1, if_neg (by omega), if_neg (by omega), if_neg (by omega), if_neg (by omega)]
          by_cases cu : p = uu ∧ ¬ uu = 0
          · rw [cu.1]; exact (b8 cu.2).1
          · rw [b5 7 p 14 (by omega) (by omega) (fun w => cu ⟨w.2.1, w.2.2.1⟩), k7o p 14 pa2, b11, if_neg (fun w => cu ⟨w.1, w.2.1⟩), z7 7 (Or.inl rfl), v4]
        · rw [k1r, if_neg (by omega), if_neg (by omega), if_neg (by omega), if_neg (by omega), r1, if_neg (by omega), if_neg (by omega), if_neg (by omega), if_neg (by omega)]
          by_cases cu : p = uu ∧ ¬ uu = 0
          · rw [cu.1]; exact (b8 cu.2).2
          · rw [b5 7 p 15 (by omega) (by omega) (fun w => cu ⟨w.2.1, w.2.2.1⟩), k7o p 15 pa2, b12, if_neg (fun w => cu ⟨w.1, w.2.1⟩), z7 8 (Or.inr rfl), v5]
  have tA : WFa S1 (a + 2) := by
    refine ⟨ha, by rw [o1 2 (by decide), g12], by rw [oa 4 0 (by omega) (by decide) (by decide) (by decide)]; exact H4.1.2.2.1, fun p hp => ?_, fun p hp hop => ?_, fun p hp => ?_⟩
    · rw [o4]
      split
      · exact Or.inr rfl
      · exact H4.1.2.2.2.1 p hp
    · rcases cases3 p hp hop with c | c | ⟨c, -⟩
      · omega
      · omega
      · have := (pnN_le c).2; omega
    · rw [o5]
      by_cases c1 : p = a + 1
      · rw [if_pos c1]
        rcases (by omega : k = 0 ∨ k = 1 ∨ k = 2 ∨ k = 3) with q | q | q | q <;> rw [q]
        · exact Or.inl rfl
        · exact Or.inr (Or.inl rfl)
        · exact Or.inr (Or.inr (Or.inl rfl))
        · exact Or.inr (Or.inr (Or.inr (Or.inl rfl)))
      · rw [if_neg c1]
        by_cases c2 : p = a + 2
        · rw [if_pos c2]; exact Or.inr (Or.inr (Or.inr (Or.inr rfl)))
        · rw [if_neg c2]
          have := pnN_le hp
          exact H4.1.2.2.2.2.2 p (pnN_of (by omega) (by omega))
  have tK : WFk S1 (a + 2) := by
    intro p hp hop h4'
    rcases cases3 p hp hop with c | c | ⟨c, hop'⟩
    · rw [c, o5, if_pos rfl] at h4'; exact absurd h4' kn4
    · subst c
      rw [row 9 (by decide) (by decide) (by decide), row 10 (by decide) (by decide) (by decide), row 11 (by decide) (by decide) (by decide), P9, P10, P11]
      obtain ⟨-, -, b4', -, -⟩ := bits m hm
      refine ⟨bdn _ _ (by omega) (by omega), bdn _ _ hz (by omega), fun q => bdn _ _ (hz' (fun w => q (b4'.mpr w))) (by omega), Or.inr ⟨a + 1, rfl, hF2, by rw [o4, if_pos (Or.inl rfl)]; decide, by rw [o5, if_pos rfl]; exact kn4⟩⟩
    · have pa2 := (pnN_le c).2
      rw [oa 5 p pa2 (by decide) (by decide) (by decide)] at h4'
      rw [oa 9 p pa2 (by decide) (by decide) (by decide), oa 10 p pa2 (by decide) (by decide) (by decide), oa 11 p pa2 (by decide) (by decide) (by decide)]
      obtain ⟨w1, w2, w3, w4⟩ := H4.2.2.2.2.2.1 p hp hop' h4'
      refine ⟨w1, w2, w3, ?_⟩
      rcases w4 with w4 | ⟨q, w4, w5, w6, w7⟩
      · exact Or.inl w4
      · obtain ⟨qa1, qa2⟩ := pnN_le w5
        exact Or.inr ⟨q, w4, pnN_of qa1 (by omega), by rw [oa 4 q qa2 (by decide) (by decide) (by decide)]; exact w6, by rw [oa 5 q qa2 (by decide) (by decide) (by decide)]; exact w7⟩
  have tW : WFt S1 := split_tree (F := a + 1) (P := a + 2) H4.1 H4.2.2.2.2.2.2.1 ha rfl rfl (show O ≤ 60 by omega) ho hc hfs s6O u11 o4 o5 kn4 o6 o7 o8 o3
  have j5 : Hrep (gsetR (gsetR h7 (A3 7 (a + 1)) 2 (some (A3 7 (a + 2)))) (A3 7 O) 2 (some (A3 7 (a + 2)))) A3 ρ3 (cT L (a + 2) (S1.2 5)) K1 := by rw [row 5 (by decide) (by decide) (by decide)]; exact j4
  have tE : K1.2 15 = K.2 15 := by
    rw [kc3 15 (by decide) (by decide) (by decide)]
    exact funext fun p => funext fun i => (ko 15 p i (by omega)).2
  obtain ⟨h8, c, x1, x2, x3⟩ := op_fin (n := n) (z1 := z1) (z2 := z2) (z3 := z3) (z4 := z4) (q := nI (a + 1)) e1 e2 e3 H G3 tT tR tA tK tW (fun k' c1 c2 => by rw [o1 k' c2, g1 k' c1]) (by rw [row 43 (by decide) (by decide) (by decide), s2r 43 (by decide) (by decide) (by decide) (by decide) (by decide) (by decide)]) j5 ((M3 17 0 (by omega)).trans (N3 17 0 (by omega))) ((M3 0 0 (by omega)).trans (N3 0 0 (by omega))) ((M3 15 0 (by omega)).trans (N3 15 0 (by omega))) ⟨kk1 15 (by omega) (by omega), kk1 16 (by omega) (by omega), kk1 17 (by omega) (by omega), tE⟩ ⟨kk1 2 (by omega) (by omega), kk1 5 (by omega) (by omega), kk1 6 (by omega) (by omega)⟩ ly2 hn hM'
  have T3 : gtag h3 (A3 1 0) = some (7, 5) := M1.tag (c := 1) (p := 0) rfl
  have T4 : gtag h4 (A3 1 0) = some (7, 5) := E2.tag (c := 1) (p := 0) rfl
  have T5 : gtag h5 (A3 1 0) = some (7, 5) := E4.tag (c := 1) (p := 0) rfl
  have T6 : gtag h6 (A3 7 (a + 1 + 1)) = some (3, 16) := by
    have := b2.tag (cT7 hP2)
    rw [P5] at this
    exact this
  have T7 := j2.tag (cT7 hF2)
  have T7' := j3.tag (cT7 hO2)
  have T7'' : gtag (gsetR h7 (A3 7 (a + 1)) 2 (some (A3 7 (a + 1 + 1)))) (A3 7 O) = some (cTag (S2.2 5 O)) := T7'
  have T8 : gtag (gsetR (gsetR h7 (A3 7 (a + 1)) 2 (some (A3 7 (a + 1 + 1)))) (A3 7 O) 2 (some (A3 7 (a + 1 + 1)))) (A3 1 0) = some (7, 5) := j5.tag (c := 1) (p := 0) rfl
  refine ⟨h4, by rw [T3, g77, cond_true]; exact E1, h5, by rw [T4, g77, cond_true]; exact E3, h6, by rw [T5, g77, cond_true]; exact b1, h7, by rw [T6, gpr', cond_true]; exact j1, A3 7 (a + 1), rfl, by rw [T7]; exact cTag_pane _, A3 7 O, rfl, by rw [T7'']; exact cTag_pane _, (c, h8), by rw [T8, g77, cond_true]; exact x1, A3 7 (a + 1), rfl, by rw [(x3 _ hF2).1]; exact cTag_pane _, ?_⟩
  rw [(x3 _ hF2).2]
  exact hQ h8 x2
