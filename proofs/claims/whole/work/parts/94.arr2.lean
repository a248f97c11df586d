theorem WFz.keep2 {S : MS} {a P r : Nat} {x : Int32} (H : WFz S a) (h1 : P ≤ a) (h2 : ¬ r = 21) : WFz (S.a r P x) a := H.set h1 h2
/-- a pair gets other words: both sides after it -/
theorem arr_fin {b L ax am j n f s m z f' s' P : Nat} {h h1 : gHp} {A : Nat → Nat → Nat} {ρ : Nat → Nat × Nat} {K : KS} {S : MS} {a e : Nat} {ly : Nat → Bool} {kv : Int32} {fG : Option (Int32 × gHp)} {fM : MS → Option (Int32 × MS)} (e1 : A 17 0 = b) (e2 : A 0 0 = ax) (e3 : A 15 0 = am) (H : Cpl h A ρ L K S a e ly j) (hp : P ≤ 60) (ho : ¬ S.2 4 P = 0) (hk : S.2 5 P = 4) (hm : m < 16) (hz : z ≤ 999) (hz' : ¬ m / 4 % 2 = 0 → z ≤ 100) (hf60 : f ≤ 60) (hs60 : s ≤ 60) (hf : S.2 7 P = nI f) (hs : S.2 8 P = nI s) (hfs : (f' = f ∧ s' = s) ∨ (f' = s ∧ s' = f)) (hkv : kv = 0 ∨ ∃ q, kv = nI q ∧ pnN a q = true ∧ ¬ S.2 4 q = 0 ∧ ¬ S.2 5 q = 4) (hn : 6000 ≤ n) (H1 : Hrep h1 A ρ (cT L a (S.2 5)) (((((K.r 7 P 14 (some (7, f'))).r 7 P 15 (some (7, s'))).i 7 P 11 (nI m)).i 7 P 12 (nI z)).r 7 P 13 (nz kv))) (hG : ∀ c h', f_Tree_layOut n h1 (A 1 0) = some (c, h') → fG = some (1, h')) (hM : ∀ S', f_M_arrangeAll n (((((S.a 7 P (nI f')).a 8 P (nI s')).a 9 P (nI m)).a 10 P (nI z)).a 11 P kv) = some S' → fM S = some (1, S')) : POg (Iv b L ax am (j + 1)) b L am h fG fM := by
  obtain ⟨H1', H2, H3, H4, H5⟩ := id H
  have ha := H4.1.1
  have hP : pnN a P = true := pnN_of (by
    rcases Nat.eq_zero_or_pos P with q | q
    · subst q; exact absurd H4.1.2.2.1 ho
    · exact q) (H4.1.2.2.2.2.1 P hp ho)
  have hPa := (pnN_le hP).2
  obtain ⟨r, l, du, upu, lu, t1, t2, t3, t4, t5, t6, t7, t8, t9, t10, t11, lm⟩ := sub_of H4.1 H4.2.2.2.2.2.2.1 hp ho
  obtain ⟨S1, hS1⟩ : ∃ S1, S1 = ((((S.a 7 P (nI f')).a 8 P (nI s')).a 9 P (nI m)).a 10 P (nI z)).a 11 P kv := ⟨_, rfl⟩
  obtain ⟨K1, hK1⟩ : ∃ K1, K1 = ((((K.r 7 P 14 (some (7, f'))).r 7 P 15 (some (7, s'))).i 7 P 11 (nI m)).i 7 P 12 (nI z)).r 7 P 13 (nz kv) := ⟨_, rfl⟩
  have g2 : ∀ k i, ¬ (7 ≤ k ∧ k ≤ 11 ∧ ¬ k = 6 ∧ i = P) → S1.2 k i = S.2 k i := by
    intro k i c
    rw [hS1, MS.a_2, if_neg (by omega), MS.a_2, if_neg (by omega), MS.a_2, if_neg (by omega), MS.a_2, if_neg (by omega), MS.a_2, if_neg (by omega)]
  have p7 : S1.2 7 P = nI f' := by rw [hS1]; simp [MS.a_2]
  have p8 : S1.2 8 P = nI s' := by rw [hS1]; simp [MS.a_2]
  have p9 : S1.2 9 P = nI m := by rw [hS1]; simp [MS.a_2]
  have p10 : S1.2 10 P = nI z := by rw [hS1]; simp [MS.a_2]
  have p11 : S1.2 11 P = kv := by rw [hS1]; simp [MS.a_2]
  have row : ∀ k, ¬ (7 ≤ k ∧ k ≤ 11) → S1.2 k = S.2 k := fun k hk' => funext fun i => g2 k i (by omega)
  have s1 : S1.1 = S.1 := by rw [hS1]; rfl
  have kr : ∀ p k, ¬ (p = P ∧ 13 ≤ k ∧ k ≤ 15) → K1.2 7 p k = K.2 7 p k := by
    intro p k c
    rw [hK1, KS.r_2, if_neg (by omega)]
    show ((K.r 7 P 14 (some (7, f'))).r 7 P 15 (some (7, s'))).2 7 p k = _
    rw [KS.r_2, if_neg (by omega), KS.r_2, if_neg (by omega)]
  have ki : ∀ p k, ¬ (p = P ∧ 11 ≤ k ∧ k ≤ 12) → K1.1 7 p k = K.1 7 p k := by
    intro p k c
    rw [hK1]
    show ((((K.r 7 P 14 (some (7, f'))).r 7 P 15 (some (7, s'))).i 7 P 11 (nI m)).i 7 P 12 (nI z)).1 7 p k = _
    rw [KS.i_1, if_neg (by omega), KS.i_1, if_neg (by omega)]
    rfl
  have k13 : K1.2 7 P 13 = nz kv := by rw [hK1, KS.r_2, if_pos ⟨rfl, rfl, rfl⟩]
  have k14 : K1.2 7 P 14 = some (7, f') := by
    rw [hK1, KS.r_2, if_neg (by omega)]
    show ((K.r 7 P 14 (some (7, f'))).r 7 P 15 (some (7, s'))).2 7 P 14 = _
    rw [KS.r_2, if_neg (by omega), KS.r_2, if_pos ⟨rfl, rfl, rfl⟩]
  have k15 : K1.2 7 P 15 = some (7, s') := by
    rw [hK1, KS.r_2, if_neg (by omega)]
    show ((K.r 7 P 14 (some (7, f'))).r 7 P 15 (some (7, s'))).2 7 P 15 = _
    rw [KS.r_2, if_pos ⟨rfl, rfl, rfl⟩]
  have k11 : K1.1 7 P 11 = nI m := by
    rw [hK1]
    show ((((K.r 7 P 14 (some (7, f'))).r 7 P 15 (some (7, s'))).i 7 P 11 (nI m)).i 7 P 12 (nI z)).1 7 P 11 = _
    rw [KS.i_1, if_neg (by omega), KS.i_1, if_pos ⟨rfl, rfl, rfl⟩]
  have k12 : K1.1 7 P 12 = nI z := by
    rw [hK1]
    show ((((K.r 7 P 14 (some (7, f'))).r 7 P 15 (some (7, s'))).i 7 P 11 (nI m)).i 7 P 12 (nI z)).1 7 P 12 = _
    rw [KS.i_1, if_pos ⟨rfl, rfl, rfl⟩]
  have nzn : ∀ q, 1 ≤ q → q ≤ 60 → nz (nI q) = some (7, q) := fun q h1 h2 => by unfold nz; rw [if_neg (by rw [nI_z h2]; omega), ixn (by omega)]
  -- the tree
  have tree : ∃ d' l', TPS S1 d' 0 r l' ∧ l'.Nodup ∧ ∀ x, x ∈ l' ↔ x ∈ l := by
    cases du with
    | zero => cases t7
    | succ du =>
      have t7' := t7
      obtain ⟨u1, u2, u3, u4, u5⟩ := t7
      rcases u5 with ⟨u5, -⟩ | ⟨u5, f0, s0, ll, lr, u6, u7, u8, u9, u10⟩
      · exact absurd hk u5
      · subst u8
        obtain ⟨n1, n2⟩ := List.nodup_cons.mp t8
        obtain ⟨n3, n4, n5⟩ := List.nodup_append.mp n2
        have ef : f0 = f := (nI_eq (by have := u9.here.2.1; omega) (by omega)).mp (by rw [← u6, hf])
        have es : s0 = s := (nI_eq (by have := u10.here.2.1; omega) (by omega)).mp (by rw [← u7, hs])
        subst ef es
        have cg : ∀ x, ¬ x = P → x ∈ l → ¬ S1.2 4 x = 0 ∧ S1.2 5 x = S.2 5 x ∧ S1.2 6 x = S.2 6 x ∧ (S.2 5 x = 4 → S1.2 7 x = S.2 7 x ∧ S1.2 8 x = S.2 8 x) := fun x hx hl => ⟨by rw [row 4 (by omega)]; exact (lm x hl).2.2, by rw [row 5 (by omega)], by rw [row 6 (by omega)], fun _ => ⟨g2 7 x (by omega), g2 8 x (by omega)⟩⟩
        have v9 : TPS S1 du P f0 ll := u9.cong (fun x hx => cg x (fun e => n1 (List.mem_append_left _ (e ▸ hx))) (t9 x (List.mem_cons_of_mem _ (List.mem_append_left _ hx))))
        have v10 : TPS S1 du P s0 lr := u10.cong (fun x hx => cg x (fun e => n1 (List.mem_append_right _ (e ▸ hx))) (t9 x (List.mem_cons_of_mem _ (List.mem_append_right _ hx))))
        have hv : ∃ lv, TPS S1 (du + 1) upu P lv ∧ lv.Nodup ∧ ∀ x, x ∈ lv ↔ x ∈ P :: (ll ++ lr) := by
          rcases hfs with ⟨rfl, rfl⟩ | ⟨rfl, rfl⟩
          · exact ⟨P :: (ll ++ lr), ⟨u1, u2, by rw [row 4 (by omega)]; exact u3, by rw [row 6 (by omega)]; exact u4, Or.inr ⟨by rw [row 5 (by omega)]; exact u5, f', s', ll, lr, p7, p8, rfl, v9, v10⟩⟩, t8, fun x => Iff.rfl⟩
          · refine ⟨P :: (lr ++ ll), ⟨u1, u2, by rw [row 4 (by omega)]; exact u3, by rw [row 6 (by omega)]; exact u4, Or.inr ⟨by rw [row 5 (by omega)]; exact u5, f', s', lr, ll, p7, p8, rfl, v10, v9⟩⟩, List.nodup_cons.mpr ⟨fun q => n1 ?_, List.nodup_append.mpr ⟨n4, n3, fun x hx y hy exy => n5 y hy x hx exy.symm⟩⟩, fun x => ?_⟩
            · rcases List.mem_append.mp q with q | q
              · exact List.mem_append_right _ q
              · exact List.mem_append_left _ q
            · simp only [List.mem_cons, List.mem_append]
              constructor
              · rintro (q | q | q)
                · exact Or.inl q
                · exact Or.inr (Or.inr q)
                · exact Or.inr (Or.inl q)
              · rintro (q | q | q)
                · exact Or.inl q
                · exact Or.inr (Or.inr q)
                · exact Or.inr (Or.inl q)
        obtain ⟨lv, hv1, hv2, hv3⟩ := hv
        obtain ⟨d', l', q1, q2, q3⟩ := TP.rep t7' hv1 t11 hv2 t2 t3 (by omega) (t9 P List.mem_cons_self) (fun x hx hxu => by
          obtain ⟨c1, c2, c3, c4⟩ := cg x (fun e => hxu (e ▸ List.mem_cons_self)) hx
          refine ⟨c1, c2, c3, fun k => ⟨?_, ?_⟩⟩
          · rw [(c4 k).1]; split
            · assumption
            · rfl
          · rw [(c4 k).2]; split
            · assumption
            · rfl) (fun x hx _ => (hv3 x).mp hx)
        refine ⟨d', l', ?_, q2, fun x => ?_⟩
        · have er : (if P = r then P else r) = r := by split
                                                       · assumption
                                                       · rfl
          rw [er] at q1
          exact q1
        · rw [q3, hv3]
          constructor
          · rintro (q | q)
            · exact q.1
            · exact t9 x q
          · intro q
            by_cases c : x ∈ P :: (ll ++ lr)
            · exact Or.inr c
            · exact Or.inl ⟨q, c⟩
  obtain ⟨d', l', tr1, tr2, tr3⟩ := tree
  have P1 : PRE K1 S1 a ly (j + 1) := by
    obtain ⟨w1, w2, w3, w4, w5, w6, w7, w8, w9⟩ := H4.mono (Nat.le_succ j)
    obtain ⟨q1, q2, q3, q4, q5, q6, q7, q8, q9⟩ := H3.nine
    have c11 : K1.1 11 = K.1 11 := by rw [hK1]; rfl
    have gp : RKgP K1 S1 a := by
      have := RKgP.of q8 H4
      unfold RKgP at this ⊢
      rw [row 4 (by omega), row 5 (by omega), row 14 (by omega), row 15 (by omega), row 29 (by omega), row 30 (by omega), row 31 (by omega), row 32 (by omega), row 33 (by omega), c11]
      exact this
    have cc : ∀ c, ¬ c = 7 → K1.1 c = K.1 c ∧ K1.2 c = K.2 c := by
      intro c hc
      refine ⟨funext fun p => funext fun k => ?_, funext fun p => funext fun k => ?_⟩
      · rw [hK1]
        show ((((K.r 7 P 14 (some (7, f'))).r 7 P 15 (some (7, s'))).i 7 P 11 (nI m)).i 7 P 12 (nI z)).1 c p k = _
        rw [KS.i_1, if_neg (by omega), KS.i_1, if_neg (by omega)]
        rfl
      · rw [hK1, KS.r_2, if_neg (by omega)]
        show ((K.r 7 P 14 (some (7, f'))).r 7 P 15 (some (7, s'))).2 c p k = _
        rw [KS.r_2, if_neg (by omega), KS.r_2, if_neg (by omega)]
    have nk : ∀ p, S.2 5 p = 1 ∨ S.2 5 p = 2 ∨ S.2 5 p = 3 → ¬ p = P := fun p hp' e => by
      subst e; rw [hk] at hp'; rcases hp' with q | q | q <;> exact absurd q (by decide)
    refine ⟨⟨?_, ?_, fun p hp' => ?_, fun p hp' => ?_, ?_, ?_, ?_, gp, fun p hp' ho' => ?_⟩, ?_, ?_, ⟨?_, ?_⟩, ?_, ?_, fun p hp' ho' hk' => ?_, ?_, ?_, ?_⟩
    · rw [row 5 (by omega)]
      obtain ⟨a1, a2, a3, a4, a5, a6, a7, a8⟩ := q1
      refine ⟨by rw [(cc 0 (by decide)).2]; exact a1, by rw [(cc 0 (by decide)).2]; exact a2, by rw [(cc 1 (by decide)).2]; exact a3, by rw [(cc 2 (by decide)).2]; exact a4, by rw [(cc 2 (by decide)).2]; exact a5, by rw [(cc 4 (by decide)).2]; exact a6, fun p hp' hw => ?_, fun p hp' hk' => ?_⟩
      · have np := nk p ((wr_or hw).elim Or.inl (fun q => Or.inr (Or.inl q)))
        rw [kr p 11 (by omega), kr p 12 (by omega), kr p 13 (by omega), (cc 9 (by decide)).2]
        exact a7 p hp' hw
      · have np := nk p (Or.inl hk')
        rw [kr p 15 (by omega), (cc 12 (by decide)).2]
        exact a8 p hp' hk'
    · unfold RKt; rw [(cc 1 (by decide)).1, (cc 1 (by decide)).2, (cc 3 (by decide)).2, s1, row 4 (by omega)]; exact q2
    · rw [ki p 0 (by omega), ki p 1 (by omega), ki p 3 (by omega), ki p 4 (by omega), ki p 5 (by omega), ki p 6 (by omega), ki p 7 (by omega), ki p 8 (by omega), ki p 9 (by omega), ki p 10 (by omega), row 5 (by omega), row 12 (by omega), row 13 (by omega), row 14 (by omega), row 15 (by omega), row 16 (by omega), row 17 (by omega), row 18 (by omega), row 19 (by omega)]
      exact q3 p hp'
    · obtain ⟨v4, v3, v2, v1⟩ := q4 p hp'
      rw [ki p 14 (by omega), ki p 15 (by omega), row 5 (by omega), row 20 (by omega), row 34 (by omega), row 35 (by omega), row 25 (by omega)]
      refine ⟨fun q => ?_, fun q => ?_, v2, v1⟩
      · by_cases e9 : p = P
        · subst e9; rw [k11, k12, p9, p10]; exact ⟨rfl, rfl⟩
        · rw [ki p 11 (by omega), ki p 12 (by omega), g2 9 p (by omega), g2 10 p (by omega)]; exact v4 q
      · rw [ki p 11 (fun e9 => nk p (Or.inr (Or.inr q)) e9.1)]; exact v3 q
    · unfold RKa; rw [row 5 (by omega), (cc 8 (by decide)).1, row 21 (by omega)]; exact q5
    · unfold RKl; rw [row 5 (by omega), (cc 9 (by decide)).1, (cc 10 (by decide)).1, row 22 (by omega), row 23 (by omega), row 24 (by omega)]; exact q6
    · unfold RKx; rw [row 5 (by omega), c11, row 25 (by omega), row 26 (by omega), row 27 (by omega), row 28 (by omega)]; exact q7
    · rw [row 4 (by omega)] at ho'
      obtain ⟨v1, v2⟩ := q9 p hp' ho'
      rw [kr p 2 (by omega), row 6 (by omega), row 5 (by omega)]
      refine ⟨v1, fun q => ?_⟩
      by_cases e9 : p = P
      · subst e9
        rw [k13, k14, k15, p7, p8, p11]
        have f1 : 1 ≤ f' ∧ f' ≤ 60 ∧ 1 ≤ s' ∧ s' ≤ 60 := by
          obtain ⟨f9, s9, x1, x2, x3, x4, x5, x6, x7, x8, -⟩ := sides_ok H4.1 H4.2.2.2.2.2.2.1 hp ho hk
          have y1 : f = f9 := (nI_eq (by omega) (by omega)).mp (by rw [← hf, x1])
          have y2 : s = s9 := (nI_eq (by omega) (by omega)).mp (by rw [← hs, x2])
          have y3 := (pnN_le x3).1
          have y4 := (pnN_le x4).1
          rcases hfs with ⟨c1, c2⟩ | ⟨c1, c2⟩ <;> omega
        exact ⟨rfl, (nzn f' f1.1 f1.2.1).symm, (nzn s' f1.2.2.1 f1.2.2.2).symm⟩
      · rw [kr p 13 (by omega), kr p 14 (by omega), kr p 15 (by omega), g2 11 p (by omega), g2 7 p (by omega), g2 8 p (by omega)]
        exact v2 q
    · unfold WFa; rw [s1, row 4 (by omega), row 5 (by omega)]; exact w1
    · unfold WFn at w2 ⊢
      rw [s1, row 16 (by omega), row 17 (by omega), row 34 (by omega), row 35 (by omega), row 25 (by omega), row 23 (by omega), row 22 (by omega), row 20 (by omega), row 19 (by omega)]
      refine ⟨w2.1, fun p hp' => ⟨(w2.2.1 p hp').1, ?_⟩, w2.2.2⟩
      by_cases e9 : p = P
      · subst e9
        rw [p11]
        rcases hkv with rfl | ⟨q, rfl, q1, -⟩
        · decide
        · have := (pnN_le q1).2
          exact ⟨by rw [nI_toInt (by omega)]; omega, by rw [nI_toInt (by omega)]; omega⟩
      · rw [g2 11 p (by omega)]; exact (w2.2.1 p hp').2
    · rw [row 25 (by omega), row 26 (by omega), row 27 (by omega), row 28 (by omega)]; exact w3.1
    · rw [row 23 (by omega), row 24 (by omega)]; exact w3.2.1
    · unfold WFq; rw [row 5 (by omega), row 21 (by omega)]; exact w4
    · rw [hS1]; exact ((((w5.set hPa (by decide)).set hPa (by decide)).set hPa (by decide)).set hPa (by decide)).set hPa (by decide)
    · rw [row 4 (by omega)] at ho' ⊢
      rw [row 5 (by omega)] at hk' ⊢
      by_cases e9 : p = P
      · subst e9
        rw [p9, p10, p11]
        refine ⟨⟨by rw [nI_toInt (by omega)]; omega, by rw [nI_toInt (by omega)]; omega⟩, ⟨by rw [nI_toInt (by omega)]; omega, by rw [nI_toInt (by omega)]; omega⟩, fun q => ?_, hkv⟩
        have := hz' (fun q' => q ((bits m hm).2.2.1.mpr q'))
        exact ⟨by rw [nI_toInt (by omega)]; omega, by rw [nI_toInt (by omega)]; omega⟩
      · rw [g2 9 p (by omega), g2 10 p (by omega), g2 11 p (by omega)]
        exact w6 p hp' ho' hk'
    · refine Or.inr ⟨d', r, l', by rw [s1]; exact t1, tr1, tr2, ?_, fun p hp' => ?_⟩
      · rw [row 5 (by omega), lvs_cO tr2 (fun q hq => by obtain ⟨c1, c2, c3⟩ := lm q ((tr3 q).mp hq); have := (pnN_le c2).1; omega)]
        rw [lvs_cO t3 (fun q hq => by obtain ⟨c1, c2, c3⟩ := lm q hq; have := (pnN_le c2).1; omega)] at t4
        refine Nat.le_trans (Nat.le_of_eq (cO_congr _ _ (fun p p1 p2 => ?_))) t4
        rw [decide_eq_decide.mpr (tr3 p)]
      · rw [row 4 (by omega), tr3]; exact t5 p hp'
    · rw [s1]; exact w8.1
    · rw [row 12 (by omega), row 13 (by omega), row 14 (by omega), row 15 (by omega)]; exact w8.2.1
  rw [← hK1] at H1
  rw [← hS1] at hM
  have H1s : Hrep h1 A ρ (cT L a (S1.2 5)) K1 := by rw [row 5 (by omega)]; exact H1
  obtain ⟨h3, K3, S3, c, y1, y2, y3, y4, y5, y6, y7, y8, y9, y10⟩ := lay_all (n := n) (n' := n) H1s P1 (by omega) (by omega)
  have kp : KEEP K K1 := by rw [hK1]; exact ⟨rfl, rfl, rfl, rfl⟩
  have k2 : K1.1 2 = K.1 2 ∧ K1.1 5 = K.1 5 ∧ K1.1 6 = K.1 6 := by rw [hK1]; exact ⟨rfl, rfl, rfl⟩
  refine PO_mk (r := 1) (S' := S3) (e' := e) (ly' := ly) e1 e2 e3 H (h1 := h3) (hG _ h3 y1) (hM S3 y2) (by rw [row 5 (by omega)] at y3; exact y3) (kp.tr y4) (by rw [y9 5 (by omega) (by omega) (by omega), row 5 (by omega)]) (y5.with (RKe.eq (K := K) (S := S) H3.2.2.2.2.2.2.2.2.1 (by rw [y6.1, k2.1]) (by rw [y6.2.1, k2.2.1]) (by rw [y6.2.2, k2.2.2]) (by rw [y8, s1]) (by rw [y9 43 (by omega) (by omega) (by omega), row 43 (by omega)]))) y7 (fun p hp' => ?_)
  rw [y9 21 (by omega) (by omega) (by omega), row 21 (by omega)]
  exact H5 p hp'
