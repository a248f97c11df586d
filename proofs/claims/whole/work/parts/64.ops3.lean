theorem cas_of {h : gHp} {x : Nat} {C : String} (q : gInst h (some x) C = some 1) : gCas h (some x) C = true := by
  unfold gInst at q
  unfold gCas
  cases e : gtag h x with
  | none => simp [e] at q
  | some t => simp [e] at q ⊢; exact q
theorem gInst_setI (h : gHp) (b k : Nat) (x : Int32) (o : Option Nat) (C : String) : gInst (gsetI h b k x) o C = gInst h o C := rfl
theorem gCas_setI (h : gHp) (b k : Nat) (x : Int32) (o : Option Nat) (C : String) : gCas (gsetI h b k x) o C = gCas h o C := rfl
/-- what a pane that can be written to has -/
theorem wr_facts {h : gHp} {A : Nat → Nat → Nat} {ρ : Nat → Nat × Nat} {L a P : Nat} {K : KS} {S : MS} (H : Hrep h A ρ (cT L a (S.2 5)) K) (hS : RKs K a (S.2 5)) (hp : pnN a P = true) (hw : wrK (S.2 5 P) = true) : gtin (gtag h (A 7 P)) [1, 6] = true ∧ gref h (A 7 P) 11 = some (A 8 P) ∧ gref h (A 7 P) 12 = some (A 9 P) ∧ gref h (A 7 P) 13 = some (A 11 P) ∧ gtag h (A 8 P) = some (21, 4) ∧ gtag h (A 9 P) = some (2, 3) ∧ gref h (A 9 P) 0 = some (A 10 P) ∧ gtag h (A 10 P) = some (20, 40) := by
  have t7 : cT L a (S.2 5) 7 P = some (cTag (S.2 5 P)) := cT7 hp
  obtain ⟨r1, r2, r3, r4⟩ := hS.2.2.2.2.2.2.1 P hp hw
  refine ⟨?_, by rw [H.ref t7, r1]; rfl, by rw [H.ref t7, r2]; rfl, by rw [H.ref t7, r3]; rfl, H.tag (cT8 hp hw), H.tag (cT9 hp hw), by rw [H.ref (cT9 hp hw), r4]; rfl, H.tag (cT10 hp hw)⟩
  rw [H.tag t7]
  simp only [wrK, Bool.or_eq_true, decide_eq_true_eq] at hw
  rcases hw with q | q <;> rw [q] <;> rfl
theorem gA4 {k : Nat} (hk : k < 4) : gArr (some (21, 4)) 21 (nI k) = true := by
  show (Nat.beq 21 21 && inB (nI k) 4) = true
  rw [inn hk (by decide)]; rfl
theorem ix4 {P k : Nat} (hP : P ≤ 60) (hk : k < 4) : (4 : Int32) * nI P + nI k = nI (4 * P + k) ∧ ix (nI (4 * P + k)) = 4 * P + k ∧ inB (nI (4 * P + k)) 244 = true :=
  ⟨by rw [show (4 : Int32) = nI 4 from rfl, pk_mul, nI_add], ixn (by omega), inn (by omega) (by decide)⟩
theorem RKa.set {K : KS} {S : MS} {a P k : Nat} {x : Int32} (H : RKa K S a) (hk : k < 4) : RKa (K.i 8 P k x) (S.a 21 (4 * P + k) x) a := by
  intro p hp hw k' hk'
  rw [KS.i_1, MS.a_2, H p hp hw k' hk']
  by_cases e : p = P ∧ k' = k
  · rw [if_pos ⟨rfl, e⟩, if_pos ⟨rfl, by omega⟩]
  · rw [if_neg (fun q => e q.2), if_neg (fun q => e (by omega))]
theorem WFq.set {S : MS} {a P k : Nat} {x : Int32} (H : WFq S a) (hw : wrK (S.2 5 P) = true) (hk : k < 4) (hx : x = 0 ∨ x = 1) : WFq (S.a 21 (4 * P + k) x) a := by
  refine ⟨fun i hi => ?_, fun p hp hn k' hk' => ?_⟩
  · rw [MS.a_2]
    split
    · exact hx
    · exact H.1 i hi
  · rw [MS.a_2, if_neg]
    · exact H.2 p hp hn k' hk'
    · intro q
      have e : p = P := by omega
      subst e
      have hn : wrK (S.2 5 p) = false := hn
      rw [hw] at hn
      cases hn
theorem WFz.set21 {S : MS} {a P k : Nat} {x : Int32} (H : WFz S a) (h1 : P ≤ a) (hk : k < 4) : WFz (S.a 21 (4 * P + k) x) a := by
  intro p hp hq
  refine ⟨fun k' hk' => ?_, fun k' hk' => ?_⟩
  · rw [MS.a_2, if_neg]
    · exact (H p hp hq).1 k' hk'
    · intro q
      rw [q.1] at hk'
      revert hk'
      decide
  · rw [MS.a_2, if_neg (by omega)]; exact (H p hp hq).2 k' hk'

theorem p_picture {n b L ax am j : Nat} {h : gHp} (hI : Iv b L ax am j h) (z1 z2 : Int32) : PO_picture n (Iv b L ax am (j + 1)) b L ax am h z1 z2 := by
  obtain ⟨A, ρ, K, S, a, e, ly, rfl, rfl, rfl, H⟩ := hI
  obtain ⟨H1, H2, H3, H4, H5⟩ := id H
  obtain ⟨f1, f2, f3, f4, f5⟩ := top_facts H1 H3.1
  have hf := e_find H1 H3.1 H3.2.1 n z1
  by_cases c1 : opB S z1 = true
  case neg => exact PO_sm (r := -1) rfl rfl rfl H (by simp [f_G_picture, f1, f2, f4, g99, g77, hf, c1]) (by show f_M_picture n S _ _ = _; simp [f_M_picture, e_isPane, c1, b32])
  obtain ⟨P, rfl, p1, p2, p3, p4⟩ := opB_nI H4.1 c1
  have iP := ixn (show P < 2 ^ 31 by omega)
  have bP : inB (nI P) 61 = true := inn (by omega) (by decide)
  have t7 : cT L a (S.2 5) 7 P = some (cTag (S.2 5 P)) := cT7 p3
  have k5 := H4.1.2.2.2.2.2 P p3
  by_cases c2 : rgB z2 0 999 = true
  case neg => exact PO_sm (r := -1) rfl rfl rfl H (by rcases rgB_f c2 with c2' | c2' <;> simp [f_G_picture, f1, f2, f4, g99, g77, hf, c1, c2']) (by show f_M_picture n S _ _ = _; simp [f_M_picture, e_isPane, e_in, c1, c2, b32])
  have c2' := rgB_t.mp c2
  by_cases c3 : S.2 5 P = 3
  · have tg : gtag h (A 7 P) = some (5, 12) := by rw [H1.tag t7, c3]; rfl
    have k11 : gint h (A 7 P) 11 = S.2 20 P := by rw [H1.int t7, (H3.2.2.2.1 P p3).2.1 c3]
    have g1 : gtin (some (5, 12)) [5] = true := rfl
    have hb := rgB_bd (n := 999) (N := 999) (by decide) c2
    refine PO_mk (r := S.2 20 P) (S' := S.a 20 P z2) (e' := e) (ly' := ly) rfl rfl rfl H (by simp [f_G_picture, f1, f2, f4, g99, g77, hf, c1, iP, tg, c2'.1, c2'.2, gInst, gCas, io_Pair_4, io_Pair_6, io_Pair_1, io_Pair_5, io_Pair_3, io_Writing_4, io_Writing_6, io_Writing_1, io_Writing_5, io_Writing_3, io_Grid_4, io_Grid_6, io_Grid_1, io_Grid_5, io_Grid_3, io_Text_4, io_Text_6, io_Text_1, io_Text_5, io_Text_3, io_Picture_4, io_Picture_6, io_Picture_1, io_Picture_5, io_Picture_3, g1, k11]) (by show f_M_picture n S _ _ = _; simp [f_M_picture, e_isPane, e_in, c1, c2, b32, bP, iP, c3]) (H1.i t7 11 z2) ⟨rfl, rfl, rfl, rfl⟩ rfl ⟨H3.1, H3.2.1, H3.2.2.1, fun p hp => ?_, H3.2.2.2.2⟩ ⟨H4.1, ⟨fun p hp => ?_, H4.2.1.2⟩, H4.2.2.1, H4.2.2.2.1, H4.2.2.2.2.1.set (pnN_le p3).2 (by decide), H4.2.2.2.2.2⟩ H5
    · obtain ⟨u4, u3, u2, u1⟩ := H3.2.2.2.1 p hp
      refine ⟨fun q => ⟨?_, (u4 q).2⟩, fun q => upd1 (f := fun p => K.1 7 p 11) row_eq (u3 q), u2, u1⟩
      rw [KS.i_1, if_neg]
      · exact (u4 q).1
      · rintro ⟨-, rfl, -⟩
        have q : S.2 5 p = 4 := q
        rw [c3] at q
        revert q
        decide
    · obtain ⟨w1, w2, w3, w4, w5, w6, w7, w8, w9⟩ := (H4.2.1.mono (Nat.le_succ j)).1 p hp
      refine ⟨w1, w2, w3, w4, w5, w6, w7, w8, ?_⟩
      show bd (if 20 = 20 ∧ p = P then z2 else S.2 20 p) 999
      split
      · exact hb
      · exact w9
  · obtain ⟨n1, n2, n3, n4, n5⟩ := no_inst H1 H4.1 p3
    exact PO_sm (r := -3) rfl rfl rfl H (by simp [f_G_picture, f1, f2, f4, g99, g77, hf, c1, iP, c2'.1, c2'.2, n3, c3, b32]) (by show f_M_picture n S _ _ = _; simp [f_M_picture, e_isPane, e_in, c1, c2, b32, bP, iP, c3])

theorem p_echo {n b L ax am j : Nat} {h : gHp} (hI : Iv b L ax am j h) (z1 z2 : Int32) (hz : z2 = 0 ∨ z2 = 1) : PO_echo n (Iv b L ax am (j + 1)) b L ax am h z1 z2 := by
  obtain ⟨A, ρ, K, S, a, e, ly, rfl, rfl, rfl, H⟩ := hI
  obtain ⟨H1, H2, H3, H4, H5⟩ := id H
  obtain ⟨f1, f2, f3, f4, f5⟩ := top_facts H1 H3.1
  have hf := e_find H1 H3.1 H3.2.1 n z1
  by_cases c1 : opB S z1 = true
  case neg => exact PO_sm (r := -1) rfl rfl rfl H (by simp [f_G_echo, f1, f2, f4, g99, g77, hf, c1]) (by show f_M_echo n S _ _ = _; simp [f_M_echo, e_isPane, c1, b32])
  obtain ⟨P, rfl, p1, p2, p3, p4⟩ := opB_nI H4.1 c1
  have iP := ixn (show P < 2 ^ 31 by omega)
  have bP : inB (nI P) 61 = true := inn (by omega) (by decide)
  have t7 : cT L a (S.2 5) 7 P = some (cTag (S.2 5 P)) := cT7 p3
  have k5 := H4.1.2.2.2.2.2 P p3
  obtain ⟨n1, n2, n3, n4, n5⟩ := no_inst H1 H4.1 p3
  have hwr : f_M_isWritable n S (nI P) = some (b32 (wrK (S.2 5 P)), S) := by rw [e_isWritable n S (nI P) bP, wrB, iP]; rfl
  by_cases c3 : wrK (S.2 5 P) = true
  · obtain ⟨w1, w2, w3, w4, w5, w6, w7, w8⟩ := wr_facts H1 H3.1 p3 c3
    obtain ⟨-, -, -, -, -, -, -, -, -, k10⟩ := pane_ints H1 H3.2.2.1 p3
    have n5' : gInst h (some (A 7 P)) "GlkPanes$Writing" = some 1 := by rw [n5, c3]; rfl
    have n6 := cas_of n5'
    have zz : isZ z2 = true := by rcases hz with rfl | rfl <;> rfl
    refine PO_mk (r := if S.2 19 P = 0 then 1 else 0) (S' := S.a 19 P (if z2 = 0 then 1 else 0)) (e' := e) (ly' := ly) rfl rfl rfl H (by by_cases c4 : S.2 19 P = 0 <;> simp [f_G_echo, f1, f2, f4, g99, g77, hf, c1, iP, n5', n6, w1, k10, c4, zz]) (by show f_M_echo n S _ _ = _; by_cases c4 : S.2 19 P = 0 <;> by_cases c5 : z2 = 0 <;> simp [f_M_echo, e_isPane, e_in, c1, hwr, c3, b32, bP, iP, c4, c5, isZ]) (H1.i t7 10 z2) ⟨rfl, rfl, rfl, rfl⟩ rfl ⟨H3.1, H3.2.1, fun p hp => ?_, H3.2.2.2⟩ ⟨H4.1, ⟨(H4.2.1.mono (Nat.le_succ j)).1, fun p hp => ?_, H4.2.1.2.2⟩, H4.2.2.1, H4.2.2.2.1, H4.2.2.2.2.1.set (pnN_le p3).2 (by decide), H4.2.2.2.2.2⟩ H5
    · obtain ⟨u0, u1, u3, u4, u5, u6, u7, u8, u9, u10⟩ := H3.2.2.1 p hp
      refine ⟨u0, u1, u3, u4, u5, u6, u7, u8, u9, ?_⟩
      show (K.i 7 P 10 z2).1 7 p 10 = if (if 19 = 19 ∧ p = P then (if z2 = 0 then 1 else 0) else S.2 19 p) = 0 then 1 else 0
      rw [KS.i_1]
      by_cases e9 : p = P
      · have q9 : (if 19 = 19 ∧ p = P then (if z2 = 0 then (1 : Int32) else 0) else S.2 19 p) = if z2 = 0 then 1 else 0 := if_pos ⟨rfl, e9⟩
        rw [if_pos ⟨rfl, e9, rfl⟩, q9]
        rcases hz with rfl | rfl <;> rfl
      · have q9 : (if 19 = 19 ∧ p = P then (if z2 = 0 then (1 : Int32) else 0) else S.2 19 p) = S.2 19 p := if_neg (fun q => e9 q.2)
        rw [if_neg (fun q => e9 q.2.1), q9]
        exact u10
    · refine ⟨?_, (H4.2.1.2.1 p hp).2⟩
      show (if 19 = 19 ∧ p = P then (if z2 = 0 then (1 : Int32) else 0) else S.2 19 p) = 0 ∨ (if 19 = 19 ∧ p = P then (if z2 = 0 then (1 : Int32) else 0) else S.2 19 p) = 1
      split
      · split
        · exact Or.inr rfl
        · exact Or.inl rfl
      · exact (H4.2.1.2.1 p hp).1
  · exact PO_sm (r := -3) rfl rfl rfl H (by simp [f_G_echo, f1, f2, f4, g99, g77, hf, c1, iP, n5, c3, b32]) (by show f_M_echo n S _ _ = _; simp [f_M_echo, e_isPane, c1, hwr, c3, b32])

theorem p_pane {n b L ax am j : Nat} {h : gHp} (hI : Iv b L ax am j h) (z1 z2 : Int32) : PO_pane n (Iv b L ax am (j + 1)) b L ax am h z1 z2 := by
  obtain ⟨A, ρ, K, S, a, e, ly, rfl, rfl, rfl, H⟩ := hI
  obtain ⟨H1, H2, H3, H4, H5⟩ := id H
  obtain ⟨f1, f2, f3, f4, f5⟩ := top_facts H1 H3.1
  have hf := e_find H1 H3.1 H3.2.1 n z1
  by_cases c1 : opB S z1 = true
  case neg => exact PO_sm (r := -1) rfl rfl rfl H (by simp [f_G_pane, f1, f2, f4, g99, g77, hf, c1]) (by show f_M_pane n S _ _ = _; simp [f_M_pane, e_isPane, c1, b32])
  obtain ⟨P, rfl, p1, p2, p3, p4⟩ := opB_nI H4.1 c1
  have iP := ixn (show P < 2 ^ 31 by omega)
  have bP : inB (nI P) 61 = true := inn (by omega) (by decide)
  have t7 : cT L a (S.2 5) 7 P = some (cTag (S.2 5 P)) := cT7 p3
  have k5 := H4.1.2.2.2.2.2 P p3
  have tg := H1.tag t7
  obtain ⟨k0, k1, k3, k4, k5', k6, k7, k8, k9, k10⟩ := pane_ints H1 H3.2.2.1 p3
  have r2 : gref h (A 7 P) 2 = aM A (nz (S.2 6 P)) := by rw [H1.ref t7, (H3.2.2.2.2.2.2.2.2.2 P p3 p4).1]
  have nm := e_numberOf H1 H3.2.2.1 H4.1.1 n (v := S.2 6 P) (by rcases above_ok H4.1 H4.2.2.2.2.2.2.1 p2 p4 with c | ⟨q, c1, c2, -⟩; exact Or.inl c; exact Or.inr ⟨q, c1, c2⟩) 0
  have nm' : (if S.2 6 P = 0 then (0 : Int32) else S.2 6 P) = S.2 6 P := by split; exact (by assumption : S.2 6 P = 0).symm; rfl
  rw [nm'] at nm
  by_cases c2 : rgB z2 0 9 = true
  case neg =>
    refine PO_sm (r := -1) rfl rfl rfl H ?_ (by show f_M_pane n S _ _ = _; simp [f_M_pane, e_isPane, e_in, c1, c2, b32])
    have hne : ∀ x : Int32, rgB x 0 9 = true → ¬ z2 = x := fun x hx q => c2 (q ▸ hx)
    simp [f_G_pane, f1, f2, f4, g99, g77, hf, c1, hne 0 (by decide), hne 1 (by decide), hne 2 (by decide), hne 3 (by decide), hne 4 (by decide), hne 5 (by decide), hne 6 (by decide), hne 7 (by decide), hne 8 (by decide), hne 9 (by decide)]
  obtain ⟨w, hw, rfl⟩ : ∃ w : Nat, w ≤ 9 ∧ z2 = nI w := nI_of2 (M := 9) (by decide) (rgB_t.mp c2).1 (rgB_t.mp c2).2
  rcases (by omega : w = 0 ∨ w = 1 ∨ w = 2 ∨ w = 3 ∨ w = 4 ∨ w = 5 ∨ w = 6 ∨ w = 7 ∨ w = 8 ∨ w = 9) with rfl | rfl | rfl | rfl | rfl | rfl | rfl | rfl | rfl | rfl
  · exact PO_sm (r := S.2 5 P) rfl rfl rfl H (by show f_G_pane n h _ _ 0 = _; simp [f_G_pane, f1, f2, f4, g99, g77, hf, c1, iP, tg, cTag_pane, k1]) (by show f_M_pane n S _ 0 = _; have c2 : rgB 0 0 9 = true := c2; simp [f_M_pane, e_isPane, e_in, c1, c2, b32, bP, iP])
  · exact PO_sm (r := S.2 14 P) rfl rfl rfl H (by show f_G_pane n h _ _ 1 = _; simp [f_G_pane, f1, f2, f4, g99, g77, hf, c1, iP, tg, cTag_pane, k5']) (by show f_M_pane n S _ 1 = _; have c2 : rgB 1 0 9 = true := c2; simp [f_M_pane, e_isPane, e_in, c1, c2, b32, bP, iP])
  · exact PO_sm (r := S.2 15 P) rfl rfl rfl H (by show f_G_pane n h _ _ 2 = _; simp [f_G_pane, f1, f2, f4, g99, g77, hf, c1, iP, tg, cTag_pane, k6]) (by show f_M_pane n S _ 2 = _; have c2 : rgB 2 0 9 = true := c2; simp [f_M_pane, e_isPane, e_in, c1, c2, b32, bP, iP])
  · exact PO_sm (r := S.2 12 P) rfl rfl rfl H (by show f_G_pane n h _ _ 3 = _; simp [f_G_pane, f1, f2, f4, g99, g77, hf, c1, iP, tg, cTag_pane, k3]) (by show f_M_pane n S _ 3 = _; have c2 : rgB 3 0 9 = true := c2; simp [f_M_pane, e_isPane, e_in, c1, c2, b32, bP, iP])
  · exact PO_sm (r := S.2 13 P) rfl rfl rfl H (by show f_G_pane n h _ _ 4 = _; simp [f_G_pane, f1, f2, f4, g99, g77, hf, c1, iP, tg, cTag_pane, k4]) (by show f_M_pane n S _ 4 = _; have c2 : rgB 4 0 9 = true := c2; simp [f_M_pane, e_isPane, e_in, c1, c2, b32, bP, iP])
  · exact PO_sm (r := S.2 6 P) rfl rfl rfl H (by show f_G_pane n h _ _ 5 = _; simp [f_G_pane, f1, f2, f4, g99, g77, hf, c1, iP, tg, cTag_pane, r2, nm]) (by show f_M_pane n S _ 5 = _; have c2 : rgB 5 0 9 = true := c2; simp [f_M_pane, e_isPane, e_in, c1, c2, b32, bP, iP])
  · exact PO_sm (r := S.2 16 P) rfl rfl rfl H (by show f_G_pane n h _ _ 6 = _; simp [f_G_pane, f1, f2, f4, g99, g77, hf, c1, iP, tg, cTag_pane, k7]) (by show f_M_pane n S _ 6 = _; have c2 : rgB 6 0 9 = true := c2; simp [f_M_pane, e_isPane, e_in, c1, c2, b32, bP, iP])
  · exact PO_sm (r := S.2 17 P) rfl rfl rfl H (by show f_G_pane n h _ _ 7 = _; simp [f_G_pane, f1, f2, f4, g99, g77, hf, c1, iP, tg, cTag_pane, k8]) (by show f_M_pane n S _ 7 = _; have c2 : rgB 7 0 9 = true := c2; simp [f_M_pane, e_isPane, e_in, c1, c2, b32, bP, iP])
  · exact PO_sm (r := S.2 18 P) rfl rfl rfl H (by show f_G_pane n h _ _ 8 = _; simp [f_G_pane, f1, f2, f4, g99, g77, hf, c1, iP, tg, cTag_pane, k9]) (by show f_M_pane n S _ 8 = _; have c2 : rgB 8 0 9 = true := c2; simp [f_M_pane, e_isPane, e_in, c1, c2, b32, bP, iP])
  · by_cases c3 : S.2 19 P = 0
    · exact PO_sm (r := 1) rfl rfl rfl H (by show f_G_pane n h _ _ 9 = _; simp [f_G_pane, f1, f2, f4, g99, g77, hf, c1, iP, tg, cTag_pane, k10, c3]) (by show f_M_pane n S _ 9 = _; have c2 : rgB 9 0 9 = true := c2; simp [f_M_pane, e_isPane, e_in, c1, c2, b32, bP, iP, c3])
    · exact PO_sm (r := 0) rfl rfl rfl H (by show f_G_pane n h _ _ 9 = _; simp [f_G_pane, f1, f2, f4, g99, g77, hf, c1, iP, tg, cTag_pane, k10, c3]) (by show f_M_pane n S _ 9 = _; have c2 : rgB 9 0 9 = true := c2; simp [f_M_pane, e_isPane, e_in, c1, c2, b32, bP, iP, c3])
