theorem p_close {n b L ax am j : Nat} {h : gHp} (hI : Iv b L ax am j h) (hn : 6000 ≤ n) (z1 : Int32) : PO_close n (Iv b L ax am (j + 1)) b L ax am h z1 := by
  obtain ⟨A, ρ, K, S, a, e, ly, rfl, rfl, rfl, H⟩ := hI
  obtain ⟨H1, H2, H3, H4, H5⟩ := id H
  obtain ⟨f1, f2, f3, f4, f5⟩ := top_facts H1 H3.1
  have hf := e_find H1 H3.1 H3.2.1 n z1
  by_cases c1 : opB S z1 = true
  case neg => exact PO_sm (r := -1) rfl rfl rfl H (by simp [f_G_close, f1, f2, f4, g99, g77, hf, c1]) (by show f_M_close n S _ = _; simp [f_M_close, e_isPane, c1, b32])
  obtain ⟨P, rfl, p1, p2, p3, p4⟩ := opB_nI H4.1 c1
  have iP := ixn (show P < 2 ^ 31 by omega)
  have bP : inB (nI P) 61 = true := inn (by omega) (by decide)
  have ha := H4.1.1
  have t7 : cT L a (S.2 5) 7 P = some (cTag (S.2 5 P)) := cT7 p3
  have tP := H1.tag t7
  obtain ⟨r, l, du, upu, lP, t1, t2, t3, t4, t5, t6, t7', t8, t9, t10, t11, lm⟩ := sub_of H4.1 H4.2.2.2.2.2.2.1 p2 p4
  have hRr := H3.2.2.2.2.2.2.2.2.2
  have gR : ∀ (hx : gHp) (b' k' : Nat) (o : Option Nat) (y : Nat), gtag (gsetR hx b' k' o) y = gtag hx y := fun _ _ _ _ _ => rfl
  have hPlP : P ∈ lP := t7'.here.2.2.2.2
  have hKl : ∀ y, y ∈ l → pnN a y = true ∧ K.2 7 y 2 = nz (S.2 6 y) := fun y hy => ⟨(lm y hy).2.1, (hRr y (lm y hy).2.1 (lm y hy).2.2).1⟩
  have s6P : S.2 6 P = nI upu := t7'.here.2.2.2.1
  have r2P : gref h (A 7 P) 2 = aM A (nz (nI upu)) := by rw [H1.ref t7, (hRr P p3 p4).1, s6P]
  show POg _ _ _ _ _ (f_G_close n h (A 0 0) (nI P)) (fun S => f_M_close n S (nI P))
  -- what the class does around it
  have hG0 : ∀ h3, f_Tree_remove n h (A 1 0) (some (A 7 P)) = some h3 → gtin (gtag h3 (A 7 P)) [1, 3, 4, 5, 6] = true → f_G_close n h (A 0 0) (nI P) = some (gint h3 (A 7 P) 9, h3) := by
    intro h3 x1 x2
    simp only [f_G_close, f1, f2, f4, g99, g77, hf, c1, iP, Option.bind_some, cond_true, if_true, reduceCtorEq, if_false, reduceIte, x1, x2]
  have nP0 : ∀ x, x ∈ l → ¬ nI x = nI 0 := fun x hx => by rw [nI_eq (by have := (lm x hx).1; omega) (by omega)]; have := (pnN_le (lm x hx).2.1).1; omega
  by_cases cr : P = r
  · -- all panes go
    have eU : upu = 0 := by
      rcases t10 with q | q
      · exact absurd (by
          have e0 : nI upu = nI 0 := by rw [← s6P, cr]; exact t2.here.2.2.2.1
          exact (nI_eq (by omega) (by omega)).mp e0) (by have := (pnN_le (lm upu q.1).2.1).1; omega)
      · exact q.2
    subst eU
    have elP : lP = l := by
      have t2' := t2
      rw [← cr] at t2'
      exact (t2'.uniq t7').symm
    subst elP
    have e0 : aM A (nz (nI 0)) = none := rfl
    have t1s : gtag h (A 1 0) = some (7, 5) := f4
    have ab : ((S.f 3 0).a 6 P 0).2 6 = S.2 6 := by
      funext x
      rw [MS.a_2]
      show (if 6 = 6 ∧ x = P then 0 else S.2 6 x) = _
      by_cases q : x = P
      · rw [if_pos ⟨rfl, q⟩, q, s6P]; rfl
      · rw [if_neg (fun q' => q q'.2)]
    refine cl_fin (P := P) (l := lP) (lP := lP) (l' := []) (lc := lP) (x2 := nI 0) (Kc := K.r 1 0 2 none) (hc := gsetR h (A 1 0) 2 none) (Sc := (S.f 3 0).a 6 P 0) rfl rfl rfl H p3 t5 t4 t3 lm hPlP (fun x => ?_) (fun x => ⟨fun q => ⟨q, nP0 x q⟩, fun q => q.1⟩) (H1.r (c := 1) (p := 0) (t := (7, 5)) rfl 2 none clo_none) rfl (fun c q1 q2 q3 => ?_) ?_ ?_ (fun x hx => ?_) (fun p k q1 q2 => ?_) (fun x hx => absurd hx (by simp)) (fun k hk => ?_) (fun k q1 q2 q3 => ?_) (fun k q1 q2 p q3 q4 => ?_) (Or.inl ⟨rfl, rfl⟩) List.nodup_nil (fun n' S' x q1 q2 q3 => ?_) (fun n' h' K' x q1 q2 q3 q4 q5 => ?_) hn (fun h1 h2 h3 c q1 q2 q3 q4 q5 q6 => hG0 h3 ?_ q6) ?_
    · simp only [List.not_mem_nil, false_iff]
      exact fun q => q.1.2 q.1.1
    · funext p k; rw [KS.r_2, if_neg (fun q => q1 q.1)]
    · rw [KS.r_2, if_neg (by omega)]
    · rw [KS.r_2, if_pos ⟨rfl, rfl, rfl⟩]; rfl
    · rw [KS.r_2, if_neg (by omega), H3.2.1.2.2.2.2 x hx]
      by_cases q : S.2 4 x = 0
      · rw [if_pos q, if_neg (fun q' => (t5 x hx).mpr q' q)]
      · rw [if_neg q, if_pos ((t5 x hx).mp q)]
    · rw [KS.r_2, if_neg (by omega)]
    · show (if k = 3 then 0 else S.1 k) = _
      rw [if_neg hk]
    · funext y; rw [MS.a_2, if_neg (fun q => q1 q.1)]; rfl
    · rw [MS.a_2, if_neg (by have := (pnN_le p3).2; omega)]
      exact (H4.2.2.2.2.1 p q3 q4).1 k (by rcases (by omega : k = 6 ∨ k = 7 ∨ k = 8) with e | e | e <;> (subst e; decide))
    · rw [decide_eq_true q3]
      exact wi_in (op := S.2 4) (kd := S.2 5) (ab := S.2 6) (fi := S.2 7) (se := S.2 8) (by rw [q2, ab]) t7' t8 q3 (by omega)
    · rw [decide_eq_true q4]
      exact be_in ha q2 t7' t8 (by omega) (fun y hy => ⟨(hKl y hy).1, by rw [q3, KS.r_2, if_neg (by omega)]; exact (hKl y hy).2⟩) q4 q5 q1
    · unfold f_Tree_remove
      simp only [Option.bind_some, tP, cTag_pane, cond_true, r2P, e0, if_true, reduceIte, t1s, g77, g77', gR, q1, q2, q3, q4, q5]
    · show f_M_close n S (nI P) = _
      unfold f_M_close f_M_close_B59
      simp only [e_isPane, c1, b32_t, show ¬ (1 : Int32) = 0 from by decide, if_false, reduceIte, Option.bind_some, bP, cond_true, iP, s6P, show nI 0 ≤ 0 from by decide, if_true]
      rfl
  · -- its pair goes with it
    obtain ⟨u, u1, u2, u3, u4, u5⟩ := t2.par P (t9 P hPlP) cr
    have eu : upu = u := (nI_eq (by omega) (by omega)).mp (by rw [← s6P, u4])
    subst eu
    obtain ⟨-, hpu, ho⟩ := lm upu u1
    have up1 := (pnN_le hpu).1
    have unP : ¬ upu ∈ lP := by
      rcases t10 with q | q
      · exact q.2.2
      · exact absurd q.1 cr
    -- the part at the pair
    obtain ⟨dU, uu, lU, v1, v2, v3, v4, v5⟩ := t2.sub_nd t3 upu u1
    have uu60 : uu ≤ 60 := by
      rcases v5 with q | q
      · exact (lm uu q.1).1
      · omega
    cases dU with
    | zero => cases v2
    | succ dU =>
    have v2' := v2
    obtain ⟨w1, w2, w3, w4, w5⟩ := v2
    rcases w5 with ⟨w5, -⟩ | ⟨w5, f, s, ll, lr, w6, w7, w8, w9, w10⟩
    · exact absurd u3 w5
    subst w8
    obtain ⟨m1, m2⟩ := List.nodup_cons.mp v3
    obtain ⟨m3, m4, m5⟩ := List.nodup_append.mp m2
    have hf1 := w9.here
    have hs1 := w10.here
    have nfs : ¬ f = s := fun q => m5 f hf1.2.2.2.2 f (by rw [q]; exact hs1.2.2.2.2) rfl
    -- the other side O
    obtain ⟨O, lO, o1, o2, o3, o4, o5, o6⟩ : ∃ O lO, TPS S dU upu O lO ∧ lO.Nodup ∧ (∀ x, x ∈ upu :: (ll ++ lr) ↔ x = upu ∨ x ∈ lP ∨ x ∈ lO) ∧ (∀ x, x ∈ lP → ¬ x ∈ lO) ∧ ¬ upu ∈ lO ∧ ((S.2 7 upu = nI P ∧ S.2 8 upu = nI O) ∨ (¬ S.2 7 upu = nI P ∧ S.2 7 upu = nI O)) := by
      rcases u5 with u5 | u5
      · have e9 : f = P := (nI_eq (by have := hf1.2.1; omega) (by omega)).mp (by rw [← w6, u5])
        subst e9
        have el := w9.uniq t7'
        subst el
        exact ⟨s, lr, w10, m4, fun x => by simp only [List.mem_cons, List.mem_append], fun x q q' => m5 x q x q' rfl, fun q => m1 (List.mem_append_right _ q), Or.inl ⟨u5, w7⟩⟩
      · have e9 : s = P := (nI_eq (by have := hs1.2.1; omega) (by omega)).mp (by rw [← w7, u5])
        subst e9
        have el := w10.uniq t7'
        subst el
        refine ⟨f, ll, w9, m3, fun x => ?_, fun x q q' => m5 x q' x q rfl, fun q => m1 (List.mem_append_left _ q), Or.inr ⟨by rw [w6, nI_eq (by have := hf1.2.1; omega) (by omega)]; exact nfs, w6⟩⟩
        simp only [List.mem_cons, List.mem_append]
        exact ⟨fun q => q.elim Or.inl (fun q => q.elim (fun q => Or.inr (Or.inr q)) (fun q => Or.inr (Or.inl q))), fun q => q.elim Or.inl (fun q => q.elim (fun q => Or.inr (Or.inr q)) (fun q => Or.inr (Or.inl q)))⟩
    have hO := o1.here
    have Ol : O ∈ l := v4 O ((o3 O).mpr (Or.inr (Or.inr hO.2.2.2.2)))
    obtain ⟨O60, Opn, Oop⟩ := lm O Ol
    have nOP : ¬ O = P := fun q => o4 P hPlP (q ▸ hO.2.2.2.2)
    have nOu : ¬ O = upu := fun q => o5 (q ▸ hO.2.2.2.2)
    have nPu : ¬ P = upu := fun q => unP (q ▸ hPlP)
    have lPU : ∀ x, x ∈ lP → x ∈ upu :: (ll ++ lr) := fun x q => (o3 x).mpr (Or.inr (Or.inl q))
    have lOU : ∀ x, x ∈ lO → x ∈ upu :: (ll ++ lr) := fun x q => (o3 x).mpr (Or.inr (Or.inr q))
    have uuU : ¬ uu = 0 → ¬ uu ∈ upu :: (ll ++ lr) ∧ uu ∈ l ∧ S.2 5 uu = 4 := by
      intro q
      rcases v5 with q' | q'
      · exact ⟨q'.2.2, q'.1, q'.2.1⟩
      · exact absurd q'.2 q
    have huu : uu = 0 ∨ (pnN a uu = true ∧ S.2 5 uu = 4 ∧ K.2 7 uu 14 = nz (S.2 7 uu) ∧ K.2 7 uu 15 = nz (S.2 8 uu) ∧ ∃ f, S.2 7 uu = nI f ∧ pnN a f = true) := by
      by_cases q : uu = 0
      · exact Or.inl q
      · obtain ⟨q1, q2, q3⟩ := uuU q
        obtain ⟨q4, q5, q6⟩ := lm uu q2
        obtain ⟨x1, x2, x3⟩ := (hRr uu q5 q6).2 q3
        obtain ⟨f9, s9, y1, y2, y3, y4, -⟩ := sides_ok H4.1 H4.2.2.2.2.2.2.1 q4 q6 q3
        exact Or.inr ⟨q5, q3, x2, x3, f9, y1, y3⟩
    obtain ⟨hc, Kc, Sp, b1, b2, b3, b4, b5, b6, b7, b8, b9, b10, b11, b12, b13⟩ := repl_both (u := upu) (v := O) (uu := uu) (S := S) H1 ha hpu Opn huu (by rw [(hRr upu hpu ho).1, w4]) w4 n n
    have HcF := b2.r (c := 3) (p := 0) (t := (22, 61)) rfl upu none clo_none
    have hFg := e_forget (n := n) b2 ha hpu (by rw [b5 1 0 0 (by omega) (by omega) (by omega)]; exact H3.1.2.2.1) (by rw [b4]; exact (H3.2.2.1 upu hpu).1)
    -- rows of the reference's state
    have sc6 : ∀ x, (Sp.a 6 P 0).2 6 x = if x = P then nI 0 else if x = O then nI uu else S.2 6 x := by
      intro x
      rw [MS.a_2]
      by_cases q : x = P
      · rw [if_pos ⟨rfl, q⟩, if_pos q]; rfl
      · rw [if_neg (fun q' => q q'.2), if_neg q, b10]
    have sc7 : ∀ x, (Sp.a 6 P 0).2 7 x = Sp.2 7 x := fun x => by rw [MS.a_2, if_neg (by omega)]
    have sc8 : ∀ x, (Sp.a 6 P 0).2 8 x = Sp.2 8 x := fun x => by rw [MS.a_2, if_neg (by omega)]
    -- children that are the pair
    have chu : ∀ x, x ∈ l → S.2 5 x = 4 → (S.2 7 x = nI upu → x = uu) ∧ (S.2 8 x = nI upu → x = uu) := by
      intro x hx hk
      obtain ⟨f9, s9, y1, y2, y3, y4, y5, y6, y7, y8⟩ := t2.child hx hk
      have x60 := (lm x hx).1
      refine ⟨fun q => ?_, fun q => ?_⟩
      · have e9 : f9 = upu := (nI_eq (by omega) (by omega)).mp (by rw [← y1, q])
        subst e9
        exact ((nI_eq (by omega) (by omega)).mp (by rw [← w4, y7])).symm
      · have e9 : s9 = upu := (nI_eq (by omega) (by omega)).mp (by rw [← y2, q])
        subst e9
        exact ((nI_eq (by omega) (by omega)).mp (by rw [← w4, y8])).symm
    have uupar : ¬ uu = 0 → (S.2 7 uu = nI upu ∨ S.2 8 uu = nI upu) ∧ (S.2 7 uu = nI upu → ¬ S.2 8 uu = nI upu) := by
      intro q
      obtain ⟨q1, q2, q3⟩ := uuU q
      have nur : ¬ upu = r := fun q' => by
        rcases v5 with q'' | q''
        · have e0 : nI uu = nI 0 := by rw [← w4, q']; exact t2.here.2.2.2.1
          exact q ((nI_eq (by omega) (by omega)).mp e0)
        · exact q q''.2
      obtain ⟨x, x1, x2, x3, x4, x5⟩ := t2.par upu u1 nur
      have e9 : x = uu := (nI_eq (by omega) (by omega)).mp (by rw [← x4, w4])
      subst e9
      refine ⟨x5, fun q4 q5 => ?_⟩
      obtain ⟨dx, ux, lx, z1, z2, z3, z4, -⟩ := t2.sub_nd t3 x q2
      cases dx with
      | zero => cases z2
      | succ dx =>
        obtain ⟨-, -, -, -, z5⟩ := z2
        rcases z5 with ⟨z5, -⟩ | ⟨z5, f9, s9, l1, l2, z6, z7, z8, z9, z10⟩
        · exact z5 q3
        · subst z8
          obtain ⟨n1, n2⟩ := List.nodup_cons.mp z3
          obtain ⟨n3, n4, n5⟩ := List.nodup_append.mp n2
          have e1 : f9 = upu := (nI_eq (by have := z9.here.2.1; omega) (by omega)).mp (by rw [← z6, q4])
          have e2 : s9 = upu := (nI_eq (by have := z10.here.2.1; omega) (by omega)).mp (by rw [← z7, q5])
          exact n5 f9 z9.here.2.2.2.2 s9 z10.here.2.2.2.2 (by rw [e1, e2])
    -- the tree that is left
    obtain ⟨Sc, hSc⟩ : ∃ Sc, Sc = Sp.a 6 P 0 := ⟨_, rfl⟩
    rw [← hSc] at sc6 sc7 sc8
    have xl1 : ∀ x, x ∈ l → 1 ≤ x ∧ x ≤ a := fun x hx => pnN_le (lm x hx).2.1
    have hv : TP (S.2 4) (S.2 5) (Sc.2 6) (Sc.2 7) (Sc.2 8) dU uu O lO := by
      refine o1.cong0 o2 (fun x hx => ?_) (by rw [sc6, if_neg nOP, if_pos rfl])
      have xl := v4 x (lOU x hx)
      have nu : ¬ (x = uu ∧ ¬ uu = 0) := fun q => (uuU q.2).1 (q.1 ▸ lOU x hx)
      refine ⟨(lm x xl).2.2, rfl, fun q => ?_, fun _ => ⟨?_, ?_⟩⟩
      · rw [sc6, if_neg (show ¬ x = P from fun q' => o4 P hPlP (q' ▸ hx)), if_neg q]
      · rw [sc7, b11, if_neg (fun q => nu ⟨q.1, q.2.1⟩)]
      · rw [sc8, b12, if_neg (fun q => nu ⟨q.1, q.2.1⟩)]
    obtain ⟨d', l', q1, q2, q3⟩ := TP.rep v2' hv uu60 o2 t2 t3 (by omega) u1 (fun x hx hxu => by
      have nxP : ¬ x = P := fun q => hxu (lPU x (q ▸ hPlP))
      have nxO : ¬ x = O := fun q => hxu (lOU x (q ▸ hO.2.2.2.2))
      refine ⟨(lm x hx).2.2, rfl, by rw [sc6, if_neg nxP, if_neg nxO], fun hk => ?_⟩
      obtain ⟨c1', c2'⟩ := chu x hx hk
      by_cases q : x = uu
      · have nz' : ¬ uu = 0 := fun q' => by have := (xl1 x hx).1; omega
        obtain ⟨p5, p6⟩ := uupar nz'
        subst q
        rw [sc7, sc8, b11, b12]
        by_cases c7 : S.2 7 x = nI upu
        · rw [if_pos ⟨rfl, nz', c7⟩, if_pos c7, if_neg (fun q' => q'.2.2 c7), if_neg (p6 c7)]
          exact ⟨rfl, rfl⟩
        · rw [if_neg (fun q' => c7 q'.2.2), if_neg c7, if_pos ⟨rfl, nz', c7⟩, if_pos (p5.resolve_left c7)]
          exact ⟨rfl, rfl⟩
      · rw [sc7, sc8, b11, b12, if_neg (fun q' => q q'.1), if_neg (fun q' => q (c1' q')), if_neg (fun q' => q q'.1), if_neg (fun q' => q (c2' q'))]
        exact ⟨rfl, rfl⟩) (fun x hx _ => lOU x hx)
    have l'm : ∀ x, x ∈ l' ↔ (x ∈ l ∧ ¬ x ∈ lP) ∧ ¬ nI x = nI upu := by
      intro x
      rw [q3]
      constructor
      · rintro (⟨q4, q5⟩ | q4)
        · exact ⟨⟨q4, fun q => q5 (lPU x q)⟩, fun q => q5 ((nI_eq (by have := (lm x q4).1; omega) (by omega)).mp q ▸ List.mem_cons_self)⟩
        · have xl := v4 x (lOU x q4)
          exact ⟨⟨xl, fun q => o4 x q q4⟩, fun q => o5 ((nI_eq (by have := (lm x xl).1; omega) (by omega)).mp q ▸ q4)⟩
      · rintro ⟨⟨q4, q5⟩, q6⟩
        by_cases c : x ∈ upu :: (ll ++ lr)
        · rcases (o3 x).mp c with c | c | c
          · exact absurd (by rw [c]) q6
          · exact absurd c q5
          · exact Or.inr c
        · exact Or.inl ⟨q4, c⟩
    have uur : uu = 0 ↔ upu = r := by
      constructor
      · intro q
        rcases v5 with q' | q'
        · have := (xl1 uu q'.1).1; omega
        · exact q'.1
      · intro q
        have e0 : nI uu = nI 0 := by rw [← w4, q]; exact t2.here.2.2.2.1
        exact (nI_eq (by omega) (by omega)).mp e0
    have sr : Sc.1 3 = nI (if upu = r then O else r) := by
      rw [hSc]
      show Sp.1 3 = _
      rw [b9]
      by_cases q : uu = 0
      · rw [if_pos ⟨rfl, q⟩, if_pos (uur.mp q)]
      · rw [if_neg (fun q' => q q'.2), if_neg (fun q' => q (uur.mpr q')), t1]
    have Pl' : ¬ P ∈ l' := fun q => ((l'm P).mp q).1.2 hPlP
    have d12 := (q1.lv)
    have nzO : nz (nI O) = some (7, O) := by unfold nz; rw [if_neg (by rw [nI_z O60]; have := hO.1; omega), ixn (by omega)]
    have lvl : lvs (S.2 5) l' ≤ 12 := by
      rw [lvs_cO q2 (fun q hq => by have q' := ((l'm q).mp hq).1.1; have := xl1 q q'; omega)]
      rw [lvs_cO t3 (fun q hq => by have := xl1 q hq; omega)] at t4
      refine Nat.le_trans (cO_mono _ _ (fun p hp => ?_)) t4
      rw [Bool.and_eq_true, decide_eq_true_eq] at hp ⊢
      exact ⟨((l'm p).mp hp.1).1.1, hp.2⟩
    have q12 := d12.1.mono lvl
    have K1l' : ∀ x, x ∈ l' → (Kc.r 3 0 upu none).2 7 x 2 = nz (Sc.2 6 x) := by
      intro x hx
      have xl := ((l'm x).mp hx).1
      rw [KS.r_2, if_neg (by omega), sc6, if_neg (show ¬ x = P from fun q => xl.2 (q ▸ hPlP))]
      by_cases q : x = O
      · rw [if_pos q, q]; exact b6
      · rw [if_neg q, b5 7 x 2 (by omega) (by omega) (by omega)]
        exact (hKl x xl.1).2
    refine cl_fin (P := P) (l := l) (lP := lP) (l' := l') (lc := l.filter (fun x => !decide (x = upu))) (x2 := nI upu) (Kc := Kc.r 3 0 upu none) (hc := gsetR hc (A 3 0) upu none) (Sc := Sc) rfl rfl rfl H p3 t5 t4 t3 lm hPlP l'm (fun x => ?_) HcF b4 (fun c x1 x2 x3 => ?_) ?_ ?_ (fun x hx => ?_) (fun p k x1 x2 => ?_) (fun x hx => ⟨K1l' x hx, fun hk => ⟨?_, ?_⟩⟩) (fun k hk => ?_) (fun k x1 x2 x3 => ?_) (fun k x1 x2 p x3 x4 => ?_) (Or.inr ⟨d', _, sr, q1⟩) q2 (fun n' S' x x1 x2 x3 => ?_) (fun n' h' K' x x1 x2 x3 x4 x5 => ?_) hn (fun h1 h2 h3 c x1 x2 x3 x4 x5 x6 => hG0 h3 ?_ x6) ?_
    · rw [List.mem_filter]
      constructor
      · rintro ⟨y1, y2⟩
        refine ⟨y1, fun q => ?_⟩
        have e9 : x = upu := (nI_eq (by have := (lm x y1).1; omega) (by omega)).mp q
        simp [e9] at y2
      · rintro ⟨y1, y2⟩
        refine ⟨y1, ?_⟩
        have e9 : ¬ x = upu := fun q => y2 (by rw [q])
        simp [e9]
    · funext p k; rw [KS.r_2, if_neg (fun q => x2 q.1), b5 c p k (fun q => x3 q.1) (fun q => x1 q.1) (fun q => x3 q.1)]
    · rw [KS.r_2, if_neg (by omega), b5 1 0 0 (by omega) (by omega) (by omega)]
    · rw [KS.r_2, if_neg (by omega), b7, sr]
      by_cases q : uu = 0
      · rw [if_pos q, if_pos (uur.mp q), nzO]
      · rw [if_neg q, if_neg (fun q' => q (uur.mpr q')), ← t1]; exact H3.2.1.2.2.2.1
    · rw [KS.r_2]
      by_cases q : x = upu
      · rw [if_pos ⟨rfl, rfl, q⟩, if_neg (fun q' => by simp [List.mem_filter, q] at q')]
      · rw [if_neg (fun q' => q q'.2.2), b5 3 0 x (by omega) (by omega) (by omega), H3.2.1.2.2.2.2 x hx]
        by_cases q4 : S.2 4 x = 0
        · rw [if_pos q4, if_neg (fun q' => (t5 x hx).mpr (List.mem_filter.mp q').1 q4)]
        · rw [if_neg q4, if_pos (List.mem_filter.mpr ⟨(t5 x hx).mp q4, by simp [q]⟩)]
    · rw [KS.r_2, if_neg (by omega), b5 7 p k (fun q => x1 q.2.2) (by omega) (fun q => x2 ⟨q.2.2.2, by rw [q.2.1]; exact (uuU q.2.2.1).2.2⟩)]
    · have xl := ((l'm x).mp hx).1
      rw [KS.r_2, if_neg (by omega), sc7]
      by_cases q : x = uu ∧ ¬ uu = 0
      · rw [q.1]; exact (b8 q.2).1
      · rw [b5 7 x 14 (by omega) (by omega) (fun q' => q ⟨q'.2.1, q'.2.2.1⟩), b11, if_neg (fun q' => q ⟨q'.1, q'.2.1⟩)]
        exact ((hRr x (lm x xl.1).2.1 (lm x xl.1).2.2).2 hk).2.1
    · have xl := ((l'm x).mp hx).1
      rw [KS.r_2, if_neg (by omega), sc8]
      by_cases q : x = uu ∧ ¬ uu = 0
      · rw [q.1]; exact (b8 q.2).2
      · rw [b5 7 x 15 (by omega) (by omega) (fun q' => q ⟨q'.2.1, q'.2.2.1⟩), b12, if_neg (fun q' => q ⟨q'.1, q'.2.1⟩)]
        exact ((hRr x (lm x xl.1).2.1 (lm x xl.1).2.2).2 hk).2.2
    · rw [hSc]
      show Sp.1 k = _
      rw [b9, if_neg (fun q => hk q.1)]
    · rw [hSc]
      funext y
      rw [MS.a_2, if_neg (fun q => x1 q.1), b13 k x1 x2 x3]
    · have pa := (pnN_le p3).2
      have Oa := (pnN_le Opn).2
      have z9 := (H4.2.2.2.2.1 p x3 x4).1 k (by rcases (by omega : k = 6 ∨ k = 7 ∨ k = 8) with e | e | e <;> (subst e; decide))
      have nu : ¬ (p = uu ∧ ¬ uu = 0) := fun q => by have := (xl1 uu (uuU q.2).2.1).2; omega
      rcases (by omega : k = 6 ∨ k = 7 ∨ k = 8) with e | e | e
      · subst e; rw [sc6, if_neg (by omega), if_neg (by omega)]; exact z9
      · subst e; rw [sc7, b11, if_neg (fun q => nu ⟨q.1, q.2.1⟩)]; exact z9
      · subst e; rw [sc8, b12, if_neg (fun q => nu ⟨q.1, q.2.1⟩)]; exact z9
    · by_cases c : x ∈ lP
      · rw [decide_eq_true c]
        have tp0 : TP (S.2 4) (S.2 5) (Sc.2 6) (S.2 7) (S.2 8) du 0 P lP := t7'.cong0 t8 (fun y hy => ⟨(lm y (t9 y hy)).2.2, rfl, fun q => by rw [sc6, if_neg q, if_neg (show ¬ y = O from fun q' => o4 y hy (q' ▸ hO.2.2.2.2))], fun _ => ⟨rfl, rfl⟩⟩) (by rw [sc6, if_pos rfl])
        exact wi_in (by rw [x2]) tp0 t8 c (by omega)
      · rw [decide_eq_false c]
        show f_M_isWithin_B2 n' S' (nI P) (nI x) = some (0, S')
        have out : ∀ m y, 50 ≤ m → y ∈ l' → f_M_isWithin_B2 m S' (nI P) (nI y) = some (0, S') := by
          intro m y hm hy
          obtain ⟨m', y1, y2⟩ := wi_out p2 (S := S') (by rw [x2]) q12 hy Pl' (show 12 < m by omega)
          rw [y2]
          exact wi_zero p1 p2 (by omega)
        by_cases cu : x = upu
        · subst cu
          obtain ⟨m, rfl⟩ : ∃ m, n' = m + 1 := ⟨n' - 1, by omega⟩
          have e6 : S'.2 6 x = nI uu := by rw [x2, sc6, if_neg (fun q => nPu q.symm), if_neg (fun q => nOu q.symm), w4]
          rw [f_M_isWithin_B2, if_neg (show ¬ nI x ≤ 0 from nI_ge (a := 0) (b := x) (by omega) (by omega)), if_neg (by rw [nI_eq (by omega) (by omega)]; exact fun q => nPu q.symm), inn (show x < 61 by omega) (by decide), cond_true, ixn (show x < 2 ^ 31 by omega), e6]
          by_cases q : uu = 0
          · rw [q]; exact wi_zero p1 p2 (by omega)
          · refine out m uu (by omega) ((l'm uu).mpr ⟨⟨(uuU q).2.1, fun q' => (uuU q).1 (lPU uu q')⟩, fun q' => (uuU q).1 ((nI_eq (by omega) (by omega)).mp q' ▸ List.mem_cons_self)⟩)
        · exact out n' x (by omega) ((l'm x).mpr ⟨⟨x3, c⟩, by rw [nI_eq (by have := (lm x x3).1; omega) (by omega)]; exact cu⟩)
    · obtain ⟨y1, y2⟩ := List.mem_filter.mp x4
      have cu : ¬ x = upu := by simpa using y2
      by_cases c : x ∈ lP
      · rw [decide_eq_true c]
        refine be_in ha x2 t7' t8 (by omega) (fun y hy => ⟨(hKl y (t9 y hy)).1, ?_⟩) c x5 x1
        rw [x3, KS.r_2, if_neg (by omega), b5 7 y 2 (fun q => o4 y hy (q.2.1 ▸ hO.2.2.2.2)) (by omega) (by omega)]
        exact (hKl y (t9 y hy)).2
      · rw [decide_eq_false c]
        have xl' : x ∈ l' := (l'm x).mpr ⟨⟨y1, c⟩, by rw [nI_eq (by have := (lm x y1).1; omega) (by omega)]; exact cu⟩
        exact be_no ha x2 p3 q12 (by omega) (fun y hy => ⟨(lm y ((l'm y).mp hy).1.1).2.1, by rw [x3]; exact K1l' y hy⟩) xl' Pl' x1
    · have tu : gtag h (A 7 upu) = some (3, 16) := by rw [H1.tag (cT7 hpu), u3]; rfl
      have tgc : gtag hc (A 1 0) = some (7, 5) := b2.tag (c := 1) (p := 0) rfl
      obtain ⟨z1, z2, z3⟩ := (hRr upu hpu ho).2 u3
      have nzP : nz (nI P) = some (7, P) := by unfold nz; rw [if_neg (by rw [nI_z p2]; omega), iP]
      unfold f_Tree_remove f_Tree_remove_B36
      rcases o6 with ⟨o6, o7⟩ | ⟨o6, o7⟩
      · have g14 : gref h (A 7 upu) 14 = some (A 7 P) := by rw [H1.ref (cT7 hpu), z2, o6, nzP]; rfl
        have g15 : gref h (A 7 upu) 15 = some (A 7 O) := by rw [H1.ref (cT7 hpu), z3, o7, nzO]; rfl
        simp only [Option.bind_some, tP, cTag_pane, cond_true, r2P, aM_nz up1 u2, reduceCtorEq, if_false, reduceIte, tu, gpr, g14, g15, if_true, f4, g77, b1, tgc, gR, hFg, x1, x2, x3, x4, x5]
      · have g14 : gref h (A 7 upu) 14 = some (A 7 O) := by rw [H1.ref (cT7 hpu), z2, o7, nzO]; rfl
        have ne : ¬ A 7 O = A 7 P := fun q => nOP ((H1.inj (cT7 (L := L) (kd := S.2 5) Opn) t7).mp q).2
        simp only [Option.bind_some, tP, cTag_pane, cond_true, r2P, aM_nz up1 u2, reduceCtorEq, if_false, reduceIte, tu, gpr, g14, Option.some.injEq, ne, f4, g77, b1, tgc, gR, hFg, x1, x2, x3, x4, x5]
    · show f_M_close n S (nI P) = _
      have bu := inn (show upu < 61 by omega) (by decide)
      have iu := ixn (show upu < 2 ^ 31 by omega)
      unfold f_M_close f_M_close_B47 f_M_close_B59
      rcases o6 with ⟨o6, o7⟩ | ⟨o6, o7⟩
      · simp only [e_isPane, c1, b32_t, show ¬ (1 : Int32) = 0 from by decide, if_false, reduceIte, Option.bind_some, bP, bu, cond_true, iP, iu, s6P, show ¬ nI upu ≤ 0 from nI_ge (a := 0) (b := upu) (by omega) (by omega), o6, if_true, o7, b3]
        rw [hSc]; rfl
      · simp only [e_isPane, c1, b32_t, show ¬ (1 : Int32) = 0 from by decide, if_false, reduceIte, Option.bind_some, bP, bu, cond_true, iP, iu, s6P, show ¬ nI upu ≤ 0 from nI_ge (a := 0) (b := upu) (by omega) (by omega), o6, o7, b3]
        rw [o7] at o6
        simp only [o6, if_false, reduceIte, b3, Option.bind_some]
        rw [hSc]; rfl
