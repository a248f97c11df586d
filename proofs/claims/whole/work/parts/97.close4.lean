theorem TP.par {op kd ab fi se : Nat → Int32} : ∀ {d up r : Nat} {l : List Nat}, TP op kd ab fi se d up r l → ∀ x, x ∈ l → ¬ x = r → ∃ u, u ∈ l ∧ u ≤ 60 ∧ kd u = 4 ∧ ab x = nI u ∧ (fi u = nI x ∨ se u = nI x) := by
  intro d
  induction d with
  | zero => intro up r l h; cases h
  | succ d ih =>
    intro up r l h x hx hr
    obtain ⟨h1, h2, h3, h4, h5⟩ := h
    rcases h5 with ⟨h5, h6⟩ | ⟨h5, f, s, ll, lr, h6, h7, h8, h9, h10⟩
    · subst h6
      exact absurd (List.mem_singleton.mp hx) hr
    · subst h8
      have il : ∀ x, x ∈ ll → x ∈ r :: (ll ++ lr) := fun x h => List.mem_cons_of_mem _ (List.mem_append_left _ h)
      have ir : ∀ x, x ∈ lr → x ∈ r :: (ll ++ lr) := fun x h => List.mem_cons_of_mem _ (List.mem_append_right _ h)
      rcases List.mem_append.mp ((List.mem_cons.mp hx).resolve_left hr) with e | e
      · by_cases q : x = f
        · subst q
          exact ⟨r, List.mem_cons_self, h2, h5, h9.here.2.2.2.1, Or.inl h6⟩
        · obtain ⟨u, u1, u2⟩ := ih h9 x e q
          exact ⟨u, il u u1, u2⟩
      · by_cases q : x = s
        · subst q
          exact ⟨r, List.mem_cons_self, h2, h5, h10.here.2.2.2.1, Or.inr h7⟩
        · obtain ⟨u, u1, u2⟩ := ih h10 x e q
          exact ⟨u, ir u u1, u2⟩
/-- v comes into the place of u, for both -/
theorem repl_both {h : gHp} {A : Nat → Nat → Nat} {ρ : Nat → Nat × Nat} {L a u v uu : Nat} {K : KS} {S : MS} {kd : Nat → Int32} (H : Hrep h A ρ (cT L a kd) K) (ha : a ≤ 60) (hu : pnN a u = true) (hv : pnN a v = true) (huu : uu = 0 ∨ (pnN a uu = true ∧ kd uu = 4 ∧ K.2 7 uu 14 = nz (S.2 7 uu) ∧ K.2 7 uu 15 = nz (S.2 8 uu) ∧ ∃ f, S.2 7 uu = nI f ∧ pnN a f = true)) (k2 : K.2 7 u 2 = nz (nI uu)) (s6 : S.2 6 u = nI uu) (n n' : Nat) : ∃ hc Kc Sp, f_Tree_replace n h (A 1 0) (some (A 7 u)) (some (A 7 v)) = some hc ∧ Hrep hc A ρ (cT L a kd) Kc ∧ f_M_put n' S (nI v) (nI u) = some Sp ∧ Kc.1 = K.1 ∧ (∀ c p k, ¬ (c = 7 ∧ p = v ∧ k = 2) → ¬ (c = 1 ∧ p = 0 ∧ k = 2) → ¬ (c = 7 ∧ p = uu ∧ ¬ uu = 0 ∧ (k = 14 ∨ k = 15)) → Kc.2 c p k = K.2 c p k) ∧ Kc.2 7 v 2 = nz (nI uu) ∧ Kc.2 1 0 2 = (if uu = 0 then some (7, v) else K.2 1 0 2) ∧ (¬ uu = 0 → Kc.2 7 uu 14 = nz (Sp.2 7 uu) ∧ Kc.2 7 uu 15 = nz (Sp.2 8 uu)) ∧ (∀ k, Sp.1 k = if k = 3 ∧ uu = 0 then nI v else S.1 k) ∧ (∀ x, Sp.2 6 x = if x = v then nI uu else S.2 6 x) ∧ (∀ x, Sp.2 7 x = if x = uu ∧ ¬ uu = 0 ∧ S.2 7 uu = nI u then nI v else S.2 7 x) ∧ (∀ x, Sp.2 8 x = if x = uu ∧ ¬ uu = 0 ∧ ¬ S.2 7 uu = nI u then nI v else S.2 8 x) ∧ (∀ k, ¬ k = 6 → ¬ k = 7 → ¬ k = 8 → Sp.2 k = S.2 k) := by
  obtain ⟨u1, u2⟩ := pnN_le hu
  obtain ⟨v1, v2⟩ := pnN_le hv
  have iu := ixn (show u < 2 ^ 31 by omega)
  have bu : inB (nI u) 61 = true := inn (by omega) (by decide)
  have iv := ixn (show v < 2 ^ 31 by omega)
  have bv : inB (nI v) 61 = true := inn (by omega) (by decide)
  have tu := H.tag (cT7 (L := L) (kd := kd) hu)
  have tv := H.tag (cT7 (L := L) (kd := kd) hv)
  have r2 : gref h (A 7 u) 2 = aM A (nz (nI uu)) := by rw [H.ref (cT7 hu), k2]
  have t1 : gtag h (A 1 0) = some (7, 5) := H.tag (c := 1) (p := 0) rfl
  have H1 := H.r (cT7 hv) 2 (nz (nI uu)) (clo_nz ha (by rcases huu with q | q; exact Or.inl (by rw [q]; rfl); exact Or.inr ⟨uu, rfl, q.1⟩))
  have gR : ∀ (hx : gHp) (b' k' : Nat) (o : Option Nat) (y : Nat), gtag (gsetR hx b' k' o) y = gtag hx y := fun _ _ _ _ _ => rfl
  have nzv : nz (nI v) = some (7, v) := by unfold nz; rw [if_neg (by rw [nI_z (by omega)]; omega), iv]
  by_cases c0 : uu = 0
  · subst c0
    have e0 : aM A (nz (nI 0)) = none := rfl
    refine ⟨gsetR (gsetR h (A 7 v) 2 (aM A (nz (nI 0)))) (A 1 0) 2 (some (A 7 v)), (K.r 7 v 2 (nz (nI 0))).r 1 0 2 (some (7, v)), (S.a 6 v (nI 0)).f 3 (nI v), ?_, H1.r (c := 1) (p := 0) (t := (7, 5)) rfl 2 (some (7, v)) (clo_pane hv), ?_, rfl, fun c p k q1 q2 q3 => ?_, ?_, ?_, fun q => absurd rfl q, fun k => ?_, fun x => ?_, fun x => ?_, fun x => ?_, fun k q1 q2 q3 => ?_⟩
    · unfold f_Tree_replace
      simp only [Option.bind_some, tu, tv, cTag_pane, cond_true, r2, e0, if_true, reduceIte, gR, t1, g77']
    · unfold f_M_put
      simp only [bu, bv, cond_true, iu, iv, s6, show nI 0 = 0 from rfl, if_true, reduceIte]
    · rw [KS.r_2, if_neg (by omega), KS.r_2, if_neg (by omega)]
    · rw [KS.r_2, if_neg (by omega), KS.r_2, if_pos ⟨rfl, rfl, rfl⟩]
    · rw [KS.r_2, if_pos ⟨rfl, rfl, rfl⟩, if_pos rfl]
    · show (if k = 3 then nI v else S.1 k) = _
      by_cases q : k = 3
      · rw [if_pos q, if_pos ⟨q, rfl⟩]
      · rw [if_neg q, if_neg (fun q' => q q'.1)]
    · show (S.a 6 v (nI 0)).2 6 x = _
      rw [MS.a_2]
      by_cases q : x = v
      · rw [if_pos ⟨rfl, q⟩, if_pos q]
      · rw [if_neg (fun q' => q q'.2), if_neg q]
    · show (S.a 6 v (nI 0)).2 7 x = _
      rw [MS.a_2, if_neg (by omega), if_neg (fun q => q.2.1 rfl)]
    · show (S.a 6 v (nI 0)).2 8 x = _
      rw [MS.a_2, if_neg (by omega), if_neg (fun q => q.2.1 rfl)]
    · funext y
      show (S.a 6 v (nI 0)).2 k y = _
      rw [MS.a_2, if_neg (fun q => q1 q.1)]
  · obtain ⟨w1, w2, w3, w4, f, w5, w6⟩ := huu.resolve_left c0
    obtain ⟨x1, x2⟩ := pnN_le w1
    obtain ⟨y1, y2⟩ := pnN_le w6
    have iuu := ixn (show uu < 2 ^ 31 by omega)
    have buu : inB (nI uu) 61 = true := inn (by omega) (by decide)
    have e0 : aM A (nz (nI uu)) = some (A 7 uu) := aM_nz x1 (by omega)
    have tuu : gtag h (A 7 uu) = some (3, 16) := by rw [H.tag (cT7 w1), w2]; rfl
    have nuu : ¬ nI uu = 0 := by rw [nI_z (by omega)]; omega
    have r14 : gref (gsetR h (A 7 v) 2 (some (A 7 uu))) (A 7 uu) 14 = some (A 7 f) := by
      have := H1.ref (cT7 (L := L) (kd := kd) w1) 14
      rw [e0] at this
      rw [this, KS.r_2, if_neg (by omega), w3, w5, aM_nz y1 (by omega)]
    have eqf : (some (A 7 f) = some (A 7 u)) ↔ nI f = nI u := by
      rw [nI_eq (by omega) (by omega)]
      exact ⟨fun q => ((H.inj (cT7 w6) (cT7 hu)).mp (Option.some.inj q)).2, fun q => by rw [q]⟩
    rw [e0] at H1
    by_cases c1 : S.2 7 uu = nI u
    · have c1' : nI f = nI u := by rw [← w5]; exact c1
      refine ⟨gsetR (gsetR h (A 7 v) 2 (some (A 7 uu))) (A 7 uu) 14 (some (A 7 v)), (K.r 7 v 2 (nz (nI uu))).r 7 uu 14 (some (7, v)), (S.a 6 v (nI uu)).a 7 uu (nI v), ?_, H1.r (cT7 w1) 14 (some (7, v)) (clo_pane hv), ?_, rfl, fun c p k q1 q2 q3 => ?_, ?_, ?_, fun _ => ⟨?_, ?_⟩, fun k => ?_, fun x => ?_, fun x => ?_, fun x => ?_, fun k q1 q2 q3 => ?_⟩
      · unfold f_Tree_replace
        simp only [Option.bind_some, tu, tv, cTag_pane, cond_true, r2, e0, reduceCtorEq, if_false, reduceIte, gR, tuu, gpr, r14, if_pos (eqf.mpr c1')]
      · unfold f_M_put
        simp only [bu, bv, buu, cond_true, iu, iv, s6, nuu, if_false, reduceIte, iuu, MS.a_2, show ¬ 7 = 6 from by decide, false_and, c1, if_true]
      · rw [KS.r_2, if_neg (by omega), KS.r_2, if_neg (by omega)]
      · rw [KS.r_2, if_neg (by omega), KS.r_2, if_pos ⟨rfl, rfl, rfl⟩]
      · rw [KS.r_2, if_neg (by omega), KS.r_2, if_neg (by omega), if_neg c0]
      · rw [KS.r_2, if_pos ⟨rfl, rfl, rfl⟩, MS.a_2, if_pos ⟨rfl, rfl⟩, nzv]
      · rw [KS.r_2, if_neg (by omega), KS.r_2, if_neg (by omega), MS.a_2, if_neg (by omega), MS.a_2, if_neg (by omega)]; exact w4
      · rw [if_neg (fun q => c0 q.2)]; rfl
      · rw [MS.a_2, if_neg (by omega), MS.a_2]
        by_cases q : x = v
        · rw [if_pos ⟨rfl, q⟩, if_pos q]
        · rw [if_neg (fun q' => q q'.2), if_neg q]
      · rw [MS.a_2]
        by_cases q : x = uu
        · rw [if_pos ⟨rfl, q⟩, if_pos ⟨q, c0, c1⟩]
        · rw [if_neg (fun q' => q q'.2), if_neg (fun q' => q q'.1), MS.a_2, if_neg (by omega)]
      · rw [MS.a_2, if_neg (by omega), MS.a_2, if_neg (by omega), if_neg (fun q => q.2.2 c1)]
      · funext y
        rw [MS.a_2, if_neg (fun q => q2 q.1), MS.a_2, if_neg (fun q => q1 q.1)]
    · have c1' : ¬ nI f = nI u := by rw [← w5]; exact c1
      refine ⟨gsetR (gsetR h (A 7 v) 2 (some (A 7 uu))) (A 7 uu) 15 (some (A 7 v)), (K.r 7 v 2 (nz (nI uu))).r 7 uu 15 (some (7, v)), (S.a 6 v (nI uu)).a 8 uu (nI v), ?_, H1.r (cT7 w1) 15 (some (7, v)) (clo_pane hv), ?_, rfl, fun c p k q1 q2 q3 => ?_, ?_, ?_, fun _ => ⟨?_, ?_⟩, fun k => ?_, fun x => ?_, fun x => ?_, fun x => ?_, fun k q1 q2 q3 => ?_⟩
      · unfold f_Tree_replace
        simp only [Option.bind_some, tu, tv, cTag_pane, cond_true, r2, e0, reduceCtorEq, if_false, reduceIte, gR, tuu, gpr, r14, if_neg (fun q => c1' (eqf.mp q))]
      · unfold f_M_put
        simp only [bu, bv, buu, cond_true, iu, iv, s6, nuu, if_false, reduceIte, iuu, MS.a_2, show ¬ 7 = 6 from by decide, false_and, c1]
      · rw [KS.r_2, if_neg (by omega), KS.r_2, if_neg (by omega)]
      · rw [KS.r_2, if_neg (by omega), KS.r_2, if_pos ⟨rfl, rfl, rfl⟩]
      · rw [KS.r_2, if_neg (by omega), KS.r_2, if_neg (by omega), if_neg c0]
      · rw [KS.r_2, if_neg (by omega), KS.r_2, if_neg (by omega), MS.a_2, if_neg (by omega), MS.a_2, if_neg (by omega)]; exact w3
      · rw [KS.r_2, if_pos ⟨rfl, rfl, rfl⟩, MS.a_2, if_pos ⟨rfl, rfl⟩, nzv]
      · rw [if_neg (fun q => c0 q.2)]; rfl
      · rw [MS.a_2, if_neg (by omega), MS.a_2]
        by_cases q : x = v
        · rw [if_pos ⟨rfl, q⟩, if_pos q]
        · rw [if_neg (fun q' => q q'.2), if_neg q]
      · rw [MS.a_2, if_neg (by omega), MS.a_2, if_neg (by omega), if_neg (fun q => c1 q.2.2)]
      · rw [MS.a_2]
        by_cases q : x = uu
        · rw [if_pos ⟨rfl, q⟩, if_pos ⟨q, c0, c1⟩]
        · rw [if_neg (fun q' => q q'.2), if_neg (fun q' => q q'.1), MS.a_2, if_neg (by omega)]
      · funext y
        rw [MS.a_2, if_neg (fun q => q3 q.1), MS.a_2, if_neg (fun q => q1 q.1)]
theorem e_forget {h : gHp} {A : Nat → Nat → Nat} {ρ : Nat → Nat × Nat} {L a u n : Nat} {K : KS} {kd : Nat → Int32} (H : Hrep h A ρ (cT L a kd) K) (ha : a ≤ 60) (hu : pnN a u = true) (r0 : K.2 1 0 0 = some (3, 0)) (k0 : K.1 7 u 0 = nI u) : f_Tree_forget n h (A 1 0) (some (A 7 u)) = some (gsetR h (A 3 0) u none) := by
  obtain ⟨u1, u2⟩ := pnN_le hu
  have tu := H.tag (cT7 (L := L) (kd := kd) hu)
  have i0 : gint h (A 7 u) 0 = nI u := by rw [H.int (cT7 hu), k0]
  have t1 : gtag h (A 1 0) = some (7, 5) := H.tag (c := 1) (p := 0) rfl
  have t3 : gtag h (A 3 0) = some (22, 61) := H.tag (c := 3) (p := 0) rfl
  have r1 : gref h (A 1 0) 0 = some (A 3 0) := by rw [H.ref (c := 1) (p := 0) (t := (7, 5)) rfl, r0]; rfl
  have n1 : ¬ nI u < 1 := nI_nlt (a := u) (b := 1) (by omega) (by omega)
  have n2 : ¬ Int32.ofNat 61 ≤ nI u := nI_ge (a := u) (b := 61) (by omega) (by decide)
  have pk : gPnk h none = true := rfl
  unfold f_Tree_forget
  simp only [Option.bind_some, tu, cTag_pane, cond_true, i0, n1, if_false, reduceIte, t1, g77', r1, t3, show (Nat.ble 20 22 && Nat.ble 22 24) = true from rfl, n2, gArr22 (show u < 61 by omega), pk, ixn (show u < 2 ^ 31 by omega)]
