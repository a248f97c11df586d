/-! ===== a pair in the place of a pane ===== -/
theorem split_tree {S S1 : MS} {a O F P f s uu : Nat} {kF : Int32} (hWa : WFa S a) (hWt : WFt S) (ha : a + 2 ≤ 60) (hF : F = a + 1) (hP : P = a + 2) (hO60 : O ≤ 60) (ho : ¬ S.2 4 O = 0) (hc : cO (lfN S) 1 a < 12) (hfs : (f = F ∧ s = O) ∨ (f = O ∧ s = F)) (s6 : S.2 6 O = nI uu) (huu : uu ≤ 60) (o4 : ∀ p, S1.2 4 p = if p = F ∨ p = P then 1 else S.2 4 p) (o5 : ∀ p, S1.2 5 p = if p = F then kF else if p = P then 4 else S.2 5 p) (hkF : ¬ kF = 4) (o6 : ∀ p, S1.2 6 p = if p = O ∨ p = F then nI P else if p = P then nI uu else S.2 6 p) (o7 : ∀ p, S1.2 7 p = if p = P then nI f else if p = uu ∧ ¬ uu = 0 ∧ S.2 7 uu = nI O then nI P else S.2 7 p) (o8 : ∀ p, S1.2 8 p = if p = P then nI s else if p = uu ∧ ¬ uu = 0 ∧ ¬ S.2 7 uu = nI O then nI P else S.2 8 p) (o3 : S1.1 3 = if uu = 0 then nI P else S.1 3) : WFt S1 := by
  obtain ⟨r, l, du, upu, lu, t1, t2, t3, t4, t5, t6, t7, t8, t9, t10, t11, lm⟩ := sub_of hWa hWt hO60 ho
  have eu : upu = uu := (nI_eq (by omega) (by omega)).mp (by rw [← s6]; exact t7.here.2.2.2.1.symm)
  subst eu
  have xl1 : ∀ x, x ∈ l → 1 ≤ x ∧ x ≤ a := fun x hx => pnN_le (lm x hx).2.1
  have hOu : O ∈ lu := t7.here.2.2.2.2
  have hOl : O ∈ l := t9 O hOu
  have nu : ∀ x, x ∈ lu → ¬ (x = upu ∧ ¬ upu = 0) := fun x hx q => by
    rcases t10 with w | w
    · exact w.2.2 (q.1 ▸ hx)
    · exact q.2 w.2
  have ur : upu = 0 ↔ O = r := by
    constructor
    · intro q
      rcases t10 with w | w
      · have := (xl1 upu w.1).1; omega
      · exact w.1
    · intro q
      have e0 : nI upu = nI 0 := by rw [← s6, q]; exact t2.here.2.2.2.1
      exact (nI_eq (by omega) (by omega)).mp e0
  have w4 := s6
  have chu : ∀ x, x ∈ l → S.2 5 x = 4 → (S.2 7 x = nI O → x = upu) ∧ (S.2 8 x = nI O → x = upu) := by
    intro x hx hk
    obtain ⟨f9, s9, y1, y2, y3, y4, y5, y6, y7, y8⟩ := t2.child hx hk
    have x60 := (lm x hx).1
    refine ⟨fun q => ?_, fun q => ?_⟩
    · have e9 : f9 = O := (nI_eq (by omega) (by omega)).mp (by rw [← y1, q])
      subst e9
      exact ((nI_eq (by omega) (by omega)).mp (by rw [← w4, y7])).symm
    · have e9 : s9 = O := (nI_eq (by omega) (by omega)).mp (by rw [← y2, q])
      subst e9
      exact ((nI_eq (by omega) (by omega)).mp (by rw [← w4, y8])).symm
  have upar : ¬ upu = 0 → (S.2 7 upu = nI O ∨ S.2 8 upu = nI O) ∧ (S.2 7 upu = nI O → ¬ S.2 8 upu = nI O) := by
    intro q
    have nur : ¬ O = r := fun q' => q (ur.mpr q')
    obtain ⟨x, x1, x2, x3, x4, x5⟩ := t2.par O hOl nur
    have e9 : x = upu := (nI_eq (by omega) (by omega)).mp (by rw [← x4, w4])
    subst e9
    refine ⟨x5, fun q4 q5 => ?_⟩
    obtain ⟨dx, ux, lx, z1, z2, z3, z4, -⟩ := t2.sub_nd t3 x x1
    cases dx with
    | zero => cases z2
    | succ dx =>
      obtain ⟨-, -, -, -, z5⟩ := z2
      rcases z5 with ⟨z5, -⟩ | ⟨z5, f9, s9, l1, l2, z6, z7, z8, z9, z10⟩
      · exact z5 x3
      · subst z8
        obtain ⟨n1, n2⟩ := List.nodup_cons.mp z3
        obtain ⟨n3, n4, n5⟩ := List.nodup_append.mp n2
        have e1 : f9 = O := (nI_eq (by have := z9.here.2.1; omega) (by omega)).mp (by rw [← z6, q4])
        have e2 : s9 = O := (nI_eq (by have := z10.here.2.1; omega) (by omega)).mp (by rw [← z7, q5])
        exact n5 f9 z9.here.2.2.2.2 s9 z10.here.2.2.2.2 (by rw [e1, e2])
  have old : ∀ x, x ≤ a → S1.2 4 x = S.2 4 x ∧ S1.2 5 x = S.2 5 x := fun x hx => ⟨by rw [o4, if_neg (by omega)], by rw [o5, if_neg (by omega), if_neg (by omega)]⟩
  have f4 : S1.2 4 F = 1 := by rw [o4, if_pos (Or.inl rfl)]
  have p4 : S1.2 4 P = 1 := by rw [o4, if_pos (Or.inr rfl)]
  have f5 : S1.2 5 F = kF := by rw [o5, if_pos rfl]
  have p5 : S1.2 5 P = 4 := by rw [o5, if_neg (by omega), if_pos rfl]
  have f6 : S1.2 6 F = nI P := by rw [o6, if_pos (Or.inr rfl)]
  have Oa := (xl1 O hOl).2
  have p6 : S1.2 6 P = nI upu := by rw [o6, if_neg (by omega), if_pos rfl]
  have O6 : S1.2 6 O = nI P := by rw [o6, if_pos (Or.inl rfl)]
  have p7 : S1.2 7 P = nI f := by rw [o7, if_pos rfl]
  have p8 : S1.2 8 P = nI s := by rw [o8, if_pos rfl]
  obtain ⟨d0, rfl⟩ : ∃ d0, du = d0 + 1 := by
    cases du with
    | zero => cases t7
    | succ d => exact ⟨d, rfl⟩
  have hO' : TP (S1.2 4) (S1.2 5) (S1.2 6) (S1.2 7) (S1.2 8) (d0 + 1) P O lu := by
    refine t7.cong0 t8 (fun x hx => ?_) O6
    have xa := (xl1 x (t9 x hx)).2
    refine ⟨by rw [(old x xa).1]; exact (lm x (t9 x hx)).2.2, (old x xa).2, fun q => ?_, fun _ => ⟨?_, ?_⟩⟩
    · rw [o6, if_neg (by omega), if_neg (by omega)]
    · rw [o7, if_neg (by omega), if_neg (fun q => nu x hx ⟨q.1, q.2.1⟩)]
    · rw [o8, if_neg (by omega), if_neg (fun q => nu x hx ⟨q.1, q.2.1⟩)]
  have hF' : TP (S1.2 4) (S1.2 5) (S1.2 6) (S1.2 7) (S1.2 8) (d0 + 1) P F [F] := ⟨by omega, by omega, by rw [f4]; decide, f6, Or.inl ⟨by rw [f5]; exact hkF, rfl⟩⟩
  have luF : ¬ F ∈ lu := fun q => by have := (xl1 F (t9 F q)).2; omega
  have luP : ¬ P ∈ lu := fun q => by have := (xl1 P (t9 P q)).2; omega
  have hv : ∃ lv, TP (S1.2 4) (S1.2 5) (S1.2 6) (S1.2 7) (S1.2 8) (d0 + 2) upu P lv ∧ lv.Nodup ∧ ∀ x, x ∈ lv ↔ (x = P ∨ x = F) ∨ x ∈ lu := by
    rcases hfs with ⟨rfl, rfl⟩ | ⟨rfl, rfl⟩
    · refine ⟨P :: ([f] ++ lu), ⟨by omega, by omega, by rw [p4]; decide, p6, Or.inr ⟨p5, f, s, [f], lu, p7, p8, rfl, hF', hO'⟩⟩, ?_, fun x => ?_⟩
      · refine List.nodup_cons.mpr ⟨fun q => ?_, List.nodup_append.mpr ⟨List.nodup_cons.mpr ⟨List.not_mem_nil, List.nodup_nil⟩, t8, fun x hx y hy e => ?_⟩⟩
        · rcases List.mem_append.mp q with q | q
          · have := List.mem_singleton.mp q; omega
          · exact luP q
        · rw [List.mem_singleton.mp hx] at e; exact luF (e ▸ hy)
      · simp only [List.mem_cons, List.mem_append, List.not_mem_nil, or_false, or_assoc]
    · refine ⟨P :: (lu ++ [s]), ⟨by omega, by omega, by rw [p4]; decide, p6, Or.inr ⟨p5, f, s, lu, [s], p7, p8, rfl, hO', hF'⟩⟩, ?_, fun x => ?_⟩
      · refine List.nodup_cons.mpr ⟨fun q => ?_, List.nodup_append.mpr ⟨t8, List.nodup_cons.mpr ⟨List.not_mem_nil, List.nodup_nil⟩, fun x hx y hy e => ?_⟩⟩
        · rcases List.mem_append.mp q with q | q
          · exact luP q
          · have := List.mem_singleton.mp q; omega
        · rw [List.mem_singleton.mp hy] at e; exact luF (e ▸ hx)
      · simp only [List.mem_cons, List.mem_append, List.not_mem_nil, or_false]
        constructor
        · rintro (q | q | q)
          · exact Or.inl (Or.inl q)
          · exact Or.inr q
          · exact Or.inl (Or.inr q)
        · rintro ((q | q) | q)
          · exact Or.inl q
          · exact Or.inr (Or.inr q)
          · exact Or.inr (Or.inl q)
  obtain ⟨lv, hv1, hv2, hv3⟩ := hv
  obtain ⟨d', l', q1, q2, q3⟩ := TP.rep t7 hv1 huu hv2 t2 t3 (by omega) hOl (fun x hx hxu => by
    have xa := (xl1 x hx).2
    have nxO : ¬ x = O := fun q => hxu (q ▸ hOu)
    refine ⟨by rw [(old x xa).1]; exact (lm x hx).2.2, (old x xa).2, by rw [o6, if_neg (by omega), if_neg (by omega)], fun hk => ?_⟩
    obtain ⟨c1', c2'⟩ := chu x hx hk
    rw [o7, o8, if_neg (show ¬ x = P by omega), if_neg (show ¬ x = P by omega)]
    by_cases q : x = upu
    · have nz' : ¬ upu = 0 := fun q' => by have := (xl1 x hx).1; omega
      obtain ⟨p5', p6'⟩ := upar nz'
      subst q
      by_cases c7 : S.2 7 x = nI O
      · rw [if_pos ⟨rfl, nz', c7⟩, if_pos c7, if_neg (fun q' => q'.2.2 c7), if_neg (p6' c7)]
        exact ⟨rfl, rfl⟩
      · rw [if_neg (fun q' => c7 q'.2.2), if_neg c7, if_pos ⟨rfl, nz', c7⟩, if_pos (p5'.resolve_left c7)]
        exact ⟨rfl, rfl⟩
    · rw [if_neg (fun q' => q q'.1), if_neg (fun q' => q (c1' q')), if_neg (fun q' => q q'.1), if_neg (fun q' => q (c2' q'))]
      exact ⟨rfl, rfl⟩) (fun x hx hx' => by
    have xa := (xl1 x hx').2
    rcases (hv3 x).mp hx with (q | q) | q
    · omega
    · omega
    · exact q)
  have l'm : ∀ x, x ∈ l' ↔ (x = P ∨ x = F) ∨ x ∈ l := by
    intro x
    rw [q3, hv3]
    constructor
    · rintro (q | q | q)
      · exact Or.inr q.1
      · exact Or.inl q
      · exact Or.inr (t9 x q)
    · rintro (q | q)
      · exact Or.inr (Or.inl q)
      · by_cases c : x ∈ lu
        · exact Or.inr (Or.inr c)
        · exact Or.inl ⟨q, c⟩
  have opi : ∀ x, x ≤ 60 → (¬ S1.2 4 x = 0 ↔ x ∈ l') := by
    intro x hx
    rw [l'm, o4]
    by_cases c : x = F ∨ x = P
    · rw [if_pos c]; exact ⟨fun _ => Or.inl c.symm, fun _ => by decide⟩
    · rw [if_neg c, t5 x hx]; exact ⟨Or.inr, fun q => q.resolve_left (fun q' => c q'.symm)⟩
  refine Or.inr ⟨d', if O = r then P else r, l', ?_, q1, q2, ?_, opi⟩
  · rw [o3]
    by_cases c : upu = 0
    · rw [if_pos c, if_pos (ur.mp c)]
    · rw [if_neg c, if_neg (fun q => c (ur.mpr q)), t1]
  · have mm : ∀ q, q ∈ l' → 1 ≤ q ∧ q ≤ a + 2 := fun q hq => by
      rcases (l'm q).mp hq with (w | w) | w
      · omega
      · omega
      · have := xl1 q w; omega
    have e : lvs (S1.2 5) l' = cO (lfN S1) 1 (a + 2) := by
      unfold lvs
      rw [cO_list l' q2 mm]
      refine cO_congr (a + 2) 1 (fun p p1 p2 => ?_)
      unfold lfN
      have i := opi p (by omega)
      by_cases c : S1.2 4 p = 0
      · rw [decide_eq_true c, decide_eq_false (fun q => (i.mpr q) c)]; rfl
      · rw [decide_eq_false c, decide_eq_true (i.mp c)]; rfl
    have e1 : cO (lfN S1) 1 a = cO (lfN S) 1 a := cO_congr a 1 (fun p p1 p2 => by unfold lfN; rw [(old p (by omega)).1, (old p (by omega)).2])
    have e2 : cO (lfN S1) (1 + a) 2 ≤ 1 := by
      show (bif lfN S1 (1 + a) then 1 else 0) + ((bif lfN S1 (1 + a + 1) then 1 else 0) + 0) ≤ 1
      have z : lfN S1 (1 + a + 1) = false := by
        rw [show 1 + a + 1 = P by omega]; unfold lfN; rw [p5]; simp
      rw [z]
      cases lfN S1 (1 + a) <;> decide
    rw [e, cO_add, e1]
    omega
