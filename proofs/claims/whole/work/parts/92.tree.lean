/-! ===== trees that change ===== -/
section TRC
variable {op kd ab fi se op' kd' ab' fi' se' : Nat → Int32}
theorem TP.cong : ∀ {d up p : Nat} {l : List Nat}, TP op kd ab fi se d up p l → (∀ x, x ∈ l → ¬ op' x = 0 ∧ kd' x = kd x ∧ ab' x = ab x ∧ (kd x = 4 → fi' x = fi x ∧ se' x = se x)) → TP op' kd' ab' fi' se' d up p l := by
  intro d
  induction d with
  | zero => intro up p l h; cases h
  | succ d ih =>
    intro up p l h hc
    have hp := hc p h.here.2.2.2.2
    obtain ⟨h1, h2, h3, h4, h5⟩ := h
    refine ⟨h1, h2, hp.1, by rw [hp.2.2.1]; exact h4, ?_⟩
    rw [hp.2.1]
    rcases h5 with h5 | ⟨h5, f, s, ll, lr, h6, h7, h8, h9, h10⟩
    · exact Or.inl h5
    · subst h8
      obtain ⟨c1, c2⟩ := hp.2.2.2 h5
      exact Or.inr ⟨h5, f, s, ll, lr, by rw [c1]; exact h6, by rw [c2]; exact h7, rfl, ih h9 (fun x hx => hc x (List.mem_cons_of_mem _ (List.mem_append_left _ hx))), ih h10 (fun x hx => hc x (List.mem_cons_of_mem _ (List.mem_append_right _ hx)))⟩
/-- the same, but under another pane -/
theorem TP.cong0 {d up up' p : Nat} {l : List Nat} (h : TP op kd ab fi se d up p l) (hn : l.Nodup) (hc : ∀ x, x ∈ l → ¬ op' x = 0 ∧ kd' x = kd x ∧ (¬ x = p → ab' x = ab x) ∧ (kd x = 4 → fi' x = fi x ∧ se' x = se x)) (hu : ab' p = nI up') : TP op' kd' ab' fi' se' d up' p l := by
  cases d with
  | zero => cases h
  | succ d =>
    have hp := hc p h.here.2.2.2.2
    obtain ⟨h1, h2, h3, h4, h5⟩ := h
    refine ⟨h1, h2, hp.1, hu, ?_⟩
    rw [hp.2.1]
    rcases h5 with h5 | ⟨h5, f, s, ll, lr, h6, h7, h8, h9, h10⟩
    · exact Or.inl h5
    · subst h8
      obtain ⟨n1, n2⟩ := List.nodup_cons.mp hn
      obtain ⟨c1, c2⟩ := hp.2.2.2 h5
      refine Or.inr ⟨h5, f, s, ll, lr, by rw [c1]; exact h6, by rw [c2]; exact h7, rfl, h9.cong (fun x hx => ?_), h10.cong (fun x hx => ?_)⟩
      · obtain ⟨a1, a2, a3, a4⟩ := hc x (List.mem_cons_of_mem _ (List.mem_append_left _ hx))
        exact ⟨a1, a2, a3 (fun e => n1 (List.mem_append_left _ (e ▸ hx))), a4⟩
      · obtain ⟨a1, a2, a3, a4⟩ := hc x (List.mem_cons_of_mem _ (List.mem_append_right _ hx))
        exact ⟨a1, a2, a3 (fun e => n1 (List.mem_append_right _ (e ▸ hx))), a4⟩
theorem TP.uniq : ∀ {d d' up up' p : Nat} {l l' : List Nat}, TP op kd ab fi se d up p l → TP op kd ab fi se d' up' p l' → l = l' := by
  intro d
  induction d with
  | zero => intro d' up up' p l l' h; cases h
  | succ d ih =>
    intro d' up up' p l l' h h'
    cases d' with
    | zero => cases h'
    | succ d' =>
      obtain ⟨-, -, -, -, h5⟩ := h
      obtain ⟨-, -, -, -, g5⟩ := h'
      rcases h5 with ⟨h5, h6⟩ | ⟨h5, f, s, ll, lr, h6, h7, h8, h9, h10⟩
      · rcases g5 with ⟨g5, g6⟩ | ⟨g5, -⟩
        · rw [h6, g6]
        · exact absurd g5 h5
      · rcases g5 with ⟨g5, -⟩ | ⟨g5, f', s', ll', lr', g6, g7, g8, g9, g10⟩
        · exact absurd h5 g5
        · have e1 : f = f' := (nI_eq (by have := h9.here.2.1; omega) (by have := g9.here.2.1; omega)).mp (by rw [← h6, g6])
          have e2 : s = s' := (nI_eq (by have := h10.here.2.1; omega) (by have := g10.here.2.1; omega)).mp (by rw [← h7, g7])
          subst e1 e2
          rw [h8, g8, ih h9 g9, ih h10 g10]
theorem TP.child {d up r : Nat} {l : List Nat} (h : TP op kd ab fi se d up r l) {x : Nat} (hx : x ∈ l) (hk : kd x = 4) : ∃ f s, fi x = nI f ∧ se x = nI s ∧ f ∈ l ∧ s ∈ l ∧ f ≤ 60 ∧ s ≤ 60 ∧ ab f = nI x ∧ ab s = nI x := by
  obtain ⟨d', up', l', q1, q2, q3, q4⟩ := h.sub x hx
  cases d' with
  | zero => cases q2
  | succ d' =>
    obtain ⟨-, -, -, -, h5⟩ := q2
    rcases h5 with ⟨h5, -⟩ | ⟨h5, f, s, ll, lr, h6, h7, h8, h9, h10⟩
    · exact absurd hk h5
    · subst h8
      exact ⟨f, s, h6, h7, q3 f (List.mem_cons_of_mem _ (List.mem_append_left _ h9.here.2.2.2.2)), q3 s (List.mem_cons_of_mem _ (List.mem_append_right _ h10.here.2.2.2.2)), h9.here.2.1, h10.here.2.1, h9.here.2.2.2.1, h10.here.2.2.2.1⟩
theorem TP.sub_nd : ∀ {d up r : Nat} {l : List Nat}, TP op kd ab fi se d up r l → l.Nodup → ∀ p, p ∈ l → ∃ d' up' l', d' ≤ d ∧ TP op kd ab fi se d' up' p l' ∧ l'.Nodup ∧ (∀ x, x ∈ l' → x ∈ l) ∧ ((up' ∈ l ∧ kd up' = 4 ∧ ¬ up' ∈ l') ∨ (p = r ∧ up' = up)) := by
  intro d
  induction d with
  | zero => intro up r l h; cases h
  | succ d ih =>
    intro up r l h hn p hp
    have h0 := h
    obtain ⟨h1, h2, h3, h4, h5⟩ := h
    rcases h5 with ⟨h5, h6⟩ | ⟨h5, f, s, ll, lr, h6, h7, h8, h9, h10⟩
    · subst h6
      have e : p = r := List.mem_singleton.mp hp
      subst e
      exact ⟨d + 1, up, [p], Nat.le_refl _, h0, hn, fun x hx => hx, Or.inr ⟨rfl, rfl⟩⟩
    · subst h8
      obtain ⟨n1, n2⟩ := List.nodup_cons.mp hn
      obtain ⟨n3, n4, n5⟩ := List.nodup_append.mp n2
      have il : ∀ x, x ∈ ll → x ∈ r :: (ll ++ lr) := fun x h => List.mem_cons_of_mem _ (List.mem_append_left _ h)
      have ir : ∀ x, x ∈ lr → x ∈ r :: (ll ++ lr) := fun x h => List.mem_cons_of_mem _ (List.mem_append_right _ h)
      rcases List.mem_cons.mp hp with e | e
      · subst e
        exact ⟨d + 1, up, _, Nat.le_refl _, h0, hn, fun x hx => hx, Or.inr ⟨rfl, rfl⟩⟩
      · rcases List.mem_append.mp e with e | e
        · obtain ⟨d', up', l', q1, q2, q3, q4, q5⟩ := ih h9 n3 p e
          refine ⟨d', up', l', by omega, q2, q3, fun x hx => il x (q4 x hx), ?_⟩
          rcases q5 with q5 | q5
          · exact Or.inl ⟨il _ q5.1, q5.2⟩
          · exact Or.inl ⟨by rw [q5.2]; exact List.mem_cons_self, by rw [q5.2]; exact h5, fun hx => by rw [q5.2] at hx; exact n1 (List.mem_append_left _ (q4 _ hx))⟩
        · obtain ⟨d', up', l', q1, q2, q3, q4, q5⟩ := ih h10 n4 p e
          refine ⟨d', up', l', by omega, q2, q3, fun x hx => ir x (q4 x hx), ?_⟩
          rcases q5 with q5 | q5
          · exact Or.inl ⟨ir _ q5.1, q5.2⟩
          · exact Or.inl ⟨by rw [q5.2]; exact List.mem_cons_self, by rw [q5.2]; exact h5, fun hx => by rw [q5.2] at hx; exact n1 (List.mem_append_right _ (q4 _ hx))⟩
/-- the part at u is put in the place of another -/
theorem TP.rep {u v du dv upu : Nat} {lu lv : List Nat} (hu : TP op kd ab fi se du upu u lu) (hv : TP op' kd' ab' fi' se' dv upu v lv) (hupu : upu ≤ 60) (hnv : lv.Nodup) : ∀ {d up r : Nat} {l : List Nat}, TP op kd ab fi se d up r l → l.Nodup → up ≤ 60 → u ∈ l → (∀ x, x ∈ l → ¬ x ∈ lu → ¬ op' x = 0 ∧ kd' x = kd x ∧ ab' x = ab x ∧ (kd x = 4 → fi' x = (if fi x = nI u then nI v else fi x) ∧ se' x = (if se x = nI u then nI v else se x))) → (∀ x, x ∈ lv → x ∈ l → x ∈ lu) → ∃ d' l', TP op' kd' ab' fi' se' d' up (if u = r then v else r) l' ∧ l'.Nodup ∧ ∀ x, x ∈ l' ↔ (x ∈ l ∧ ¬ x ∈ lu) ∨ x ∈ lv := by
  intro d
  induction d with
  | zero => intro up r l h; cases h
  | succ d ih =>
    intro up r l h hn hup hul hc hd
    have h0 := h
    obtain ⟨h1, h2, h3, h4, h5⟩ := h
    by_cases e : u = r
    · subst e
      have el := h0.uniq hu
      have eu : up = upu := (nI_eq (by omega) (by omega)).mp (by rw [← h4, ← hu.here.2.2.2.1])
      subst eu
      refine ⟨dv, lv, by rw [if_pos rfl]; exact hv, hnv, fun x => ?_⟩
      rw [el]
      exact ⟨fun q => Or.inr q, fun q => q.elim (fun q => absurd q.1 q.2) id⟩
    · rcases h5 with ⟨h5, h6⟩ | ⟨h5, f, s, ll, lr, h6, h7, h8, h9, h10⟩
      · subst h6
        exact absurd (List.mem_singleton.mp hul) e
      · subst h8
        obtain ⟨n1, n2⟩ := List.nodup_cons.mp hn
        obtain ⟨n3, n4, n5⟩ := List.nodup_append.mp n2
        have il : ∀ x, x ∈ ll → x ∈ r :: (ll ++ lr) := fun x h => List.mem_cons_of_mem _ (List.mem_append_left _ h)
        have ir : ∀ x, x ∈ lr → x ∈ r :: (ll ++ lr) := fun x h => List.mem_cons_of_mem _ (List.mem_append_right _ h)
        have hf := h9.here
        have hs := h10.here
        have dj : ∀ x, x ∈ ll → ¬ x ∈ lr := fun x h h' => n5 x h x h' rfl
        have u60 := hu.here.2.1
        rw [if_neg e]
        rcases List.mem_append.mp ((List.mem_cons.mp hul).resolve_left e) with ul | ul
        · -- within the first
          have sub : ∀ x, x ∈ lu → x ∈ ll := by
            obtain ⟨d1, up1, l1, -, q2, q3, -⟩ := h9.sub u ul
            rw [← q2.uniq hu]; exact q3
          have hr : ¬ r ∈ lu := fun q => n1 (List.mem_append_left _ (sub r q))
          obtain ⟨d1, l1, a1, a2, a3⟩ := ih h9 n3 h2 ul (fun x hx hxu => hc x (il x hx) hxu) (fun x hx hxl => hd x hx (il x hxl))
          have b1 : TP op' kd' ab' fi' se' d r s lr := by
            refine h10.cong (fun x hx => ?_)
            obtain ⟨c1, c2, c3, c4⟩ := hc x (ir x hx) (fun q => dj x (sub x q) hx)
            refine ⟨c1, c2, c3, fun k => ?_⟩
            obtain ⟨f', s', x1, x2, x3, x4, x5, x6, -⟩ := h10.child hx k
            obtain ⟨c5, c6⟩ := c4 k
            rw [if_neg (by rw [x1, nI_eq (by omega) (by omega)]; exact fun q => dj u ul (q ▸ x3))] at c5
            rw [if_neg (by rw [x2, nI_eq (by omega) (by omega)]; exact fun q => dj u ul (q ▸ x4))] at c6
            exact ⟨c5, c6⟩
          obtain ⟨c1, c2, c3, c4⟩ := hc r List.mem_cons_self hr
          obtain ⟨c5, c6⟩ := c4 h5
          have rv : ¬ r ∈ lv := fun q => hr (hd r q List.mem_cons_self)
          refine ⟨max d1 d + 1, r :: (l1 ++ lr), ⟨h1, h2, c1, by rw [c3]; exact h4, Or.inr ⟨by rw [c2]; exact h5, if u = f then v else f, s, l1, lr, ?_, ?_, rfl, a1.mono (Nat.le_max_left _ _), b1.mono (Nat.le_max_right _ _)⟩⟩, ?_, fun x => ?_⟩
          · rw [c5, h6]
            by_cases q : u = f
            · rw [if_pos (by rw [q]), if_pos q]
            · rw [if_neg (by rw [nI_eq (by have := hf.2.1; omega) (by omega)]; exact fun q' => q q'.symm), if_neg q]
          · rw [c6, h7, if_neg (by rw [nI_eq (by have := hs.2.1; omega) (by omega)]; exact fun q => dj u ul (q ▸ hs.2.2.2.2))]
          · refine List.nodup_cons.mpr ⟨fun q => ?_, List.nodup_append.mpr ⟨a2, n4, fun x hx y hy exy => ?_⟩⟩
            · rcases List.mem_append.mp q with q | q
              · rcases (a3 r).mp q with q | q
                · exact n1 (List.mem_append_left _ q.1)
                · exact rv q
              · exact n1 (List.mem_append_right _ q)
            · subst exy
              rcases (a3 x).mp hx with q | q
              · exact dj x q.1 hy
              · exact dj x (sub x (hd x q (ir x hy))) hy
          · constructor
            · intro q
              rcases List.mem_cons.mp q with q | q
              · rw [q]; exact Or.inl ⟨List.mem_cons_self, hr⟩
              · rcases List.mem_append.mp q with q | q
                · rcases (a3 x).mp q with q | q
                  · exact Or.inl ⟨il x q.1, q.2⟩
                  · exact Or.inr q
                · exact Or.inl ⟨ir x q, fun q' => dj x (sub x q') q⟩
            · intro q
              rcases q with ⟨q1, q2⟩ | q
              · rcases List.mem_cons.mp q1 with q1 | q1
                · rw [q1]; exact List.mem_cons_self
                · rcases List.mem_append.mp q1 with q1 | q1
                  · exact List.mem_cons_of_mem _ (List.mem_append_left _ ((a3 x).mpr (Or.inl ⟨q1, q2⟩)))
                  · exact List.mem_cons_of_mem _ (List.mem_append_right _ q1)
              · exact List.mem_cons_of_mem _ (List.mem_append_left _ ((a3 x).mpr (Or.inr q)))
        · -- within the second
          have sub : ∀ x, x ∈ lu → x ∈ lr := by
            obtain ⟨d1, up1, l1, -, q2, q3, -⟩ := h10.sub u ul
            rw [← q2.uniq hu]; exact q3
          have hr : ¬ r ∈ lu := fun q => n1 (List.mem_append_right _ (sub r q))
          obtain ⟨d1, l1, a1, a2, a3⟩ := ih h10 n4 h2 ul (fun x hx hxu => hc x (ir x hx) hxu) (fun x hx hxl => hd x hx (ir x hxl))
          have b1 : TP op' kd' ab' fi' se' d r f ll := by
            refine h9.cong (fun x hx => ?_)
            obtain ⟨c1, c2, c3, c4⟩ := hc x (il x hx) (fun q => dj x hx (sub x q))
            refine ⟨c1, c2, c3, fun k => ?_⟩
            obtain ⟨f', s', x1, x2, x3, x4, x5, x6, -⟩ := h9.child hx k
            obtain ⟨c5, c6⟩ := c4 k
            rw [if_neg (by rw [x1, nI_eq (by omega) (by omega)]; exact fun q => dj u (q ▸ x3) ul)] at c5
            rw [if_neg (by rw [x2, nI_eq (by omega) (by omega)]; exact fun q => dj u (q ▸ x4) ul)] at c6
            exact ⟨c5, c6⟩
          obtain ⟨c1, c2, c3, c4⟩ := hc r List.mem_cons_self hr
          obtain ⟨c5, c6⟩ := c4 h5
          have rv : ¬ r ∈ lv := fun q => hr (hd r q List.mem_cons_self)
          refine ⟨max d1 d + 1, r :: (ll ++ l1), ⟨h1, h2, c1, by rw [c3]; exact h4, Or.inr ⟨by rw [c2]; exact h5, f, if u = s then v else s, ll, l1, ?_, ?_, rfl, b1.mono (Nat.le_max_right _ _), a1.mono (Nat.le_max_left _ _)⟩⟩, ?_, fun x => ?_⟩
          · rw [c5, h6, if_neg (by rw [nI_eq (by have := hf.2.1; omega) (by omega)]; exact fun q => dj f hf.2.2.2.2 (q ▸ ul))]
          · rw [c6, h7]
            by_cases q : u = s
            · rw [if_pos (by rw [q]), if_pos q]
            · rw [if_neg (by rw [nI_eq (by have := hs.2.1; omega) (by omega)]; exact fun q' => q q'.symm), if_neg q]
          · refine List.nodup_cons.mpr ⟨fun q => ?_, List.nodup_append.mpr ⟨n3, a2, fun x hx y hy exy => ?_⟩⟩
            · rcases List.mem_append.mp q with q | q
              · exact n1 (List.mem_append_left _ q)
              · rcases (a3 r).mp q with q | q
                · exact n1 (List.mem_append_right _ q.1)
                · exact rv q
            · subst exy
              rcases (a3 x).mp hy with q | q
              · exact dj x hx q.1
              · exact dj x hx (sub x (hd x q (il x hx)))
          · constructor
            · intro q
              rcases List.mem_cons.mp q with q | q
              · rw [q]; exact Or.inl ⟨List.mem_cons_self, hr⟩
              · rcases List.mem_append.mp q with q | q
                · exact Or.inl ⟨il x q, fun q' => dj x q (sub x q')⟩
                · rcases (a3 x).mp q with q | q
                  · exact Or.inl ⟨ir x q.1, q.2⟩
                  · exact Or.inr q
            · intro q
              rcases q with ⟨q1, q2⟩ | q
              · rcases List.mem_cons.mp q1 with q1 | q1
                · rw [q1]; exact List.mem_cons_self
                · rcases List.mem_append.mp q1 with q1 | q1
                  · exact List.mem_cons_of_mem _ (List.mem_append_left _ q1)
                  · exact List.mem_cons_of_mem _ (List.mem_append_right _ ((a3 x).mpr (Or.inl ⟨q1, q2⟩)))
              · exact List.mem_cons_of_mem _ (List.mem_append_right _ ((a3 x).mpr (Or.inr q)))
/-- walking up out of a part: the reference -/
theorem wi_out {S : MS} {t : Nat} (ht : t ≤ 60) (hab : S.2 6 = ab) : ∀ {d up p : Nat} {l : List Nat} {x n : Nat}, TP op kd ab fi se d up p l → x ∈ l → ¬ t ∈ l → d < n → ∃ n', n ≤ n' + d ∧ f_M_isWithin_B2 n S (nI t) (nI x) = f_M_isWithin_B2 n' S (nI t) (nI up) := by
  intro d
  induction d with
  | zero => intro up p l x n h; cases h
  | succ d ih =>
    intro up p l x n h hx hnt hn
    have h0 := h
    obtain ⟨h1, h2, h3, h4, h5⟩ := h
    have step : ∀ n, 0 < n → ∃ n', n = n' + 1 ∧ f_M_isWithin_B2 n S (nI t) (nI p) = f_M_isWithin_B2 n' S (nI t) (nI up) := by
      intro n hn
      cases n with
      | zero => omega
      | succ n =>
        refine ⟨n, rfl, ?_⟩
        have ne : ¬ nI p = nI t := by rw [nI_eq (by omega) (by omega)]; exact fun q => hnt (q ▸ h0.here.2.2.2.2)
        rw [f_M_isWithin_B2, if_neg (show ¬ nI p ≤ 0 from nI_ge (a := 0) (b := p) (by omega) (by omega)), if_neg ne, inn (show p < 61 by omega) (by decide), cond_true, ixn (show p < 2 ^ 31 by omega), hab, h4]
    rcases h5 with ⟨h5, h6⟩ | ⟨h5, f, s, ll, lr, h6, h7, h8, h9, h10⟩
    · subst h6
      rw [List.mem_singleton.mp hx]
      obtain ⟨n', q1, q2⟩ := step n (by omega)
      exact ⟨n', by omega, q2⟩
    · subst h8
      rcases List.mem_cons.mp hx with e | e
      · rw [e]
        obtain ⟨n', q1, q2⟩ := step n (by omega)
        exact ⟨n', by omega, q2⟩
      · rcases List.mem_append.mp e with e | e
        · obtain ⟨n1, q1, q2⟩ := ih h9 e (fun q => hnt (List.mem_cons_of_mem _ (List.mem_append_left _ q))) (show d < n by omega)
          obtain ⟨n', q3, q4⟩ := step n1 (by omega)
          exact ⟨n', by omega, by rw [q2, q4]⟩
        · obtain ⟨n1, q1, q2⟩ := ih h10 e (fun q => hnt (List.mem_cons_of_mem _ (List.mem_append_right _ q))) (show d < n by omega)
          obtain ⟨n', q3, q4⟩ := step n1 (by omega)
          exact ⟨n', by omega, by rw [q2, q4]⟩
theorem wi_in {S : MS} (hab : S.2 6 = ab) {d up p : Nat} {l : List Nat} {x n : Nat} (h : TP op kd ab fi se d up p l) (hnd : l.Nodup) (hx : x ∈ l) (hn : d < n) : f_M_isWithin n S (nI x) (nI p) = some (1, S) := by
  have here : ∀ n, 0 < n → f_M_isWithin_B2 n S (nI p) (nI p) = some (1, S) := by
    intro n hn
    cases n with
    | zero => omega
    | succ n =>
      rw [f_M_isWithin_B2]
      simp
  show f_M_isWithin_B2 n S (nI p) (nI x) = some (1, S)
  cases d with
  | zero => cases h
  | succ d =>
    obtain ⟨h1, h2, h3, h4, h5⟩ := h
    rcases h5 with ⟨h5, h6⟩ | ⟨h5, f, s, ll, lr, h6, h7, h8, h9, h10⟩
    · subst h6
      rw [List.mem_singleton.mp hx]
      exact here n (by omega)
    · subst h8
      obtain ⟨n1, n2⟩ := List.nodup_cons.mp hnd
      rcases List.mem_cons.mp hx with e | e
      · rw [e]; exact here n (by omega)
      · rcases List.mem_append.mp e with e | e
        · obtain ⟨n', q1, q2⟩ := wi_out h2 hab h9 e (fun q => n1 (List.mem_append_left _ q)) (show d < n by omega)
          rw [q2]; exact here n' (by omega)
        · obtain ⟨n', q1, q2⟩ := wi_out h2 hab h10 e (fun q => n1 (List.mem_append_right _ q)) (show d < n by omega)
          rw [q2]; exact here n' (by omega)
theorem wi_zero {S : MS} {t n : Nat} (h1 : 1 ≤ t) (h2 : t ≤ 60) (hn : 0 < n) : f_M_isWithin_B2 n S (nI t) (nI 0) = some (0, S) := by
  cases n with
  | zero => omega
  | succ n => rw [f_M_isWithin_B2, if_pos (by decide), if_neg (by rw [nI_eq (by omega) (by omega)]; omega)]
end TRC
section BEL
variable {op kd ab fi se : Nat → Int32} {h : gHp} {A : Nat → Nat → Nat} {ρ : Nat → Nat × Nat} {L a : Nat} {K : KS} {kc : Nat → Int32}
/-- walking up out of a part: the class -/
theorem be_out {t : Nat} (ha : a ≤ 60) (H : Hrep h A ρ (cT L a kc) K) (hta : pnN a t = true) : ∀ {d up p : Nat} {l : List Nat} {x n i : Nat}, TP op kd ab fi se d up p l → (∀ y, y ∈ l → pnN a y = true ∧ K.2 7 y 2 = nz (ab y)) → (up = 0 ∨ pnN a up = true) → x ∈ l → ¬ t ∈ l → i + d ≤ 59 → d < n → ∃ n' i', n ≤ n' + d ∧ i' ≤ i + d ∧ f_G_isBelow_B4 n h (some (A 7 t)) (some (A 7 x)) (nI i) = (if t = up then some (1, h) else f_G_isBelow_B4 n' h (some (A 7 t)) (aM A (nz (nI up))) (nI i')) := by
  intro d
  induction d with
  | zero => intro up p l x n i h; cases h
  | succ d ih =>
    intro up p l x n i hT hK hup hx hnt hi hn
    have h0 := hT
    obtain ⟨h1, h2, h3, h4, h5⟩ := hT
    have t60 : t ≤ 60 := by have := (pnN_le hta).2; omega
    have t1 := (pnN_le hta).1
    obtain ⟨kp, kp2⟩ := hK p h0.here.2.2.2.2
    have step : ∀ n i, 0 < n → i < 60 → ∃ n' i', n = n' + 1 ∧ i' = i + 1 ∧ f_G_isBelow_B4 n h (some (A 7 t)) (some (A 7 p)) (nI i) = (if t = up then some (1, h) else f_G_isBelow_B4 n' h (some (A 7 t)) (aM A (nz (nI up))) (nI i')) := by
      intro n i hn hi
      cases n with
      | zero => omega
      | succ n =>
        refine ⟨n, i + 1, rfl, rfl, ?_⟩
        have r2 : gref h (A 7 p) 2 = aM A (nz (nI up)) := by rw [H.ref (cT7 kp), kp2, h4]
        rw [f_G_isBelow_B4, if_neg (show ¬ (60 : Int32) ≤ nI i from nI_ge (a := i) (b := 60) (by omega) (by decide)), if_neg (by simp), Option.bind_some, H.tag (cT7 kp), cTag_pane, cond_true, r2, nI_1]
        by_cases q : t = up
        · subst q
          rw [if_pos rfl, aM_nz t1 t60, if_pos rfl]
        · rw [if_neg q]
          rcases hup with e | e
          · rw [e]
            have e0 : aM A (nz (nI 0)) = none := rfl
            rw [e0, if_neg (by simp)]
          · obtain ⟨u1, u2⟩ := pnN_le e
            rw [aM_nz u1 (by omega), if_neg]
            intro q'
            exact q ((H.inj (cT7 hta) (cT7 e)).mp (Option.some.inj q').symm).2
    rcases h5 with ⟨h5, h6⟩ | ⟨h5, f, s, ll, lr, h6, h7, h8, h9, h10⟩
    · subst h6
      rw [List.mem_singleton.mp hx]
      obtain ⟨n', i', q1, q2, q3⟩ := step n i (by omega) (by omega)
      exact ⟨n', i', by omega, by omega, q3⟩
    · subst h8
      have np : ¬ t = p := fun q => hnt (q ▸ List.mem_cons_self)
      rcases List.mem_cons.mp hx with e | e
      · rw [e]
        obtain ⟨n', i', q1, q2, q3⟩ := step n i (by omega) (by omega)
        exact ⟨n', i', by omega, by omega, q3⟩
      · rcases List.mem_append.mp e with e | e
        · obtain ⟨n1, i1, q1, q2, q3⟩ := ih (i := i) h9 (fun y hy => hK y (List.mem_cons_of_mem _ (List.mem_append_left _ hy))) (Or.inr kp) e (fun q => hnt (List.mem_cons_of_mem _ (List.mem_append_left _ q))) (by omega) (show d < n by omega)
          rw [if_neg np, aM_nz h1 h2] at q3
          obtain ⟨n', i', q4, q5, q6⟩ := step n1 i1 (by omega) (by omega)
          exact ⟨n', i', by omega, by omega, by rw [q3, q6]⟩
        · obtain ⟨n1, i1, q1, q2, q3⟩ := ih (i := i) h10 (fun y hy => hK y (List.mem_cons_of_mem _ (List.mem_append_right _ hy))) (Or.inr kp) e (fun q => hnt (List.mem_cons_of_mem _ (List.mem_append_right _ q))) (by omega) (show d < n by omega)
          rw [if_neg np, aM_nz h1 h2] at q3
          obtain ⟨n', i', q4, q5, q6⟩ := step n1 i1 (by omega) (by omega)
          exact ⟨n', i', by omega, by omega, by rw [q3, q6]⟩
/-- what lies below P -/
theorem be_in (ha : a ≤ 60) (H : Hrep h A ρ (cT L a kc) K) {d up P : Nat} {l : List Nat} {x n : Nat} (hT : TP op kd ab fi se d up P l) (hnd : l.Nodup) (hd : d ≤ 50) (hK : ∀ y, y ∈ l → pnN a y = true ∧ K.2 7 y 2 = nz (ab y)) (hx : x ∈ l) (hxP : ¬ x = P) (hn : 100 ≤ n) : f_G_isBelow n h (some (A 7 x)) (some (A 7 P)) = some (1, h) := by
  have kP := (hK P hT.here.2.2.2.2).1
  show f_G_isBelow_B4 n h (some (A 7 P)) (some (A 7 x)) (nI 0) = _
  cases d with
  | zero => cases hT
  | succ d =>
    obtain ⟨h1, h2, h3, h4, h5⟩ := hT
    rcases h5 with ⟨h5, h6⟩ | ⟨h5, f, s, ll, lr, h6, h7, h8, h9, h10⟩
    · subst h6
      exact absurd (List.mem_singleton.mp hx) hxP
    · subst h8
      obtain ⟨n1, n2⟩ := List.nodup_cons.mp hnd
      rcases List.mem_append.mp ((List.mem_cons.mp hx).resolve_left hxP) with e | e
      · obtain ⟨n', i', q1, q2, q3⟩ := be_out (i := 0) ha H kP h9 (fun y hy => hK y (List.mem_cons_of_mem _ (List.mem_append_left _ hy))) (Or.inr kP) e (fun q => n1 (List.mem_append_left _ q)) (by omega) (show d < n by omega)
        rw [q3, if_pos rfl]
      · obtain ⟨n', i', q1, q2, q3⟩ := be_out (i := 0) ha H kP h10 (fun y hy => hK y (List.mem_cons_of_mem _ (List.mem_append_right _ hy))) (Or.inr kP) e (fun q => n1 (List.mem_append_right _ q)) (by omega) (show d < n by omega)
        rw [q3, if_pos rfl]
theorem be_no (ha : a ≤ 60) (H : Hrep h A ρ (cT L a kc) K) {t d r : Nat} {l : List Nat} {x n : Nat} (hta : pnN a t = true) (hT : TP op kd ab fi se d 0 r l) (hd : d ≤ 50) (hK : ∀ y, y ∈ l → pnN a y = true ∧ K.2 7 y 2 = nz (ab y)) (hx : x ∈ l) (hnt : ¬ t ∈ l) (hn : 100 ≤ n) : f_G_isBelow n h (some (A 7 x)) (some (A 7 t)) = some (0, h) := by
  show f_G_isBelow_B4 n h (some (A 7 t)) (some (A 7 x)) (nI 0) = _
  obtain ⟨n', i', q1, q2, q3⟩ := be_out (i := 0) ha H hta hT hK (Or.inl rfl) hx hnt (by omega) (show d < n by omega)
  rw [q3, if_neg (by have := (pnN_le hta).1; omega)]
  obtain ⟨m, rfl⟩ : ∃ m, n' = m + 1 := ⟨n' - 1, by omega⟩
  rw [f_G_isBelow_B4, if_neg (show ¬ (60 : Int32) ≤ nI i' from nI_ge (a := i') (b := 60) (by omega) (by decide))]
  rfl
end BEL
