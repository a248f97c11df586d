/-! ===== the pane at a place ===== -/
section TR2
variable {op kd ab fi se : Nat → Int32}
theorem TP.mono : ∀ {d d' up p : Nat} {l : List Nat}, TP op kd ab fi se d up p l → d ≤ d' → TP op kd ab fi se d' up p l := by
  intro d
  induction d with
  | zero => intro d' up p l h _; cases h
  | succ d ih =>
    intro d' up p l h hd
    cases d' with
    | zero => omega
    | succ d' =>
      obtain ⟨h1, h2, h3, h4, h5⟩ := h
      refine ⟨h1, h2, h3, h4, ?_⟩
      rcases h5 with h5 | ⟨h5, f, s, ll, lr, h6, h7, h8, h9, h10⟩
      · exact Or.inl h5
      · exact Or.inr ⟨h5, f, s, ll, lr, h6, h7, h8, ih h9 (by omega), ih h10 (by omega)⟩
theorem TP.lv : ∀ {d up p : Nat} {l : List Nat}, TP op kd ab fi se d up p l → TP op kd ab fi se (lvs kd l) up p l ∧ 1 ≤ lvs kd l := by
  intro d
  induction d with
  | zero => intro up p l h; cases h
  | succ d ih =>
    intro up p l h
    obtain ⟨h1, h2, h3, h4, h5⟩ := h
    rcases h5 with ⟨h5, h6⟩ | ⟨h5, f, s, ll, lr, h6, h7, h8, h9, h10⟩
    · subst h6
      have e : lvs kd [p] = 1 := by simp [lvs, h5]
      rw [e]
      exact ⟨⟨h1, h2, h3, h4, Or.inl ⟨h5, rfl⟩⟩, by omega⟩
    · subst h8
      obtain ⟨a1, a2⟩ := ih h9
      obtain ⟨b1, b2⟩ := ih h10
      have e : lvs kd (p :: (ll ++ lr)) = (lvs kd ll + lvs kd lr - 1) + 1 := by
        have : lvs kd (p :: (ll ++ lr)) = lvs kd ll + lvs kd lr := by simp [lvs, h5, List.countP_append]
        omega
      rw [e]
      exact ⟨⟨h1, h2, h3, h4, Or.inr ⟨h5, f, s, ll, lr, h6, h7, rfl, a1.mono (by omega), b1.mono (by omega)⟩⟩, by omega⟩
end TR2
def inRb (S : MS) (q : Nat) (x y : Int) : Bool := (decide ((S.2 12 q).toInt ≤ x) && decide (x < (S.2 12 q).toInt + (S.2 14 q).toInt)) && (decide ((S.2 13 q).toInt ≤ y) && decide (y < (S.2 13 q).toInt + (S.2 15 q).toInt))
theorem inRb_iff {S : MS} {q : Nat} {x y : Int} : inRb S q x y = true ↔ inR S q x y := by
  simp only [inRb, inR, Bool.and_eq_true, decide_eq_true_eq]
  omega
section PAT
variable {h : gHp} {A : Nat → Nat → Nat} {ρ : Nat → Nat × Nat} {L a n x y : Nat} {K : KS} {S : MS}
theorem rect_of (hW : WFr S) {q : Nat} (hq : q ≤ 60) : ∃ X Y W V, S.2 12 q = nI X ∧ S.2 13 q = nI Y ∧ S.2 14 q = nI W ∧ S.2 15 q = nI V ∧ X + W ≤ 60 ∧ Y + V ≤ 24 := by
  obtain ⟨z1, z2, z3, z4, z5, z6⟩ := hW.2.1 q hq
  obtain ⟨X, x1, x2⟩ := bd_n (show bd (S.2 12 q) 60 from ⟨z1, by omega⟩)
  obtain ⟨Y, y1, y2⟩ := bd_n (show bd (S.2 13 q) 24 from ⟨z2, by omega⟩)
  obtain ⟨W, w1, w2⟩ := bd_n (show bd (S.2 14 q) 60 from ⟨z3, by omega⟩)
  obtain ⟨V, v1, v2⟩ := bd_n (show bd (S.2 15 q) 24 from ⟨z4, by omega⟩)
  rw [x2, w2, nI_toInt (by omega), nI_toInt (by omega)] at z5
  rw [y2, v2, nI_toInt (by omega), nI_toInt (by omega)] at z6
  exact ⟨X, Y, W, V, x2, y2, w2, v2, by omega, by omega⟩
theorem e_isIn (H : Hrep h A ρ (cT L a (S.2 5)) K) (hP : RKp K S a) (hW : WFr S) {q : Nat} (hp : pnN a q = true) (hq : q ≤ 60) (hx : x < 1000) (hy : y < 1000) (n : Nat) : f_Tree_isIn n h (some (A 7 q)) (nI x) (nI y) = some (b32 (inRb S q x y), h) := by
  obtain ⟨X, Y, W, V, r1, r2, r3, r4, r5, r6⟩ := rect_of hW hq
  obtain ⟨-, -, k3, k4, -⟩ := pane_ints H hP hp
  have tg := H.tag (cT7 hp)
  have hh := has_w H hP hp n r3 r4 (by omega) (by omega) (nI x - nI X) (nI y - nI Y)
  rw [nI_sub_toInt (by omega) (by omega), nI_sub_toInt (by omega) (by omega)] at hh
  have e : inRb S q x y = (decide (0 ≤ (x : Int) - (X : Int) ∧ (x : Int) - (X : Int) < (W : Int)) && decide (0 ≤ (y : Int) - (Y : Int) ∧ (y : Int) - (Y : Int) < (V : Int))) := by
    unfold inRb
    rw [r1, r2, r3, r4, nI_toInt (by omega), nI_toInt (by omega), nI_toInt (by omega), nI_toInt (by omega)]
    congr 1
    · rw [Bool.eq_iff_iff]; simp only [Bool.and_eq_true, decide_eq_true_eq]; omega
    · rw [Bool.eq_iff_iff]; simp only [Bool.and_eq_true, decide_eq_true_eq]; omega
  rw [← e] at hh
  unfold f_Tree_isIn
  simp only [reduceCtorEq, if_false, reduceIte, Option.bind_some, tg, cTag_pane, cond_true, k3, k4, r1, r2, hh]
  cases inRb S q x y <;> rfl
theorem e_Mhas (hW : WFr S) {q : Nat} (hq : q ≤ 60) (hx : x < 1000) (hy : y < 1000) (n : Nat) : f_M_has n S (nI q) (nI x) (nI y) = some (b32 (inRb S q x y), S) := by
  obtain ⟨X, Y, W, V, r1, r2, r3, r4, r5, r6⟩ := rect_of hW hq
  have iP := ixn (show q < 2 ^ 31 by omega)
  have bP : inB (nI q) 61 = true := inn (by omega) (by decide)
  have g1 : rgB (nI x) (nI X) (nI X + nI W - 1) = (decide ((X : Int) ≤ (x : Int)) && decide ((x : Int) < (X : Int) + (W : Int))) := by
    unfold rgB
    rw [nI_add, show nI (X + W) - 1 = nI (X + W) - nI 1 from rfl, nI_sub_toInt (by omega) (by omega), nI_toInt (by omega), nI_toInt (by omega)]
    congr 1
    rw [Bool.eq_iff_iff]; simp only [decide_eq_true_eq]; omega
  have g2 : rgB (nI y) (nI Y) (nI Y + nI V - 1) = (decide ((Y : Int) ≤ (y : Int)) && decide ((y : Int) < (Y : Int) + (V : Int))) := by
    unfold rgB
    rw [nI_add, show nI (Y + V) - 1 = nI (Y + V) - nI 1 from rfl, nI_sub_toInt (by omega) (by omega), nI_toInt (by omega), nI_toInt (by omega)]
    congr 1
    rw [Bool.eq_iff_iff]; simp only [decide_eq_true_eq]; omega
  unfold f_M_has inRb
  simp only [bP, cond_true, iP, r1, r2, r3, r4, e_in, g1, g2, Option.bind_some]
  rw [nI_toInt (show X < 2 ^ 31 by omega), nI_toInt (show Y < 2 ^ 31 by omega), nI_toInt (show W < 2 ^ 31 by omega), nI_toInt (show V < 2 ^ 31 by omega)]
  cases (decide ((X : Int) ≤ (x : Int)) && decide ((x : Int) < (X : Int) + (W : Int))) <;> cases (decide ((Y : Int) ≤ (y : Int)) && decide ((y : Int) < (Y : Int) + (V : Int))) <;> rfl
theorem TP_in (hW : WFr S) {x y : Int} : ∀ {d up p : Nat} {l : List Nat}, TP (S.2 4) (S.2 5) (S.2 6) (S.2 7) (S.2 8) d up p l → ∀ q, q ∈ l → inR S q x y → inR S p x y := by
  intro d
  induction d with
  | zero => intro up p l h; cases h
  | succ d ih =>
    intro up p l h q hq hi
    obtain ⟨h1, h2, h3, h4, h5⟩ := h
    rcases h5 with ⟨h5, h6⟩ | ⟨h5, f, s, ll, lr, h6, h7, h8, h9, h10⟩
    · subst h6
      rw [List.mem_singleton] at hq
      rw [← hq]; exact hi
    · subst h8
      obtain ⟨w1, w2, w3⟩ := hW.2.2.2 p h2 h3 h5 x y
      rw [h6, ixn (by have := h9.here.2.1; omega)] at w1
      rw [h7, ixn (by have := h10.here.2.1; omega)] at w2
      rcases List.mem_cons.mp hq with e | e
      · rw [← e]; exact hi
      · rcases List.mem_append.mp e with e | e
        · exact w1 (ih h9 q e hi)
        · exact w2 (ih h10 q e hi)
def bsg (S : MS) (q : Nat) : Int32 := if S.2 9 q &&& 2 = 0 then 124 else 45
theorem m3_m2 : ∀ k, k < 16 → ((2 : Int32) ≤ nI k &&& 3 ↔ ¬ nI k &&& 2 = 0) := by decide
theorem walk {j : Nat} {ly : Nat → Bool} (H : Hrep h A ρ (cT L a (S.2 5)) K) (R : RK9 K S a ly) (W : WF S a j) (hx : x < 1000) (hy : y < 1000) : ∀ (d : Nat) {up p i n : Nat} {l : List Nat}, TP (S.2 4) (S.2 5) (S.2 6) (S.2 7) (S.2 8) d up p l → i + d ≤ 60 → d < n → inR S p x y → ∃ q, q ∈ l ∧ f_Tree_paneAt_B8 (A 1 0) n h (nI x) (nI y) (some (A 7 p)) (nI i) = some (some (A 7 q), h) ∧ ((¬ S.2 5 q = 4 ∧ inR S q x y ∧ ∀ q', q' ∈ l → ¬ S.2 5 q' = 4 → inR S q' x y → q' = q) ∨ (S.2 5 q = 4 ∧ (∀ q', q' ∈ l → ¬ S.2 5 q' = 4 → ¬ inR S q' x y) ∧ ∀ sg m, d + 1 < m → f_M_drawn_B92 m S (nI x) (nI y) sg (nI p) = some (bsg S q, S))) := by
  have hWr := W.2.2.2.2.2.2.2.1
  intro d
  induction d with
  | zero => intro up p i n l hT; cases hT
  | succ d ih =>
    intro up p i n l hT hi hn hin
    obtain ⟨h1, h2, h3, h4, h5⟩ := hT
    have hp : pnN a p = true := pnN_of h1 (W.1.2.2.2.2.1 p h2 h3)
    obtain ⟨n1, n2, n3, n4, n5⟩ := no_inst H W.1 hp
    have l60 : ¬ (60 : Int32) ≤ nI i := nI_ge (a := i) (b := 60) (by omega) (by decide)
    cases n with
    | zero => omega
    | succ n =>
    rcases h5 with ⟨h5, h6⟩ | ⟨h5, f, s, ll, lr, h6, h7, h8, h9, h10⟩
    · subst h6
      refine ⟨p, List.mem_singleton.mpr rfl, ?_, Or.inl ⟨h5, hin, fun q' hq' _ _ => List.mem_singleton.mp hq'⟩⟩
      rw [f_Tree_paneAt_B8, if_neg l60, n4, Option.bind_some, decide_eq_false h5]
      rfl
    · subst h8
      have iP := ixn (show p < 2 ^ 31 by omega)
      have bP : inB (nI p) 61 = true := inn (by omega) (by decide)
      have n4' : gInst h (some (A 7 p)) "GlkPanes$Pair" = some 1 := by rw [n4, h5]; rfl
      have n6 := cas_of n4'
      have tg : gtag h (A 7 p) = some (3, 16) := by rw [H.tag (cT7 hp), h5]; rfl
      have g1 : gtin (some (3, 16)) [3] = true := rfl
      obtain ⟨q3, q4, q5⟩ := (R.2.2.2.2.2.2.2.2 p hp h3).2 h5
      have hf1 := h9.here
      have hs1 := h10.here
      have pf : pnN a f = true := pnN_of hf1.1 (W.1.2.2.2.2.1 f hf1.2.1 hf1.2.2.1)
      have ps : pnN a s = true := pnN_of hs1.1 (W.1.2.2.2.2.1 s hs1.2.1 hs1.2.2.1)
      have r14 : gref h (A 7 p) 14 = some (A 7 f) := by rw [H.ref (cT7 hp), q4, h6, aM_nz hf1.1 hf1.2.1]
      have r15 : gref h (A 7 p) 15 = some (A 7 s) := by rw [H.ref (cT7 hp), q5, h7, aM_nz hs1.1 hs1.2.1]
      have i1 := e_isIn H R.2.2.1 hWr pf hf1.2.1 hx hy n
      have i2 := e_isIn H R.2.2.1 hWr ps hs1.2.1 hx hy n
      have bf : inB (nI f) 61 = true := inn (by have := hf1.2.1; omega) (by decide)
      have bs : inB (nI s) 61 = true := inn (by have := hs1.2.1; omega) (by decide)
      have xf := ixn (show f < 2 ^ 31 by have := hf1.2.1; omega)
      have xs := ixn (show s < 2 ^ 31 by have := hs1.2.1; omega)
      obtain ⟨w1, w2, w3⟩ := hWr.2.2.2 p h2 h3 h5 x y
      rw [h6, xf] at w1 w3
      rw [h7, xs] at w2 w3
      obtain ⟨mm, m1, m2⟩ := bd_n (W.2.2.2.2.2.1 p h2 h3 h5).1
      have mb := m3_m2 mm (by omega)
      have np0 : ¬ nI p ≤ 0 := nI_ge (a := 0) (b := p) (by omega) (by omega)
      have z00 : (0 : Int32) ≤ 0 := by decide
      by_cases c1 : inR S f x y
      · have c1b := inRb_iff.mpr c1
        obtain ⟨q, u1, u2, u3⟩ := ih (i := i + 1) (n := n) h9 (by omega) (by omega) c1
        refine ⟨q, List.mem_cons_of_mem _ (List.mem_append_left _ u1), ?_, ?_⟩
        · rw [f_Tree_paneAt_B8, if_neg l60]
          simp only [n4', Option.bind_some, show ¬ (1 : Int32) = 0 from by decide, if_false, reduceIte, n6, cond_true, tg, g1, r14, i1, c1b, b32_t, nI_1, u2]
        · rcases u3 with ⟨v1, v2, v3⟩ | ⟨v1, v2, v3⟩
          · refine Or.inl ⟨v1, v2, fun q' hq' k' i' => ?_⟩
            rcases List.mem_cons.mp hq' with e | e
            · subst e; exact absurd h5 k'
            · rcases List.mem_append.mp e with e | e
              · exact v3 q' e k' i'
              · exact absurd ⟨c1, TP_in hWr h10 q' e i'⟩ w3
          · refine Or.inr ⟨v1, fun q' hq' k' i' => ?_, fun sg m hm => ?_⟩
            · rcases List.mem_cons.mp hq' with e | e
              · subst e; exact absurd h5 k'
              · rcases List.mem_append.mp e with e | e
                · exact v2 q' e k' i'
                · exact absurd ⟨c1, TP_in hWr h10 q' e i'⟩ w3
            · cases m with
              | zero => omega
              | succ m =>
                have kf : S.2 5 f = 4 := Classical.byContradiction fun k' => v2 f hf1.2.2.2.2 k' c1
                have mh := e_Mhas hWr hf1.2.1 hx hy m
                rw [f_M_drawn_B92, if_neg np0]
                simp only [bP, cond_true, iP, h6, bf, xf, kf, if_true, reduceIte, mh, c1b, b32_t, Option.bind_some, show ¬ (1 : Int32) = 0 from by decide, if_false]
                split
                · exact v3 45 m (by omega)
                · exact v3 124 m (by omega)
      · have c1b : inRb S f x y = false := by
          cases e : inRb S f x y with
          | false => rfl
          | true => exact absurd (inRb_iff.mp e) c1
        by_cases c2 : inR S s x y
        · have c2b := inRb_iff.mpr c2
          obtain ⟨q, u1, u2, u3⟩ := ih (i := i + 1) (n := n) h10 (by omega) (by omega) c2
          refine ⟨q, List.mem_cons_of_mem _ (List.mem_append_right _ u1), ?_, ?_⟩
          · rw [f_Tree_paneAt_B8, if_neg l60]
            simp only [n4', Option.bind_some, show ¬ (1 : Int32) = 0 from by decide, if_false, if_true, reduceIte, n6, cond_true, tg, g1, r14, r15, i1, i2, c1b, c2b, b32_t, b32_f, nI_1, u2]
          · rcases u3 with ⟨v1, v2, v3⟩ | ⟨v1, v2, v3⟩
            · refine Or.inl ⟨v1, v2, fun q' hq' k' i' => ?_⟩
              rcases List.mem_cons.mp hq' with e | e
              · subst e; exact absurd h5 k'
              · rcases List.mem_append.mp e with e | e
                · exact absurd (TP_in hWr h9 q' e i') c1
                · exact v3 q' e k' i'
            · refine Or.inr ⟨v1, fun q' hq' k' i' => ?_, fun sg m hm => ?_⟩
              · rcases List.mem_cons.mp hq' with e | e
                · subst e; exact absurd h5 k'
                · rcases List.mem_append.mp e with e | e
                  · exact absurd (TP_in hWr h9 q' e i') c1
                  · exact v2 q' e k' i'
              · cases m with
                | zero => omega
                | succ m =>
                  have ks : S.2 5 s = 4 := Classical.byContradiction fun k' => v2 s hs1.2.2.2.2 k' c2
                  have mh := e_Mhas hWr hf1.2.1 hx hy m
                  have mh2 := e_Mhas hWr hs1.2.1 hx hy m
                  rw [f_M_drawn_B92, if_neg np0]
                  by_cases kf : S.2 5 f = 4
                  · simp only [bP, cond_true, iP, h6, h7, bf, bs, xf, xs, kf, ks, if_true, reduceIte, mh, mh2, c1b, c2b, b32_t, b32_f, Option.bind_some, show ¬ (1 : Int32) = 0 from by decide, if_false]
                    split
                    · exact v3 45 m (by omega)
                    · exact v3 124 m (by omega)
                  · simp only [bP, cond_true, iP, h6, h7, bf, bs, xf, xs, kf, ks, if_true, reduceIte, mh2, c2b, b32_t, Option.bind_some, show ¬ (1 : Int32) = 0 from by decide, if_false]
                    split
                    · exact v3 45 m (by omega)
                    · exact v3 124 m (by omega)
        · have c2b : inRb S s x y = false := by
            cases e : inRb S s x y with
            | false => rfl
            | true => exact absurd (inRb_iff.mp e) c2
          refine ⟨p, List.mem_cons_self, ?_, Or.inr ⟨h5, fun q' hq' k' i' => ?_, fun sg m hm => ?_⟩⟩
          · rw [f_Tree_paneAt_B8, if_neg l60]
            simp only [n4', Option.bind_some, show ¬ (1 : Int32) = 0 from by decide, if_false, if_true, reduceIte, n6, cond_true, tg, g1, r14, r15, i1, i2, c1b, c2b, b32_f]
          · rcases List.mem_cons.mp hq' with e | e
            · subst e; exact absurd h5 k'
            · rcases List.mem_append.mp e with e | e
              · exact c1 (TP_in hWr h9 q' e i')
              · exact c2 (TP_in hWr h10 q' e i')
          · cases m with
            | zero => omega
            | succ m =>
            cases m with
            | zero => omega
            | succ m =>
              have mh := e_Mhas hWr hf1.2.1 hx hy (m + 1)
              have mh2 := e_Mhas hWr hs1.2.1 hx hy (m + 1)
              have en : ∀ sg, f_M_drawn_B92 (m + 1) S (nI x) (nI y) sg 0 = some (sg, S) := fun sg => by rw [f_M_drawn_B92, if_pos z00]
              rw [f_M_drawn_B92, if_neg np0]
              unfold bsg
              rw [iP, m2]
              by_cases kf : S.2 5 f = 4 <;> by_cases ks : S.2 5 s = 4
              all_goals
                simp only [bP, cond_true, h6, h7, bf, bs, xf, xs, kf, ks, if_true, reduceIte, mh, mh2, c1b, c2b, b32_f, Option.bind_some, if_false, en]
                by_cases c3 : nI mm &&& 2 = 0
                · rw [if_neg (fun q => mb.mp q c3), if_pos c3]
                · rw [if_pos (mb.mpr c3), if_neg c3]
/-- the reference goes through all panes -/
theorem scan_no {x1 x2 : Nat} (hW : WFr S) (ha : a ≤ 60) (s2 : S.1 2 = nI a) (hx : x1 < 1000) (hy : x2 < 1000) : ∀ (d n i : Nat) (cur : Int32), i + d = a + 1 → d < n → (∀ p, i ≤ p → p ≤ a → ¬ S.2 4 p = 0 → ¬ S.2 5 p = 4 → ¬ inR S p x1 x2) → f_M_paneAt_B6 n S (nI x1) (nI x2) cur (nI i) = some (cur, S) := by
  intro d
  induction d with
  | zero =>
    intro n i cur h1 h2 h3
    cases n with
    | zero => omega
    | succ n => rw [f_M_paneAt_B6, s2, if_pos (nI_lt (by omega) (by omega))]
  | succ d ih =>
    intro n i cur h1 h2 h3
    cases n with
    | zero => omega
    | succ n =>
      rw [f_M_paneAt_B6, s2, if_neg (nI_nlt (by omega) (by omega)), inn (show i < 61 by omega) (by decide), ixn (show i < 2 ^ 31 by omega), cond_true, cond_true, nI_1, e_Mhas hW (by omega) hx hy, Option.bind_some, ih n (i + 1) cur (by omega) (by omega) (fun p h4 h5 => h3 p (by omega) h5)]
      by_cases c1 : S.2 4 i = 0
      · rw [if_pos c1]
      · rw [if_neg c1]
        by_cases c2 : S.2 5 i = 4
        · rw [if_pos c2]
        · rw [if_neg c2]
          have c3 : inRb S i x1 x2 = false := by
            cases e : inRb S i x1 x2 with
            | false => rfl
            | true => exact absurd (inRb_iff.mp e) (h3 i (by omega) (by omega) c1 c2)
          rw [c3, if_pos (show b32 false = 0 from rfl)]
theorem scan_one {x1 x2 q : Nat} (hW : WFr S) (ha : a ≤ 60) (s2 : S.1 2 = nI a) (hx : x1 < 1000) (hy : x2 < 1000) (o1 : ¬ S.2 4 q = 0) (o2 : ¬ S.2 5 q = 4) (o3 : inR S q x1 x2) (hqa : q ≤ a) (ho : ∀ p, p ≤ a → ¬ S.2 4 p = 0 → ¬ S.2 5 p = 4 → inR S p x1 x2 → p = q) : ∀ (d n i : Nat) (cur : Int32), i + d = a + 1 → d < n → i ≤ q → f_M_paneAt_B6 n S (nI x1) (nI x2) cur (nI i) = some (nI q, S) := by
  intro d
  induction d with
  | zero => intro n i cur h1 h2 h3; omega
  | succ d ih =>
    intro n i cur h1 h2 h3
    cases n with
    | zero => omega
    | succ n =>
      rw [f_M_paneAt_B6, s2, if_neg (nI_nlt (by omega) (by omega)), inn (show i < 61 by omega) (by decide), ixn (show i < 2 ^ 31 by omega), cond_true, cond_true, nI_1, e_Mhas hW (by omega) hx hy, Option.bind_some]
      by_cases e : i = q
      · subst e
        rw [if_neg o1, if_neg o2, inRb_iff.mpr o3, if_neg (show ¬ b32 true = 0 by decide)]
        exact scan_no hW ha s2 hx hy d n (i + 1) (nI i) (by omega) (by omega) (fun p h4 h5 k1 k2 k3 => by have := ho p h5 k1 k2 k3; omega)
      · rw [ih n (i + 1) cur (by omega) (by omega) (by omega)]
        by_cases c1 : S.2 4 i = 0
        · rw [if_pos c1]
        · rw [if_neg c1]
          by_cases c2 : S.2 5 i = 4
          · rw [if_pos c2]
          · rw [if_neg c2]
            have c3 : inRb S i x1 x2 = false := by
              cases e' : inRb S i x1 x2 with
              | false => rfl
              | true => exact absurd (ho i (by omega) c1 c2 (inRb_iff.mp e')) e
            rw [c3, if_pos (show b32 false = 0 from rfl)]
/-- the pane at a place of the screen, for both -/
theorem pane_both {e j : Nat} {ly : Nat → Bool} (H : Cpl h A ρ L K S a e ly j) (hx : (x : Int) < (S.1 0).toInt) (hy : (y : Int) < (S.1 1).toInt) (hn : 100 ≤ n) : (S.1 3 = 0 ∧ f_Tree_paneAt n h (A 1 0) (nI x) (nI y) = some (none, h) ∧ f_M_paneAt n S (nI x) (nI y) = some (-2, S)) ∨ (∃ q, pnN a q = true ∧ ¬ S.2 4 q = 0 ∧ ¬ S.2 5 q = 4 ∧ inR S q x y ∧ f_Tree_paneAt n h (A 1 0) (nI x) (nI y) = some (some (A 7 q), h) ∧ f_M_paneAt n S (nI x) (nI y) = some (nI q, S)) ∨ (∃ q, pnN a q = true ∧ ¬ S.2 4 q = 0 ∧ S.2 5 q = 4 ∧ f_Tree_paneAt n h (A 1 0) (nI x) (nI y) = some (some (A 7 q), h) ∧ f_M_paneAt n S (nI x) (nI y) = some (-2, S) ∧ f_M_drawn_B92 n S (nI x) (nI y) 32 (S.1 3) = some (bsg S q, S)) := by
  obtain ⟨H1, H2, H3, H4, H5⟩ := H
  obtain ⟨f1, f2, f3, f4, f5⟩ := top_facts H1 H3.1
  have hWr := H4.2.2.2.2.2.2.2.1
  have b1 := hWr.1
  have r2 : gref h (A 1 0) 2 = aM A (nz (S.1 3)) := by rw [H1.ref (c := 1) (p := 0) (t := (7, 5)) rfl, H3.2.1.2.2.2.1]
  have hU : f_Tree_paneAt n h (A 1 0) (nI x) (nI y) = f_Tree_paneAt_B8 (A 1 0) n h (nI x) (nI y) (aM A (nz (S.1 3))) (nI 0) := by
    unfold f_Tree_paneAt
    rw [f4, g77', cond_true, r2]
    rfl
  have hV : f_M_paneAt n S (nI x) (nI y) = f_M_paneAt_B6 n S (nI x) (nI y) (-2) (nI 1) := rfl
  rw [hU, hV]
  rcases H4.2.2.2.2.2.2.1 with ⟨t1, t2⟩ | ⟨d, r, l, t1, t2, t3, t4, t5⟩
  · refine Or.inl ⟨t1, ?_, ?_⟩
    · rw [t1]
      show f_Tree_paneAt_B8 (A 1 0) n h (nI x) (nI y) none (nI 0) = _
      cases n with
      | zero => omega
      | succ n => rfl
    · exact scan_no hWr H4.1.1 H4.1.2.1 (by omega) (by omega) a n 1 (-2) (by omega) (by have := H4.1.1; omega) (fun p k1 k2 k3 => absurd (t2 p (by have := H4.1.1; omega)) k3)
  · refine Or.inr ?_
    have t6 := (t2.lv).1.mono t4
    have hr := t2.here
    have ha := H4.1.1
    have z3 : ¬ S.1 3 = 0 := by rw [t1, nI_z hr.2.1]; omega
    obtain ⟨v1, v2, v3, v4⟩ := hWr.2.2.1 z3
    rw [t1, ixn (show r < 2 ^ 31 by have := hr.2.1; omega)] at v1 v2 v3 v4
    have hin : inR S r x y := by
      unfold inR
      rw [v1, v2, v3, v4, show (0 : Int32).toInt = 0 by decide]
      omega
    obtain ⟨q, u1, u2, u3⟩ := walk (x := x) (y := y) H1 H3.nine H4 (by omega) (by omega) 12 (i := 0) (n := n) t6 (by omega) (by omega) hin
    obtain ⟨m1, m2, m3⟩ := t2.mem u1
    have hq : pnN a q = true := pnN_of m1 (H4.1.2.2.2.2.1 q m2 m3)
    rw [t1, aM_nz hr.1 hr.2.1, u2]
    rcases u3 with ⟨w1, w2, w3⟩ | ⟨w1, w2, w3⟩
    · refine Or.inl ⟨q, hq, m3, w1, w2, rfl, ?_⟩
      exact scan_one hWr H4.1.1 H4.1.2.1 (by omega) (by omega) m3 w1 w2 (pnN_le hq).2 (fun p k1 k2 k3 k4 => w3 p ((t5 p (by omega)).mp k2) k3 k4) a n 1 (-2) (by omega) (by omega) m1
    · refine Or.inr ⟨q, hq, m3, w1, rfl, ?_, w3 32 n (by omega)⟩
      exact scan_no hWr H4.1.1 H4.1.2.1 (by omega) (by omega) a n 1 (-2) (by omega) (by omega) (fun p k1 k2 k3 k4 => w2 p ((t5 p (by omega)).mp k3) k4)
/-- a place of the screen, for both -/
theorem place_both {e j : Nat} {ly : Nat → Bool} (H : Cpl h A ρ L K S a e ly j) (z1 z2 : Int32) (n : Nat) : (f_Tree_hasPlace n h (A 1 0) z1 z2 = some (0, h) ∧ f_M_isScreen n S z1 z2 = some (0, S)) ∨ (∃ x y : Nat, z1 = nI x ∧ z2 = nI y ∧ (x : Int) < (S.1 0).toInt ∧ (y : Int) < (S.1 1).toInt ∧ f_Tree_hasPlace n h (A 1 0) z1 z2 = some (1, h) ∧ f_M_isScreen n S z1 z2 = some (1, S)) := by
  obtain ⟨H1, H2, H3, H4, H5⟩ := H
  obtain ⟨f1, f2, f3, f4, f5⟩ := top_facts H1 H3.1
  have b1 := H4.2.2.2.2.2.2.2.1.1
  obtain ⟨w, w1, w2⟩ := bd_n (show bd (S.1 0) 60 from ⟨by omega, by omega⟩)
  obtain ⟨v, v1, v2⟩ := bd_n (show bd (S.1 1) 24 from ⟨by omega, by omega⟩)
  have i3 : gint h (A 1 0) 3 = nI w := by rw [H1.int (c := 1) (p := 0) (t := (7, 5)) rfl, H3.2.1.2.1, w2]
  have i4 : gint h (A 1 0) 4 = nI v := by rw [H1.int (c := 1) (p := 0) (t := (7, 5)) rfl, H3.2.1.2.2.1, v2]
  have r1 := rg_w (z := z1) (show w < 2 ^ 31 by omega)
  have r2 := rg_w (z := z2) (show v < 2 ^ 31 by omega)
  have z0 : (0 : Int32).toInt = 0 := by decide
  have hM : f_M_isScreen n S z1 z2 = some (b32 (decide (0 ≤ z1.toInt ∧ z1.toInt < (w : Int)) && decide (0 ≤ z2.toInt ∧ z2.toInt < (v : Int))), S) := by
    unfold f_M_isScreen
    rw [w2, e_in, Option.bind_some, r1]
    simp only [v2, e_in, Option.bind_some, r2]
    cases decide (0 ≤ z1.toInt ∧ z1.toInt < (w : Int)) <;> cases decide (0 ≤ z2.toInt ∧ z2.toInt < (v : Int)) <;> rfl
  have hG : f_Tree_hasPlace n h (A 1 0) z1 z2 = some (b32 (decide (0 ≤ z1.toInt ∧ z1.toInt < (w : Int)) && decide (0 ≤ z2.toInt ∧ z2.toInt < (v : Int))), h) := by
    unfold f_Tree_hasPlace
    simp only [f4, g77', cond_true, i3, i4, i32_lt, i32_le, nI_toInt (show w < 2 ^ 31 by omega), nI_toInt (show v < 2 ^ 31 by omega), z0]
    by_cases c1 : z1.toInt < 0
    · rw [if_pos c1, decide_eq_false (by omega)]; rfl
    · rw [if_neg c1]
      by_cases c2 : (w : Int) ≤ z1.toInt
      · rw [if_pos c2, decide_eq_false (by omega)]; rfl
      · rw [if_neg c2, decide_eq_true (show 0 ≤ z1.toInt ∧ z1.toInt < (w : Int) by omega), Bool.true_and]
        by_cases c3 : z2.toInt < 0
        · rw [if_pos c3, decide_eq_false (by omega)]; rfl
        · rw [if_neg c3]
          by_cases c4 : (v : Int) ≤ z2.toInt
          · rw [if_pos c4, decide_eq_false (by omega)]; rfl
          · rw [if_neg c4, decide_eq_true (by omega)]; rfl
  rw [hM, hG, w2, v2]
  by_cases c : (decide (0 ≤ z1.toInt ∧ z1.toInt < (w : Int)) && decide (0 ≤ z2.toInt ∧ z2.toInt < (v : Int))) = true
  · rw [c]
    rw [Bool.and_eq_true] at c
    obtain ⟨x, hx, e1⟩ := inW_n c.1
    obtain ⟨y, hy, e2⟩ := inW_n c.2
    exact Or.inr ⟨x, y, e1, e2, by rw [nI_toInt (by omega)]; omega, by rw [nI_toInt (by omega)]; omega, rfl, rfl⟩
  · rw [Bool.not_eq_true] at c
    rw [c]
    exact Or.inl ⟨rfl, rfl⟩
end PAT
