/-! ===== counts ===== -/
def cO (f : Nat → Bool) : Nat → Nat → Nat
  | _, 0 => 0
  | lo, k + 1 => (bif f lo then 1 else 0) + cO f (lo + 1) k
theorem cO_add (f : Nat → Bool) : ∀ (k lo m : Nat), cO f lo (k + m) = cO f lo k + cO f (lo + k) m := by
  intro k
  induction k with
  | zero => intro lo m; rw [Nat.zero_add]; show _ = 0 + cO f lo m; omega
  | succ k ih =>
    intro lo m
    rw [show k + 1 + m = (k + m) + 1 by omega]
    show (bif f lo then 1 else 0) + cO f (lo + 1) (k + m) = (bif f lo then 1 else 0) + cO f (lo + 1) k + cO f (lo + (k + 1)) m
    rw [ih, show lo + 1 + k = lo + (k + 1) by omega, Nat.add_assoc]
theorem cO_zero (f : Nat → Bool) : ∀ (k lo : Nat), (∀ p, lo ≤ p → p < lo + k → f p = false) → cO f lo k = 0 := by
  intro k
  induction k with
  | zero => intro lo _; rfl
  | succ k ih =>
    intro lo h
    show (bif f lo then 1 else 0) + cO f (lo + 1) k = 0
    rw [h lo (by omega) (by omega), ih (lo + 1) (fun p h1 h2 => h p (by omega) (by omega))]
    rfl
theorem cO_congr {f g : Nat → Bool} : ∀ (k lo : Nat), (∀ p, lo ≤ p → p < lo + k → f p = g p) → cO f lo k = cO g lo k := by
  intro k
  induction k with
  | zero => intro lo _; rfl
  | succ k ih =>
    intro lo h
    show (bif f lo then 1 else 0) + cO f (lo + 1) k = (bif g lo then 1 else 0) + cO g (lo + 1) k
    rw [h lo (by omega) (by omega), ih (lo + 1) (fun p h1 h2 => h p (by omega) (by omega))]
def opN (S : MS) (p : Nat) : Bool := !decide (S.2 4 p = 0)
def lfN (S : MS) (p : Nat) : Bool := !decide (S.2 4 p = 0) && !decide (S.2 5 p = 4)
theorem e_leavesB {S : MS} {a : Nat} (ha : a ≤ 60) (s2 : S.1 2 = nI a) : ∀ (d n c i : Nat), i + d = a + 1 → d < n → f_M_leaves_B4 n S (nI c) (nI i) = some (nI (c + cO (lfN S) i d), S) := by
  intro d
  induction d with
  | zero =>
    intro n c i h1 h2
    cases n with
    | zero => omega
    | succ n => rw [f_M_leaves_B4, s2, if_pos (nI_lt (by omega) (by omega))]; rfl
  | succ d ih =>
    intro n c i h1 h2
    cases n with
    | zero => omega
    | succ n =>
      rw [f_M_leaves_B4, s2, if_neg (nI_nlt (by omega) (by omega)), inn (show i < 61 by omega) (by decide), ixn (show i < 2 ^ 31 by omega), cond_true]
      by_cases c1 : S.2 4 i = 0
      · rw [if_pos c1, nI_1, show nI c + 0 = nI (c + 0) from nI_add c 0, ih n (c + 0) (i + 1) (by omega) (by omega)]
        simp [cO, lfN, c1]
      · rw [if_neg c1, cond_true]
        by_cases c2 : S.2 5 i = 4
        · rw [if_pos c2, nI_1, show nI c + 0 = nI (c + 0) from nI_add c 0, ih n (c + 0) (i + 1) (by omega) (by omega)]
          simp [cO, lfN, c2]
        · rw [if_neg c2, nI_1, nI_1, ih n (c + 1) (i + 1) (by omega) (by omega)]
          simp [cO, lfN, c1, c2, Nat.add_assoc]
theorem e_leaves {S : MS} {a n : Nat} (ha : a ≤ 60) (s2 : S.1 2 = nI a) (hn : 100 ≤ n) : f_M_leaves n S = some (nI (cO (lfN S) 1 a), S) := by
  have := e_leavesB ha s2 a n 0 1 (by omega) (by omega)
  rw [Nat.zero_add] at this
  exact this
theorem e_countB {S : MS} {a : Nat} (ha : a ≤ 60) (s2 : S.1 2 = nI a) (z : Int32) : ∀ (d n c i : Nat), i + d = a + 1 → d + 200 < n → f_M_count_B4 n S z (nI c) (nI i) = some (if z = 0 then S.1 0 else if z = 1 then S.1 1 else if z = 2 then nI (c + cO (opN S) i d) else if z = 3 then nI (cO (lfN S) 1 a) else if z = 4 then S.1 2 else if z = 5 then S.1 41 else -1, S) := by
  intro d
  induction d with
  | zero =>
    intro n c i h1 h2
    cases n with
    | zero => omega
    | succ n =>
      rw [f_M_count_B4, if_pos (show S.1 2 < nI i by rw [s2]; exact nI_lt (by omega) (by omega)), e_leaves ha s2 (by omega)]
      simp only [Option.bind_some, cO, Nat.add_zero]
      split
      · rfl
      · split
        · rfl
        · split
          · rfl
          · split
            · rfl
            · split
              · rfl
              · split <;> rfl
  | succ d ih =>
    intro n c i h1 h2
    cases n with
    | zero => omega
    | succ n =>
      rw [f_M_count_B4, if_neg (show ¬ S.1 2 < nI i by rw [s2]; exact nI_nlt (by omega) (by omega)), inn (show i < 61 by omega) (by decide), ixn (show i < 2 ^ 31 by omega), cond_true]
      by_cases c1 : S.2 4 i = 0
      · rw [if_pos c1, nI_1, show nI c + 0 = nI (c + 0) from nI_add c 0, ih n (c + 0) (i + 1) (by omega) (by omega)]
        simp [cO, opN, c1]
      · rw [if_neg c1, nI_1, nI_1, ih n (c + 1) (i + 1) (by omega) (by omega)]
        simp [cO, opN, c1, Nat.add_assoc]
section CO
variable {h : gHp} {A : Nat → Nat → Nat} {ρ : Nat → Nat × Nat} {L a : Nat} {K : KS} {S : MS}
theorem gA22' {i : Nat} (hi : i < 61) : (gArr (some (22, 61)) 22 (nI i) || gArr (some (22, 61)) 23 (nI i)) = true := by
  rw [gArr_n hi (by decide)]; rfl
theorem e_openB (H : Hrep h A ρ (cT L a (S.2 5)) K) (hT : RKt K S) (hP : RKp K S a) (hW : WFa S a) (x : Int32) : ∀ (d n c i : Nat), i + d = 61 → d < n → f_Tree_countOpen_B14 (A 1 0) n h x (nI c) (some (A 3 0)) (nI 61) (nI i) = some (nI (c + cO (fun p => opN S p && (!decide (x = 0) || !decide (S.2 5 p = 4))) i d), h) := by
  have t3 : gtag h (A 3 0) = some (22, 61) := H.tag (c := 3) (p := 0) rfl
  intro d
  induction d with
  | zero =>
    intro n c i h1 h2
    cases n with
    | zero => omega
    | succ n => rw [f_Tree_countOpen_B14, if_pos (nI_le (by omega) (by omega))]; rfl
  | succ d ih =>
    intro n c i h1 h2
    cases n with
    | zero => omega
    | succ n =>
      have hr : gref h (A 3 0) i = if S.2 4 i = 0 then none else some (A 7 i) := by
        rw [H.ref (c := 3) (p := 0) (t := (22, 61)) rfl, hT.2.2.2.2 i (by omega)]
        split <;> rfl
      rw [f_Tree_countOpen_B14, if_neg (nI_ge (by omega) (by omega))]
      simp only [Option.bind_some, t3, gA22' (show i < 61 by omega), cond_true, ixn (show i < 2 ^ 31 by omega), hr, nI_1]
      by_cases c1 : S.2 4 i = 0
      · simp only [c1, if_true, reduceIte]
        rw [ih n c (i + 1) (by omega) (by omega)]
        simp [cO, opN, c1]
      · have hp : pnN a i = true := by
          refine pnN_of ?_ (hW.2.2.2.2.1 i (by omega) c1)
          rcases Nat.eq_zero_or_pos i with e | e
          · subst e; exact absurd hW.2.2.1 c1
          · exact e
        have tg := H.tag (cT7 hp)
        have k1 := (pane_ints H hP hp).2.1
        simp only [c1, if_false, reduceIte, reduceCtorEq, Option.bind_some, tg, cTag_pane, cond_true, k1]
        by_cases c2 : x = 0
        · simp only [c2, if_true, reduceIte]
          rw [c2] at ih
          by_cases c3 : S.2 5 i = 4
          · rw [if_pos c3, ih n c (i + 1) (by omega) (by omega)]
            simp [cO, opN, c1, c3]
          · rw [if_neg c3, ih n (c + 1) (i + 1) (by omega) (by omega)]
            simp [cO, opN, c1, c3, Nat.add_assoc]
        · simp only [c2, if_false, reduceIte]
          rw [ih n (c + 1) (i + 1) (by omega) (by omega)]
          simp [cO, opN, c1, c2, Nat.add_assoc]
theorem cO_all (hW : WFa S a) {f : Nat → Bool} (h : ∀ p, S.2 4 p = 0 → f p = false) : cO f 0 61 = cO f 1 a := by
  have ha := hW.1
  rw [show (61 : Nat) = 1 + (a + (60 - a)) by omega, cO_add, cO_add, Nat.zero_add]
  have z1 : cO f 0 1 = 0 := cO_zero f 1 0 (fun p h1 h2 => h p (by rw [show p = 0 by omega]; exact hW.2.2.1))
  have z2 : cO f (1 + a) (60 - a) = 0 := cO_zero f _ _ (fun p h1 h2 => h p (Classical.byContradiction fun q => by have := hW.2.2.2.2.1 p (by omega) q; omega))
  omega
theorem e_countOpen (H : Hrep h A ρ (cT L a (S.2 5)) K) (hS : RKs K a (S.2 5)) (hT : RKt K S) (hP : RKp K S a) (hW : WFa S a) {n : Nat} (hn : 100 ≤ n) : f_Tree_countOpen n h (A 1 0) 1 = some (nI (cO (opN S) 1 a), h) ∧ f_Tree_countOpen n h (A 1 0) 0 = some (nI (cO (lfN S) 1 a), h) := by
  have t1 : gtag h (A 1 0) = some (7, 5) := H.tag (c := 1) (p := 0) rfl
  have t3 : gtag h (A 3 0) = some (22, 61) := H.tag (c := 3) (p := 0) rfl
  have r1 : gref h (A 1 0) 0 = some (A 3 0) := by rw [H.ref (c := 1) (p := 0) (t := (7, 5)) rfl, hS.2.2.1]; rfl
  have q1 := e_openB H hT hP hW 1 61 n 0 0 (by omega) (by omega)
  have q0 := e_openB H hT hP hW 0 61 n 0 0 (by omega) (by omega)
  rw [Nat.zero_add, cO_all hW (fun p hp => by simp [opN, hp])] at q1 q0
  refine ⟨?_, ?_⟩
  · unfold f_Tree_countOpen
    simp only [t1, g77', cond_true, r1, Option.bind_some, t3, show (Nat.ble 20 22 && Nat.ble 22 24) = true from rfl]
    rw [cO_congr (f := opN S) (g := fun p => opN S p && (!decide ((1 : Int32) = 0) || !decide (S.2 5 p = 4))) a 1 (fun p _ _ => by simp)]
    exact q1
  · unfold f_Tree_countOpen
    simp only [t1, g77', cond_true, r1, Option.bind_some, t3, show (Nat.ble 20 22 && Nat.ble 22 24) = true from rfl]
    rw [cO_congr (f := lfN S) (g := fun p => opN S p && (!decide ((0 : Int32) = 0) || !decide (S.2 5 p = 4))) a 1 (fun p _ _ => by simp [opN, lfN])]
    exact q0
end CO
theorem p_count {n b L ax am j : Nat} {h : gHp} (hI : Iv b L ax am j h) (hn : 5000 ≤ n) (z1 : Int32) : PO_count n (Iv b L ax am (j + 1)) b L ax am h z1 := by
  obtain ⟨A, ρ, K, S, a, e, ly, rfl, rfl, rfl, H⟩ := hI
  obtain ⟨H1, H2, H3, H4, H5⟩ := id H
  obtain ⟨f1, f2, f3, f4, f5⟩ := top_facts H1 H3.1
  obtain ⟨q1, q2⟩ := e_countOpen H1 H3.1 H3.2.1 H3.2.2.1 H4.1 (n := n) (by omega)
  obtain ⟨r1, r2, r3, r4, r5⟩ := id H3.2.1
  have i1 : gint h (A 1 0) 1 = S.1 2 := by rw [H1.int (c := 1) (p := 0) (t := (7, 5)) rfl, r1]
  have i3 : gint h (A 1 0) 3 = S.1 0 := by rw [H1.int (c := 1) (p := 0) (t := (7, 5)) rfl, r2]
  have i4 : gint h (A 1 0) 4 = S.1 1 := by rw [H1.int (c := 1) (p := 0) (t := (7, 5)) rfl, r3]
  have i41 : gint h (A 2 0) 4 = S.1 41 := by rw [H1.int (c := 2) (p := 0) (t := (0, 5)) rfl, H3.2.2.2.2.2.2.2.2.1.1]
  have hM := e_countB (S := S) H4.1.1 H4.1.2.1 z1 a n 0 1 (by omega) (by have := H4.1.1; omega)
  rw [Nat.zero_add] at hM
  refine PO_sm rfl rfl rfl H ?_ hM
  unfold f_G_count
  simp only [f1, f2, f3, f4, f5, g99, g77, g77', gt0, cond_true, Option.bind_some, q1, q2, i1, i3, i4, i41]
  by_cases c0 : z1 = 0
  · rw [if_pos c0, if_pos c0]
  rw [if_neg c0, if_neg c0]
  by_cases c1 : z1 = 1
  · rw [if_pos c1, if_pos c1]
  rw [if_neg c1, if_neg c1]
  by_cases c2 : z1 = 2
  · rw [if_pos c2, if_pos c2]
  rw [if_neg c2, if_neg c2]
  by_cases c3 : z1 = 3
  · rw [if_pos c3, if_pos c3]
  rw [if_neg c3, if_neg c3]
  by_cases c4 : z1 = 4
  · rw [if_pos c4, if_pos c4]
  rw [if_neg c4, if_neg c4]
  by_cases c5 : z1 = 5
  · rw [if_pos c5, if_pos c5]
  rw [if_neg c5, if_neg c5]
