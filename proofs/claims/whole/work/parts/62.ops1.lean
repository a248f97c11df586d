/-! ===== tools for the calls ===== -/
theorem pnN_of {a p : Nat} (h1 : 1 ≤ p) (h2 : p ≤ a) : pnN a p = true := by
  simp only [pnN, Bool.and_eq_true]
  exact ⟨Nat.ble_eq_true_of_le h1, Nat.ble_eq_true_of_le h2⟩
theorem pnN_le {a p : Nat} (h : pnN a p = true) : 1 ≤ p ∧ p ≤ a := by
  simp only [pnN, Bool.and_eq_true] at h
  exact ⟨Nat.le_of_ble_eq_true h.1, Nat.le_of_ble_eq_true h.2⟩
theorem ixn {a : Nat} (h : a < 2 ^ 31) : ix (nI a) = a := nI_clamp h
theorem inn {a L : Nat} (h : a < L) (hL : L < 2 ^ 31) : inB (nI a) L = true := by
  simp only [inB, Bool.and_eq_true, decide_eq_true_eq, nI_toInt (show a < 2 ^ 31 by omega)]
  omega
theorem ixn' {x : Int32} (h : 0 ≤ x.toInt) : nI (ix x) = x := by
  have h1 := i32_ix h
  have h2 : x.toInt < 2 ^ 31 := Int32.toInt_lt x
  exact Int32.toInt_inj.mp (by rw [nI_toInt (by omega)]; exact h1)
/-- a pane's number that is open -/
theorem opB_nI {S : MS} {p : Int32} {a : Nat} (hW : WFa S a) (h : opB S p = true) : ∃ P, p = nI P ∧ 1 ≤ P ∧ P ≤ 60 ∧ pnN a P = true ∧ ¬ S.2 4 P = 0 := by
  simp only [opB, Bool.and_eq_true, Bool.not_eq_true', decide_eq_false_iff_not] at h
  have h1 := pnB_ix h.1
  have h2 : 0 ≤ p.toInt := by
    have := h.1
    simp only [pnB, Bool.and_eq_true, decide_eq_true_eq] at this
    omega
  exact ⟨ix p, (ixn' h2).symm, h1.1, h1.2, pnN_of h1.1 (hW.2.2.2.2.1 _ h1.2 h.2), h.2⟩
theorem opB_of {S : MS} {P : Nat} (h1 : 1 ≤ P) (h2 : P ≤ 60) (h3 : ¬ S.2 4 P = 0) : opB S (nI P) = true := by
  simp only [opB, pnB, Bool.and_eq_true, decide_eq_true_eq, Bool.not_eq_true', decide_eq_false_iff_not, nI_toInt (show P < 2 ^ 31 by omega), ixn (show P < 2 ^ 31 by omega)]
  exact ⟨by omega, h3⟩
section FD
variable {h : gHp} {A : Nat → Nat → Nat} {ρ : Nat → Nat × Nat} {L a : Nat} {K : KS} {S : MS} {kd : Nat → Int32}
theorem cT7 {p : Nat} (hp : pnN a p = true) : cT L a kd 7 p = some (cTag (kd p)) := by
  show oIf (pnN a p) _ = _
  rw [hp]; rfl
theorem cT8 {p : Nat} (hp : pnN a p = true) (hw : wrK (kd p) = true) : cT L a kd 8 p = some (21, 4) := by
  show oIf (pnN a p && wrK (kd p)) _ = _
  rw [hp, hw]; rfl
theorem cT9 {p : Nat} (hp : pnN a p = true) (hw : wrK (kd p) = true) : cT L a kd 9 p = some (2, 3) := by
  show oIf (pnN a p && wrK (kd p)) _ = _
  rw [hp, hw]; rfl
theorem cT10 {p : Nat} (hp : pnN a p = true) (hw : wrK (kd p) = true) : cT L a kd 10 p = some (20, 40) := by
  show oIf (pnN a p && wrK (kd p)) _ = _
  rw [hp, hw]; rfl
theorem cT11x {p : Nat} (hp : pnN a p = true) (hk : kd p = 1) : cT L a kd 11 p = some (20, 400) := by
  show oIf (pnN a p && wrK (kd p)) (20, if kd p = 1 then 400 else 1440) = _
  rw [hp, hk]; rfl
theorem cT11g {p : Nat} (hp : pnN a p = true) (hk : kd p = 2) : cT L a kd 11 p = some (20, 1440) := by
  show oIf (pnN a p && wrK (kd p)) (20, if kd p = 1 then 400 else 1440) = _
  rw [hp, hk]; rfl
theorem cT12 {p : Nat} (hp : pnN a p = true) (hk : kd p = 1) : cT L a kd 12 p = some (8, 3) := by
  show oIf (pnN a p && decide (kd p = 1)) _ = _
  rw [hp, hk]; rfl
theorem cT13 {p : Nat} (hp : pnN a p = true) (hk : kd p = 1) : cT L a kd 13 p = some (20, 441) := by
  show oIf (pnN a p && decide (kd p = 1)) _ = _
  rw [hp, hk]; rfl
theorem cT14 {p : Nat} (hp : pnN a p = true) (hk : kd p = 1) : cT L a kd 14 p = some (20, 441) := by
  show oIf (pnN a p && decide (kd p = 1)) _ = _
  rw [hp, hk]; rfl
theorem cT6 {p : Nat} (hp : p < 20) : cT L a kd 6 p = some (20, 44) := by
  show oIf (Nat.ble (p + 1) 20) _ = _
  rw [Nat.ble_eq_true_of_le (show p + 1 ≤ 20 by omega)]; rfl
theorem clo_none {T : Nat → Nat → Option (Nat × Nat)} : clo T none := fun q hq => by cases hq
theorem clo_pane {p : Nat} (hp : pnN a p = true) : clo (cT L a kd) (some (7, p)) := fun q hq => by
  cases hq
  exact ⟨_, cT7 hp⟩
theorem clo_nz {v : Int32} (ha : a ≤ 60) (hv : v = 0 ∨ ∃ q, v = nI q ∧ pnN a q = true) : clo (cT L a kd) (nz v) := by
  rcases hv with rfl | ⟨q, rfl, hq⟩
  · exact clo_none
  · unfold nz
    split
    · exact clo_none
    · rw [ixn (by have := (pnN_le hq).2; omega)]
      exact clo_pane hq
/-- a pane is a pane -/
theorem cTag_pane (k : Int32) : gtin (some (cTag k)) [1, 3, 4, 5, 6] = true := by
  unfold cTag
  repeat' split
  all_goals rfl
theorem e_find (H : Hrep h A ρ (cT L a (S.2 5)) K) (hS : RKs K a kd) (hT : RKt K S) (n : Nat) (p : Int32) : f_Tree_find n h (A 1 0) p = some (if opB S p = true then some (A 7 (ix p)) else none, h) := by
  have t1 : gtag h (A 1 0) = some (7, 5) := H.tag (c := 1) (p := 0) rfl
  have t3 : gtag h (A 3 0) = some (22, 61) := H.tag (c := 3) (p := 0) rfl
  have r1 : gref h (A 1 0) 0 = some (A 3 0) := by rw [H.ref (c := 1) (p := 0) (t := (7, 5)) rfl, hS.2.2.1]; rfl
  unfold f_Tree_find
  by_cases c1 : p < 1
  · rw [if_pos c1]
    have h1 := i32_lt.mp c1
    have h2 : pnB p = false := by
      simp only [pnB]
      rw [show decide (1 ≤ p.toInt) = false from decide_eq_false (by have : (1 : Int32).toInt = 1 := by decide
                                                                     omega)]
      rfl
    simp [opB, h2]
  · rw [if_neg c1]
    have h1 : 1 ≤ p.toInt := by
      have h9 : ¬ p.toInt < (1 : Int32).toInt := fun q => c1 (i32_lt.mpr q)
      have : (1 : Int32).toInt = 1 := by decide
      omega
    have e1 : gtin (gtag h (A 1 0)) [7] = true := by rw [t1]; rfl
    rw [e1, r1]
    simp only [cond_true, Option.bind_some]
    rw [t3]
    simp only [Option.bind_some]
    by_cases c2 : Int32.ofNat 61 ≤ p
    · have h3 := i32_le.mp c2
      have h4 : (Int32.ofNat 61).toInt = 61 := by decide
      have h2 : pnB p = false := by
        simp only [pnB]
        rw [show decide (p.toInt ≤ 60) = false from decide_eq_false (by omega)]
        simp
      rw [show (Nat.ble 20 22 && Nat.ble 22 24) = true from rfl, cond_true, if_pos c2]
      simp [opB, h2]
    · have h3 : ¬ (Int32.ofNat 61).toInt ≤ p.toInt := fun q => c2 (i32_le.mpr q)
      have h4 : (Int32.ofNat 61).toInt = 61 := by decide
      have h2 : pnB p = true := by
        simp only [pnB, Bool.and_eq_true, decide_eq_true_eq]
        omega
      have h5 := pnB_in h2
      have h6 := pnB_ix h2
      have h7 : gref h (A 3 0) (ix p) = if S.2 4 (ix p) = 0 then none else some (A 7 (ix p)) := by
        rw [H.ref (c := 3) (p := 0) (t := (22, 61)) rfl, hT.2.2.2.2 (ix p) h6.2]
        split <;> rfl
      simp only [show (Nat.ble 20 22 && Nat.ble 22 24) = true from rfl, cond_true]
      rw [if_neg c2]
      simp only [gArr, show Nat.beq 22 22 = true from rfl, h5, Bool.true_and, Bool.true_or, cond_true, h7]
      by_cases c3 : S.2 4 (ix p) = 0
      · simp [opB, h2, c3]
      · simp [opB, h2, c3]
/-- the object and its tree -/
theorem top_facts (H : Hrep h A ρ (cT L a kd) K) (hS : RKs K a kd) : gtag h (A 0 0) = some (9, 2) ∧ gref h (A 0 0) 0 = some (A 1 0) ∧ gref h (A 0 0) 1 = some (A 2 0) ∧ gtag h (A 1 0) = some (7, 5) ∧ gtag h (A 2 0) = some (0, 5) :=
  ⟨H.tag (c := 0) (p := 0) rfl, by rw [H.ref (c := 0) (p := 0) (t := (9, 2)) rfl, hS.1]; rfl, by rw [H.ref (c := 0) (p := 0) (t := (9, 2)) rfl, hS.2.1]; rfl, H.tag (c := 1) (p := 0) rfl, H.tag (c := 2) (p := 0) rfl⟩
end FD
theorem gtin_k (t n : Nat) (l : List Nat) : gtin (some (t, n)) l = l.any (fun z => Nat.beq t z) := rfl
theorem gtis_k (t n c : Nat) : gtis (some (t, n)) c = Nat.beq t c := rfl
theorem rgB_t {v lo hh : Int32} : rgB v lo hh = true ↔ ¬ v < lo ∧ v ≤ hh := by
  simp only [rgB, Bool.and_eq_true, decide_eq_true_eq, i32_lt, i32_le]
  omega
theorem rgB_bd {v : Int32} {n : Nat} {N : Int32} (hN : N.toInt = n) (h : rgB v 0 N = true) : bd v n := by
  simp only [rgB, Bool.and_eq_true, decide_eq_true_eq] at h
  have : (0 : Int32).toInt = 0 := by decide
  exact ⟨by omega, by omega⟩
theorem WFn.mono {S : MS} {i j : Nat} (hij : i ≤ j) (H : WFn S i) : WFn S j := by
  refine ⟨fun p hp => ?_, H.2⟩
  obtain ⟨h1, h2, h3, h4, h5⟩ := H.1 p hp
  exact ⟨h1, h2, h3, ⟨h4.1, by have := h4.2; omega⟩, h5⟩
theorem WF.mono {S : MS} {a i j : Nat} (hij : i ≤ j) (H : WF S a i) : WF S a j := ⟨H.1, H.2.1.mono hij, H.2.2⟩
theorem KEEP.rfl' (K : KS) : KEEP K K := ⟨rfl, rfl, rfl, rfl⟩
theorem Iv.mono {b L ax am i j : Nat} {h : gHp} (hij : i ≤ j) (H : Iv b L ax am i h) : Iv b L ax am j h := by
  obtain ⟨A, ρ, K, S, a, e, ly, e1, e2, e3, H1, H2, H3, H4, H5⟩ := H
  exact ⟨A, ρ, K, S, a, e, ly, e1, e2, e3, H1, H2, H3, H4.mono hij, H5⟩
/-- a call that changes nothing -/
theorem PO_same {b L ax am j : Nat} {h : gHp} {A : Nat → Nat → Nat} {ρ : Nat → Nat × Nat} {K : KS} {S : MS} {a e : Nat} {ly : Nat → Bool} (e1 : A 17 0 = b) (e2 : A 0 0 = ax) (e3 : A 15 0 = am) (H : Cpl h A ρ L K S a e ly j) : gtag h b = some (24, L) ∧ (∀ i, gint h b i = gint h b i) ∧ MR h h am (A 16) S ∧ ∀ h', MR h h' am (A 16) S → Iv b L ax am (j + 1) h' :=
  PO_use (n := 0) e1 e2 e3 H.1 H.2.1 H.1 (KEEP.rfl' K) rfl H.2.2.1 (H.2.2.2.1.mono (Nat.le_succ j)) H.2.2.2.2
/-! trees -/
section TRE
variable {op kd ab fi se : Nat → Int32}
theorem TP.sub : ∀ {d up r : Nat} {l : List Nat}, TP op kd ab fi se d up r l → ∀ p, p ∈ l → ∃ d' up' l', d' ≤ d ∧ TP op kd ab fi se d' up' p l' ∧ (∀ x, x ∈ l' → x ∈ l) ∧ ((up' ∈ l ∧ kd up' = 4) ∨ (p = r ∧ up' = up)) := by
  intro d
  induction d with
  | zero => intro up r l h; cases h
  | succ d ih =>
    intro up r l h p hp
    have h0 := h
    obtain ⟨h1, h2, h3, h4, h5⟩ := h
    rcases h5 with ⟨h5, h6⟩ | ⟨h5, f, s, ll, lr, h6, h7, h8, h9, h10⟩
    · subst h6
      have e : p = r := List.mem_singleton.mp hp
      subst e
      exact ⟨d + 1, up, [p], Nat.le_refl _, h0, fun x hx => hx, Or.inr ⟨rfl, rfl⟩⟩
    · subst h8
      rcases List.mem_cons.mp hp with e | e
      · subst e
        exact ⟨d + 1, up, _, Nat.le_refl _, h0, fun x hx => hx, Or.inr ⟨rfl, rfl⟩⟩
      · rcases List.mem_append.mp e with e | e
        · obtain ⟨d', up', l', q1, q2, q3, q4⟩ := ih h9 p e
          refine ⟨d', up', l', by omega, q2, fun x hx => List.mem_cons_of_mem _ (List.mem_append_left _ (q3 x hx)), ?_⟩
          rcases q4 with q4 | q4
          · exact Or.inl ⟨List.mem_cons_of_mem _ (List.mem_append_left _ q4.1), q4.2⟩
          · exact Or.inl ⟨by rw [q4.2]; exact List.mem_cons_self, by rw [q4.2]; exact h5⟩
        · obtain ⟨d', up', l', q1, q2, q3, q4⟩ := ih h10 p e
          refine ⟨d', up', l', by omega, q2, fun x hx => List.mem_cons_of_mem _ (List.mem_append_right _ (q3 x hx)), ?_⟩
          rcases q4 with q4 | q4
          · exact Or.inl ⟨List.mem_cons_of_mem _ (List.mem_append_right _ q4.1), q4.2⟩
          · exact Or.inl ⟨by rw [q4.2]; exact List.mem_cons_self, by rw [q4.2]; exact h5⟩
theorem TP.here {d up p : Nat} {l : List Nat} (h : TP op kd ab fi se d up p l) : 1 ≤ p ∧ p ≤ 60 ∧ ¬ op p = 0 ∧ ab p = nI up ∧ p ∈ l := by
  cases d with
  | zero => cases h
  | succ d =>
    obtain ⟨h1, h2, h3, h4, h5⟩ := h
    refine ⟨h1, h2, h3, h4, ?_⟩
    rcases h5 with ⟨h5, h6⟩ | ⟨h5, f, s, ll, lr, h6, h7, h8, h9, h10⟩
    · rw [h6]; exact List.mem_cons_self
    · rw [h8]; exact List.mem_cons_self
theorem TP.mem {d up r : Nat} {l : List Nat} (h : TP op kd ab fi se d up r l) {p : Nat} (hp : p ∈ l) : 1 ≤ p ∧ p ≤ 60 ∧ ¬ op p = 0 := by
  obtain ⟨d', up', l', -, h2, -⟩ := h.sub p hp
  exact ⟨h2.here.1, h2.here.2.1, h2.here.2.2.1⟩
end TRE
def okp (S : MS) (a : Nat) (v : Int32) : Prop := v = 0 ∨ ∃ q, v = nI q ∧ pnN a q = true ∧ ¬ S.2 4 q = 0
theorem root_ok {S : MS} {a : Nat} (ha : WFa S a) (ht : WFt S) : okp S a (S.1 3) := by
  rcases ht with ht | ⟨d, r, l, h1, h2, h3, h4, h5⟩
  · exact Or.inl ht.1
  · exact Or.inr ⟨r, h1, pnN_of h2.here.1 (ha.2.2.2.2.1 _ h2.here.2.1 h2.here.2.2.1), h2.here.2.2.1⟩
theorem above_ok {S : MS} {a p : Nat} (ha : WFa S a) (ht : WFt S) (hp : p ≤ 60) (ho : ¬ S.2 4 p = 0) : S.2 6 p = 0 ∨ ∃ q, S.2 6 p = nI q ∧ pnN a q = true ∧ ¬ S.2 4 q = 0 ∧ S.2 5 q = 4 := by
  rcases ht with ht | ⟨d, r, l, h1, h2, h3, h4, h5⟩
  · exact absurd (ht.2 p hp) ho
  · obtain ⟨d', up', l', q1, q2, q3, q4⟩ := h2.sub p ((h5 p hp).mp ho)
    rcases q4 with q4 | q4
    · obtain ⟨m1, m2, m3⟩ := h2.mem q4.1
      exact Or.inr ⟨up', q2.here.2.2.2.1, pnN_of m1 (ha.2.2.2.2.1 _ m2 m3), m3, q4.2⟩
    · exact Or.inl (by rw [q2.here.2.2.2.1, q4.2]; rfl)
theorem sides_ok {S : MS} {a p : Nat} (ha : WFa S a) (ht : WFt S) (hp : p ≤ 60) (ho : ¬ S.2 4 p = 0) (hk : S.2 5 p = 4) : ∃ f s, S.2 7 p = nI f ∧ S.2 8 p = nI s ∧ pnN a f = true ∧ pnN a s = true ∧ ¬ S.2 4 f = 0 ∧ ¬ S.2 4 s = 0 ∧ f ≤ 60 ∧ s ≤ 60 ∧ S.2 6 f = nI p ∧ S.2 6 s = nI p := by
  rcases ht with ht | ⟨d, r, l, h1, h2, h3, h4, h5⟩
  · exact absurd (ht.2 p hp) ho
  · obtain ⟨d', up', l', q1, q2, q3, q4⟩ := h2.sub p ((h5 p hp).mp ho)
    cases d' with
    | zero => cases q2
    | succ d' =>
      obtain ⟨-, -, -, -, h5'⟩ := q2
      rcases h5' with ⟨h6, -⟩ | ⟨h6, f, s, ll, lr, h7, h8, h9, h10, h11⟩
      · exact absurd hk h6
      · exact ⟨f, s, h7, h8, pnN_of h10.here.1 (ha.2.2.2.2.1 _ h10.here.2.1 h10.here.2.2.1), pnN_of h11.here.1 (ha.2.2.2.2.1 _ h11.here.2.1 h11.here.2.2.1), h10.here.2.2.1, h11.here.2.2.1, h10.here.2.1, h11.here.2.1, h10.here.2.2.2.1, h11.here.2.2.2.1⟩
theorem nI_z {p : Nat} (h : p ≤ 60) : nI p = 0 ↔ p = 0 := nI_eq (a := p) (b := 0) (by omega) (by omega)
theorem aM_nz {A : Nat → Nat → Nat} {q : Nat} (h1 : 1 ≤ q) (h2 : q ≤ 60) : aM A (nz (nI q)) = some (A 7 q) := by
  unfold nz
  rw [if_neg (by rw [nI_z h2]; omega)]
  show some (A 7 (ix (nI q))) = _
  rw [ixn (by omega)]
theorem e_numberOf {h : gHp} {A : Nat → Nat → Nat} {ρ : Nat → Nat × Nat} {L a : Nat} {K : KS} {S : MS} {kd : Nat → Int32} (H : Hrep h A ρ (cT L a kd) K) (hP : RKp K S a) (ha : a ≤ 60) (n : Nat) {v : Int32} (hv : v = 0 ∨ ∃ q, v = nI q ∧ pnN a q = true) (d : Int32) : f_G_numberOf n h (aM A (nz v)) d = some (if v = 0 then d else v, h) := by
  unfold f_G_numberOf
  rcases hv with rfl | ⟨q, rfl, hq⟩
  · rfl
  · obtain ⟨q1, q2⟩ := pnN_le hq
    rw [aM_nz q1 (by omega), if_neg (by simp), if_neg (by rw [nI_z (by omega)]; omega)]
    simp only [Option.bind_some]
    rw [H.tag (cT7 hq), cTag_pane, cond_true, H.int (cT7 hq), (hP q hq).1]
theorem p_root {n b L ax am j : Nat} {h : gHp} (hI : Iv b L ax am j h) : PO_root n (Iv b L ax am (j + 1)) b L ax am h := by
  obtain ⟨A, ρ, K, S, a, e, ly, e1, e2, e3, H⟩ := hI
  obtain ⟨q1, q2, q3, q4⟩ := PO_same e1 e2 e3 H
  obtain ⟨H1, H2, H3, H4, H5⟩ := H
  obtain ⟨f1, f2, f3, f4, f5⟩ := top_facts H1 H3.1
  subst e1 e2 e3
  refine ⟨(if S.1 3 = 0 then -2 else S.1 3, h), ?_, q1, q2, h, A 16, S, (if S.1 3 = 0 then -2 else S.1 3, S), q3, e_root n S, rfl, q4⟩
  have g1 : gref h (A 1 0) 2 = aM A (nz (S.1 3)) := by rw [H1.ref (c := 1) (p := 0) (t := (7, 5)) rfl, H3.2.1.2.2.2.1]
  unfold f_G_root
  rw [f1, f2, show gtin (some (9, 2)) [9] = true from rfl, cond_true, Option.bind_some, f4, show gtin (some (7, 5)) [7] = true from rfl, cond_true, g1]
  rw [e_numberOf H1 H3.2.2.1 H4.1.1 n (by rcases root_ok H4.1 H4.2.2.2.2.2.2.1 with c | ⟨q, c1, c2, -⟩; exact Or.inl c; exact Or.inr ⟨q, c1, c2⟩)]
  rfl
theorem g99 : gtin (some (9, 2)) [9] = true := rfl
theorem g77 : gtis (some (7, 5)) 7 = true := rfl
theorem g77' : gtin (some (7, 5)) [7] = true := rfl
theorem MS.a_2 (S : MS) (k j : Nat) (x : Int32) (k' j' : Nat) : (S.a k j x).2 k' j' = if k' = k ∧ j' = j then x else S.2 k' j' := rfl
theorem MS.f_1 (S : MS) (k : Nat) (x : Int32) (k' : Nat) : (S.f k x).1 k' = if k' = k then x else S.1 k' := rfl
theorem pane_ints {h : gHp} {A : Nat → Nat → Nat} {ρ : Nat → Nat × Nat} {L a P : Nat} {K : KS} {S : MS} {kd : Nat → Int32} (H : Hrep h A ρ (cT L a kd) K) (hP : RKp K S a) (hp : pnN a P = true) : gint h (A 7 P) 0 = nI P ∧ gint h (A 7 P) 1 = S.2 5 P ∧ gint h (A 7 P) 3 = S.2 12 P ∧ gint h (A 7 P) 4 = S.2 13 P ∧ gint h (A 7 P) 5 = S.2 14 P ∧ gint h (A 7 P) 6 = S.2 15 P ∧ gint h (A 7 P) 7 = S.2 16 P ∧ gint h (A 7 P) 8 = S.2 17 P ∧ gint h (A 7 P) 9 = S.2 18 P ∧ gint h (A 7 P) 10 = (if S.2 19 P = 0 then 1 else 0) := by
  simp only [H.int (cT7 hp)]
  exact hP P hp
/-- one number of one pane -/
theorem upd1 {f g : Nat → Int32} {P : Nat} {x : Int32} {p : Nat} {B : Prop} [Decidable B] (hB : B ↔ p = P) (h : f p = g p) : (bif Nat.beq p P then x else f p) = if B then x else g p := by
  by_cases e : p = P
  · rw [if_pos (hB.mpr e), nbq.mpr e]; rfl
  · rw [if_neg (fun q => e (hB.mp q)), nbq_ne e, ← h]; rfl
theorem row_eq {k P p : Nat} : (k = k ∧ p = P) ↔ p = P := ⟨fun q => q.2, fun q => ⟨rfl, q⟩⟩
theorem WFz.keep {S : MS} {a i r : Nat} {x : Int32} (H : WFz S a) (h1 : ¬ r ∈ frs) (h2 : ¬ r = 21) : WFz (S.a r i x) a := by
  intro p hp hq
  refine ⟨fun k hk => ?_, fun k hk => ?_⟩
  · rw [MS.a_2, if_neg (fun (q : k = r ∧ p = i) => h1 (q.1 ▸ hk))]; exact (H p hp hq).1 k hk
  · rw [MS.a_2, if_neg (fun (q : 21 = r ∧ 4 * p + k = i) => h2 q.1.symm)]; exact (H p hp hq).2 k hk
theorem WFz.set {S : MS} {a P k0 : Nat} {x : Int32} (H : WFz S a) (h1 : P ≤ a) (h2 : ¬ k0 = 21) : WFz (S.a k0 P x) a := by
  intro p hp hq
  refine ⟨fun k hk => ?_, fun k hk => ?_⟩
  · rw [MS.a_2, if_neg (by omega)]; exact (H p hp hq).1 k hk
  · rw [MS.a_2, if_neg (by omega)]; exact (H p hp hq).2 k hk
/-- a call: both sides' answers and what they leave -/
def POg (IvN : gHp → Prop) (b L am : Nat) (h : gHp) (fG : Option (Int32 × gHp)) (fM : MS → Option (Int32 × MS)) : Prop := ∃ (q1 : Int32 × gHp), fG = some q1 ∧ gtag q1.2 b = some (24, L) ∧ (∀ j, gint q1.2 b j = gint h b j) ∧ ∃ (hO : gHp) (ad : Nat → Nat) (S : MS) (q2 : Int32 × MS), MR hO q1.2 am ad S ∧ fM S = some q2 ∧ q1.1 = q2.1 ∧ ∀ h', MR hO h' am ad q2.2 → IvN h'
section POK
variable {b L ax am j : Nat} {h h1 : gHp} {A : Nat → Nat → Nat} {ρ : Nat → Nat × Nat} {K K' : KS} {S S' : MS} {a e e' : Nat} {ly ly' : Nat → Bool} {r : Int32} {fG : Option (Int32 × gHp)} {fM : MS → Option (Int32 × MS)}
theorem PO_sm (e1 : A 17 0 = b) (e2 : A 0 0 = ax) (e3 : A 15 0 = am) (H : Cpl h A ρ L K S a e ly j) (hG : fG = some (r, h)) (hM : fM S = some (r, S)) : POg (Iv b L ax am (j + 1)) b L am h fG fM := by
  obtain ⟨q1, q2, q3, q4⟩ := PO_same e1 e2 e3 H
  exact ⟨(r, h), hG, q1, q2, h, A 16, S, (r, S), q3, hM, rfl, q4⟩
theorem PO_mk (e1 : A 17 0 = b) (e2 : A 0 0 = ax) (e3 : A 15 0 = am) (H : Cpl h A ρ L K S a e ly j) (hG : fG = some (r, h1)) (hM : fM S = some (r, S')) (H1 : Hrep h1 A ρ (cT L a (S.2 5)) K') (hk : KEEP K K') (h5 : S'.2 5 = S.2 5) (hR : RK K' S' a e' ly') (hW : WF S' a (j + 1)) (hl : ∀ p, pnN a p = true → (ly' p = true ↔ ¬ S'.2 21 (4 * p + 1) = 0)) : POg (Iv b L ax am (j + 1)) b L am h fG fM := by
  obtain ⟨q1, q2, q3, q4⟩ := PO_use (n := 0) (j := j) e1 e2 e3 H.1 H.2.1 H1 hk h5 hR hW hl
  exact ⟨(r, h1), hG, q1, q2, h1, A 16, S, (r, S'), q3, hM, rfl, q4⟩
end POK
theorem rgB_f {v lo hh : Int32} (h : ¬ rgB v lo hh = true) : v < lo ∨ (¬ v < lo ∧ ¬ v ≤ hh) := by
  rw [rgB_t] at h
  by_cases q : v < lo
  · exact Or.inl q
  · exact Or.inr ⟨q, fun q' => h ⟨q, q'⟩⟩
/-- style and link -/
theorem p_style {n b L ax am j : Nat} {h : gHp} (hI : Iv b L ax am j h) (z1 z2 : Int32) : PO_style n (Iv b L ax am (j + 1)) b L ax am h z1 z2 := by
  obtain ⟨A, ρ, K, S, a, e, ly, rfl, rfl, rfl, H⟩ := hI
  obtain ⟨H1, H2, H3, H4, H5⟩ := id H
  obtain ⟨f1, f2, f3, f4, f5⟩ := top_facts H1 H3.1
  have hf := e_find H1 H3.1 H3.2.1 n z1
  have hM := e_style n S z1 z2
  by_cases c1 : opB S z1 = true
  · obtain ⟨P, rfl, p1, p2, p3, p4⟩ := opB_nI H4.1 c1
    have iP := ixn (show P < 2 ^ 31 by omega)
    have t7 : cT L a (S.2 5) 7 P = some (cTag (S.2 5 P)) := cT7 p3
    have tg := H1.tag t7
    by_cases c2 : rgB z2 0 10 = true
    · have c2' := rgB_t.mp c2
      obtain ⟨-, k1, -, -, -, -, k7, -⟩ := pane_ints H1 H3.2.2.1 p3
      by_cases c3 : S.2 5 P = 4
      · exact PO_sm (r := -3) rfl rfl rfl H (by simp [f_G_style, f1, f2, f4, g99, g77, hf, c1, c2'.1, c2'.2, iP, tg, cTag_pane, k1, c3]) (by show f_M_style n S _ _ = _; rw [hM]; simp [c1, c2, iP, c3])
      · have hb := rgB_bd (n := 10) (N := 10) (by decide) c2
        refine PO_mk (r := S.2 16 P) (S' := S.a 16 P z2) (e' := e) (ly' := ly) rfl rfl rfl H (by simp [f_G_style, f1, f2, f4, g99, g77, hf, c1, c2'.1, c2'.2, iP, tg, cTag_pane, k1, k7, c3]) (by show f_M_style n S _ _ = _; rw [hM]; simp [c1, c2, iP, c3]) (H1.i t7 7 z2) ⟨rfl, rfl, rfl, rfl⟩ rfl ⟨H3.1, H3.2.1, fun p hp => (let ⟨u0, u1, u3, u4, u5, u6, u7, u8⟩ := H3.2.2.1 p hp; ⟨u0, u1, u3, u4, u5, u6, upd1 (f := fun p => K.1 7 p 7) row_eq u7, u8⟩), H3.2.2.2⟩ ⟨H4.1, ⟨fun p hp => ?_, H4.2.1.2⟩, H4.2.2.1, H4.2.2.2.1, H4.2.2.2.2.1.set (pnN_le p3).2 (by decide), H4.2.2.2.2.2⟩ H5
        obtain ⟨w1, w2⟩ := (H4.2.1.mono (Nat.le_succ j)).1 p hp
        refine ⟨?_, w2⟩
        show bd (if 16 = 16 ∧ p = P then z2 else S.2 16 p) 10
        split
        · exact hb
        · exact w1
    · exact PO_sm (r := -1) rfl rfl rfl H (by rcases rgB_f c2 with c2' | c2' <;> simp [f_G_style, f1, f2, f4, g99, g77, hf, c1, c2']) (by show f_M_style n S _ _ = _; rw [hM]; simp [c2])
  · exact PO_sm (r := -1) rfl rfl rfl H (by simp [f_G_style, f1, f2, f4, g99, g77, hf, c1]) (by show f_M_style n S _ _ = _; rw [hM]; simp [c1])
theorem p_link {n b L ax am j : Nat} {h : gHp} (hI : Iv b L ax am j h) (z1 z2 : Int32) : PO_link n (Iv b L ax am (j + 1)) b L ax am h z1 z2 := by
  obtain ⟨A, ρ, K, S, a, e, ly, rfl, rfl, rfl, H⟩ := hI
  obtain ⟨H1, H2, H3, H4, H5⟩ := id H
  obtain ⟨f1, f2, f3, f4, f5⟩ := top_facts H1 H3.1
  have hf := e_find H1 H3.1 H3.2.1 n z1
  have hM := e_link n S z1 z2
  by_cases c1 : opB S z1 = true
  · obtain ⟨P, rfl, p1, p2, p3, p4⟩ := opB_nI H4.1 c1
    have iP := ixn (show P < 2 ^ 31 by omega)
    have t7 : cT L a (S.2 5) 7 P = some (cTag (S.2 5 P)) := cT7 p3
    have tg := H1.tag t7
    by_cases c2 : rgB z2 0 999 = true
    · have c2' := rgB_t.mp c2
      obtain ⟨-, k1, -, -, -, -, -, k7, -⟩ := pane_ints H1 H3.2.2.1 p3
      by_cases c3 : S.2 5 P = 4
      · exact PO_sm (r := -3) rfl rfl rfl H (by simp [f_G_link, f1, f2, f4, g99, g77, hf, c1, c2'.1, c2'.2, iP, tg, cTag_pane, k1, c3]) (by show f_M_link n S _ _ = _; rw [hM]; simp [c1, c2, iP, c3])
      · have hb := rgB_bd (n := 999) (N := 999) (by decide) c2
        refine PO_mk (r := S.2 17 P) (S' := S.a 17 P z2) (e' := e) (ly' := ly) rfl rfl rfl H (by simp [f_G_link, f1, f2, f4, g99, g77, hf, c1, c2'.1, c2'.2, iP, tg, cTag_pane, k1, k7, c3]) (by show f_M_link n S _ _ = _; rw [hM]; simp [c1, c2, iP, c3]) (H1.i t7 8 z2) ⟨rfl, rfl, rfl, rfl⟩ rfl ⟨H3.1, H3.2.1, fun p hp => (let ⟨u0, u1, u3, u4, u5, u6, u7, u8, u9⟩ := H3.2.2.1 p hp; ⟨u0, u1, u3, u4, u5, u6, u7, upd1 (f := fun p => K.1 7 p 8) row_eq u8, u9⟩), H3.2.2.2⟩ ⟨H4.1, ⟨fun p hp => ?_, H4.2.1.2⟩, H4.2.2.1, H4.2.2.2.1, H4.2.2.2.2.1.set (pnN_le p3).2 (by decide), H4.2.2.2.2.2⟩ H5
        obtain ⟨w1, w2, w3⟩ := (H4.2.1.mono (Nat.le_succ j)).1 p hp
        refine ⟨w1, ?_, w3⟩
        show bd (if 17 = 17 ∧ p = P then z2 else S.2 17 p) 999
        split
        · exact hb
        · exact w2
    · exact PO_sm (r := -1) rfl rfl rfl H (by rcases rgB_f c2 with c2' | c2' <;> simp [f_G_link, f1, f2, f4, g99, g77, hf, c1, c2']) (by show f_M_link n S _ _ = _; rw [hM]; simp [c2])
  · exact PO_sm (r := -1) rfl rfl rfl H (by simp [f_G_link, f1, f2, f4, g99, g77, hf, c1]) (by show f_M_link n S _ _ = _; rw [hM]; simp [c1])
