/-! ===== all panes are laid out anew ===== -/
theorem cO_ins {f f' : Nat → Bool} {x a : Nat} {b : Bool} (h1 : 1 ≤ x) (h2 : x ≤ a) (hf : f x = false) (hb : f' x = b) (he : ∀ p, ¬ p = x → f' p = f p) : cO f' 1 a = (bif b then 1 else 0) + cO f 1 a := by
  have e : a = (x - 1) + (1 + (a - x)) := by omega
  rw [e, cO_add, cO_add, cO_add, cO_add, show 1 + (x - 1) = x by omega]
  have a1 : cO f' 1 (x - 1) = cO f 1 (x - 1) := cO_congr _ _ (fun p p1 p2 => he p (by omega))
  have a2 : cO f' (x + 1) (a - x) = cO f (x + 1) (a - x) := cO_congr _ _ (fun p p1 p2 => he p (by omega))
  have a3 : cO f' x 1 = bif b then 1 else 0 := by show (bif f' x then 1 else 0) + 0 = _; rw [hb]; rfl
  have a4 : cO f x 1 = 0 := by show (bif f x then 1 else 0) + 0 = _; rw [hf]; rfl
  rw [a1, a2, a3, a4]
  omega
theorem cO_list {g : Nat → Bool} {a : Nat} : ∀ l : List Nat, l.Nodup → (∀ q, q ∈ l → 1 ≤ q ∧ q ≤ a) → l.countP g = cO (fun p => decide (p ∈ l) && g p) 1 a := by
  intro l
  induction l with
  | nil => intro _ _; rw [cO_zero _ _ _ (fun p _ _ => by simp)]; rfl
  | cons x l ih =>
    intro hN hR
    obtain ⟨n1, n2⟩ := List.nodup_cons.mp hN
    rw [List.countP_cons, ih n2 (fun q hq => hR q (List.mem_cons_of_mem _ hq))]
    have := hR x List.mem_cons_self
    rw [cO_ins (f := fun p => decide (p ∈ l) && g p) (f' := fun p => decide (p ∈ x :: l) && g p) (b := g x) this.1 this.2 (by simp [n1]) (by simp) (fun p hp => by simp [hp])]
    cases g x <;> simp <;> omega
/-- what holds before panes are laid out anew -/
def RKgP (K : KS) (S : MS) (a : Nat) : Prop := ∀ p, pnN a p = true → S.2 5 p = 2 → (S.2 4 p = 0 → ∀ t, t < 1440 → K.1 11 p t = cellv (S.2 29 (1440 * p + t)) (S.2 30 (1440 * p + t)) (S.2 31 (1440 * p + t)) ∧ sgn (S.2 29 (1440 * p + t)) ∧ bd (S.2 30 (1440 * p + t)) 10 ∧ bd (S.2 31 (1440 * p + t)) 999) ∧ (¬ S.2 4 p = 0 → S.2 32 p = S.2 14 p ∧ S.2 33 p = S.2 15 p ∧ ∀ w v, S.2 14 p = nI w → S.2 15 p = nI v → w ≤ 60 → v ≤ 24 → ∀ t, t < 1440 → (t % 60 < w ∧ t / 60 < v → K.1 11 p t = cellv (S.2 29 (1440 * p + t)) (S.2 30 (1440 * p + t)) (S.2 31 (1440 * p + t)) ∧ sgn (S.2 29 (1440 * p + t)) ∧ bd (S.2 30 (1440 * p + t)) 10 ∧ bd (S.2 31 (1440 * p + t)) 999) ∧ (¬ (t % 60 < w ∧ t / 60 < v) → K.1 11 p t = 32))
def PRE (K : KS) (S : MS) (a : Nat) (ly : Nat → Bool) (j : Nat) : Prop :=
  (RKs K a (S.2 5) ∧ RKt K S ∧ RKp K S a ∧ RKk K S a ∧ RKa K S a ∧ RKl K S a ly ∧ RKx K S a ∧ RKgP K S a ∧ RKr K S a) ∧
  WFa S a ∧ WFn S j ∧ ((∀ p k, p ≤ 60 → k < ix (S.2 25 p) → (S.2 26 (400 * p + k) = 10 ∨ sgn (S.2 26 (400 * p + k))) ∧ bd (S.2 27 (400 * p + k)) 10 ∧ bd (S.2 28 (400 * p + k)) 999) ∧ (∀ p k, p ≤ 60 → k < ix (S.2 23 p) → sgn (S.2 24 (40 * p + k)))) ∧ WFq S a ∧ WFz S a ∧ WFk S a ∧ WFt S ∧ (4 ≤ (S.1 0).toInt ∧ (S.1 0).toInt ≤ 60 ∧ 2 ≤ (S.1 1).toInt ∧ (S.1 1).toInt ≤ 24) ∧
  (∀ p, p ≤ 60 → 0 ≤ (S.2 12 p).toInt ∧ 0 ≤ (S.2 13 p).toInt ∧ 0 ≤ (S.2 14 p).toInt ∧ 0 ≤ (S.2 15 p).toInt ∧ (S.2 12 p).toInt + (S.2 14 p).toInt ≤ 60 ∧ (S.2 13 p).toInt + (S.2 15 p).toInt ≤ 24)
def chS (S S' : MS) (p : Nat) : Bool := !(decide (S.2 12 p = S'.2 12 p) && (decide (S.2 13 p = S'.2 13 p) && (decide (S.2 14 p = S'.2 14 p) && decide (S.2 15 p = S'.2 15 p))))
theorem rc_of {S : MS} {q : Nat} (h : 0 ≤ (S.2 12 q).toInt ∧ 0 ≤ (S.2 13 q).toInt ∧ 0 ≤ (S.2 14 q).toInt ∧ 0 ≤ (S.2 15 q).toInt ∧ (S.2 12 q).toInt + (S.2 14 q).toInt ≤ 60 ∧ (S.2 13 q).toInt + (S.2 15 q).toInt ≤ 24) : ∃ r, rb r ∧ rcS S q r := by
  obtain ⟨z1, z2, z3, z4, z5, z6⟩ := h
  obtain ⟨X, x1, x2⟩ := bd_n (show bd (S.2 12 q) 60 from ⟨z1, by omega⟩)
  obtain ⟨Y, y1, y2⟩ := bd_n (show bd (S.2 13 q) 24 from ⟨z2, by omega⟩)
  obtain ⟨W, w1, w2⟩ := bd_n (show bd (S.2 14 q) 60 from ⟨z3, by omega⟩)
  obtain ⟨V, v1, v2⟩ := bd_n (show bd (S.2 15 q) 24 from ⟨z4, by omega⟩)
  rw [x2, w2, nI_toInt (by omega), nI_toInt (by omega)] at z5
  rw [y2, v2, nI_toInt (by omega), nI_toInt (by omega)] at z6
  exact ⟨(X, Y, W, V), ⟨by show X + W ≤ 60; omega, by show Y + V ≤ 24; omega⟩, x2, y2, w2, v2⟩
section LA
variable {h : gHp} {A : Nat → Nat → Nat} {ρ : Nat → Nat × Nat} {L a j n n' : Nat} {K : KS} {S : MS} {ly : Nat → Bool}
theorem pds_of (hWa : WFa S a) (hWt : WFt S) (hWk : WFk S a) {p : Nat} (hp : p ≤ 60) (ho : ¬ S.2 4 p = 0) (hk : S.2 5 p = 4) : PDs S p (fN S p) (sN S p) (mN S p) (zN S p) (kN S p) := by
  obtain ⟨f, s, q1, q2, q3, q4, q5, q6, q7, q8, q9, q10⟩ := sides_ok hWa hWt hp ho hk
  obtain ⟨w1, w2, w3, w4⟩ := hWk p hp ho hk
  obtain ⟨m, m1, m2⟩ := bd_n w1
  obtain ⟨z, z1, z2⟩ := bd_n w2
  have ef : fN S p = f := by unfold fN; rw [q1, ixn (by omega)]
  have es : sN S p = s := by unfold sN; rw [q2, ixn (by omega)]
  have em : mN S p = m := by unfold mN; rw [m2, ixn (by omega)]
  have ez : zN S p = z := by unfold zN; rw [z2, ixn (by omega)]
  rw [ef, es, em, ez]
  refine ⟨q1, q2, m2, z2, by omega, z1, ?_⟩
  unfold kN
  rcases w4 with w4 | ⟨q, u1, u2, u3, u4⟩
  · rw [if_pos w4]; exact Or.inl ⟨w4, rfl⟩
  · obtain ⟨v1, v2⟩ := pnN_le u2
    have ha := hWa.1
    rw [if_neg (by rw [u1, nI_z (by omega)]; omega), u1, ixn (by omega)]
    refine Or.inr ⟨q, rfl, v1, by omega, ?_⟩
    rcases hWa.2.2.2.2.2 q u2 with c | c | c | c | c <;> rw [c]
    · exact ⟨rfl, by decide⟩
    · exact ⟨rfl, by decide⟩
    · exact ⟨rfl, by decide⟩
    · exact ⟨rfl, by decide⟩
    · exact ⟨rfl, by decide⟩
theorem pdk_of (hWa : WFa S a) (hRk : RKk K S a) (hRr : RKr K S a) {p f s m z kk : Nat} (hp : pnN a p = true) (ho : ¬ S.2 4 p = 0) (hk : S.2 5 p = 4) (hf : 1 ≤ f ∧ f ≤ 60) (hs : 1 ≤ s ∧ s ≤ 60) (hWk : WFk S a) (hD : PDs S p f s m z kk) : PDk K a (S.2 5) p f s m z kk := by
  obtain ⟨d1, d2, d3, d4, d5, d6, d7⟩ := hD
  obtain ⟨q3, q4, q5⟩ := (hRr p hp ho).2 hk
  have ha := hWa.1
  have nz' : ∀ q, 1 ≤ q → q ≤ 60 → nz (nI q) = some (7, q) := fun q h1 h2 => by unfold nz; rw [if_neg (by rw [nI_z h2]; omega), ixn (by omega)]
  refine ⟨by rw [q4, d1]; exact nz' f hf.1 hf.2, by rw [q5, d2]; exact nz' s hs.1 hs.2, by rw [((hRk p hp).1 hk).1, d3], by rw [((hRk p hp).1 hk).2, d4], d5, d6, ?_⟩
  rcases d7 with ⟨z1, z2⟩ | ⟨q, z1, z2, z3, z4⟩
  · exact Or.inl ⟨by rw [q3, z1]; rfl, z2⟩
  · have hp60 : p ≤ 60 := by have := (pnN_le hp).2; omega
    rcases (hWk p hp60 ho hk).2.2.2 with w | ⟨q', w1, w2, -⟩
    · rw [w] at z1
      exact absurd z1.symm (by rw [nI_z z3]; omega)
    · have e : q' = q := (nI_eq (by have := (pnN_le w2).2; omega) (by omega)).mp (by rw [← w1, z1])
      subst e
      exact Or.inr ⟨q', by rw [q3, z1]; exact nz' q' z2 z3, w2, z4⟩
theorem lay_all (H : Hrep h A ρ (cT L a (S.2 5)) K) (P : PRE K S a ly j) (hn : 3000 ≤ n) (hn' : 1000 ≤ n') : ∃ h' K' S' c, f_Tree_layOut n h (A 1 0) = some (nI c, h') ∧ f_M_arrangeAll n' S = some S' ∧ Hrep h' A ρ (cT L a (S.2 5)) K' ∧ KEEP K K' ∧ RK9 K' S' a ly ∧ (K'.1 2 = K.1 2 ∧ K'.1 5 = K.1 5 ∧ K'.1 6 = K.1 6) ∧ WF S' a j ∧ S'.1 = S.1 ∧ (∀ k, ¬ (12 ≤ k ∧ k ≤ 15) → ¬ (29 ≤ k ∧ k ≤ 33) → ¬ k = 36 → S'.2 k = S.2 k) ∧ c = cO (fun p => opN S p && chS S S' p) 1 a := by
  obtain ⟨⟨R1, R2, R3, R4, R5, R6, R7, R8, R10⟩, W1, W2, W3, W4, W5, W6, W7, W8, W9⟩ := P
  have f4 : gtag h (A 1 0) = some (7, 5) := H.tag (c := 1) (p := 0) rfl
  have i3 : gint h (A 1 0) 3 = S.1 0 := by rw [H.int (c := 1) (p := 0) (t := (7, 5)) rfl, R2.2.1]
  have i4 : gint h (A 1 0) 4 = S.1 1 := by rw [H.int (c := 1) (p := 0) (t := (7, 5)) rfl, R2.2.2.1]
  have r2 : gref h (A 1 0) 2 = aM A (nz (S.1 3)) := by rw [H.ref (c := 1) (p := 0) (t := (7, 5)) rfl, R2.2.2.2.1]
  obtain ⟨W, w1, w2⟩ := bd_n (show bd (S.1 0) 60 from ⟨by omega, by omega⟩)
  obtain ⟨V, v1, v2⟩ := bd_n (show bd (S.1 1) 24 from ⟨by omega, by omega⟩)
  have hW4 : 4 ≤ W := by have := W8.1; rw [w2, nI_toInt (by omega)] at this; omega
  have hV2 : 2 ≤ V := by have := W8.2.2.1; rw [v2, nI_toInt (by omega)] at this; omega
  have hU : f_Tree_layOut n h (A 1 0) = (f_Tree_layOutFrom n 20 h (aM A (nz (S.1 3))) (nI 0) (nI 0) (nI W) (nI V) (nI 0)).bind (fun q1 => some (q1.1, q1.2)) := by
    unfold f_Tree_layOut
    simp only [f4, g77', cond_true, r2, i3, i4, w2, v2]
    rfl
  have ha := W1.1
  rcases W7 with ⟨t1, t2⟩ | ⟨d, r, l, t1, t2, t3, t4, t5⟩
  · -- there is no pane
    refine ⟨h, K, S, 0, ?_, ?_, H, KEEP.rfl' K, ⟨R1, R2, R3, R4, R5, R6, R7, fun p hp hk k hk' => ?_, R10⟩, ⟨rfl, rfl, rfl⟩, ⟨W1, W2, ⟨W3.1, W3.2, fun p k hp hk hk' => ?_⟩, W4, W5, W6, Or.inl ⟨t1, t2⟩, ⟨W8, W9, fun q => absurd t1 q, fun p hp ho => absurd (t2 p hp) ho⟩, fun p hp ho => absurd (t2 p hp) ho⟩, rfl, fun _ _ _ _ => rfl, ?_⟩
    · rw [hU, t1]
      rfl
    · unfold f_M_arrangeAll
      rw [if_pos t1]
    · exact ((R8 p hp hk).1 (t2 p (by have := (pnN_le hp).2; omega)) k hk').1
    · exact ((R8 p hp hk).1 (t2 p (by have := (pnN_le hp).2; omega)) k hk').2
    · rw [cO_zero _ _ _ (fun p p1 p2 => by simp [opN, t2 p (by omega)])]
  · have t6 := (t2.lv).1.mono t4
    have hr := t2.here
    have z3 : ¬ S.1 3 = 0 := by rw [t1, nI_z hr.2.1]; omega
    have ir := ixn (show r < 2 ^ 31 by have := hr.2.1; omega)
    have er : nrm (0, 0, W, V) = (0, 0, W, V) := by unfold nrm; rw [if_pos ⟨by show 0 < W; omega, by show 0 < V; omega⟩]
    have rb0 : rb (0, 0, W, V) := ⟨by show 0 + W ≤ 60; omega, by show 0 + V ≤ 24; omega⟩
    obtain ⟨G, hG⟩ := lay_ex (0, 0, W, V) t6 t3
    have lm : ∀ q, q ∈ l → q ≤ 60 ∧ pnN a q = true ∧ ¬ S.2 4 q = 0 := fun q hq => by
      obtain ⟨m1, m2, m3⟩ := t2.mem hq
      exact ⟨m2, pnN_of m1 (W1.2.2.2.2.1 q m2 m3), m3⟩
    have llen : l.length ≤ 60 := by
      have hh := cO_list (g := fun _ => true) (a := 60) l t3 (fun q hq => by have := t2.mem hq; omega)
      rw [List.countP_true] at hh
      rw [hh]
      have bnd : ∀ (f : Nat → Bool) (k lo : Nat), cO f lo k ≤ k := by
        intro f k
        induction k with
        | zero => intro lo; exact Nat.le_refl 0
        | succ k ih =>
          intro lo
          show (bif f lo then 1 else 0) + cO f (lo + 1) k ≤ k + 1
          have := ih (lo + 1)
          cases f lo <;> simp <;> omega
      exact bnd _ _ _
    have pds : ∀ q, q ∈ l → S.2 5 q = 4 → PDs S q (fN S q) (sN S q) (mN S q) (zN S q) (kN S q) := fun q hq k => pds_of W1 (Or.inr ⟨d, r, l, t1, t2, t3, t4, t5⟩) W6 (lm q hq).1 (lm q hq).2.2 k
    -- the reference
    obtain ⟨S1, hS1⟩ : ∃ S1, S1 = (rmS S r (0, 0, W, V)).a 36 0 (nI r) := ⟨_, rfl⟩
    have g1 : ∀ k i, ¬ k = 36 → ¬ (12 ≤ k ∧ k ≤ 15 ∧ i = r) → S1.2 k i = S.2 k i := by
      intro k i c1 c2
      rw [hS1, MS.a_2, if_neg (by omega), rmS_2 c2]
    obtain ⟨S', N', a1, a2, a3, a4, a5⟩ := arr_sub (S0 := S) 12 (k0 := 0) (N := n') (S := S1) (r := (0, 0, W, V)) t6 t3 hG rb0 (by omega) (fun k c1 c2 => by funext i; exact g1 k i (by omega) (by omega)) pds (fun q hq k => by
      obtain ⟨b1, b2, -⟩ := (R8 q (lm q hq).2.1 k).2 (lm q hq).2.2
      obtain ⟨o, o1, o2⟩ := rc_of (W9 q (lm q hq).1)
      refine ⟨o.2.2.1, o.2.2.2, ?_, ?_, by have := o1.1; omega, by have := o1.2; omega⟩
      · rw [g1 32 q (by omega) (by omega), b1, o2.2.2.1]
      · rw [g1 33 q (by omega) (by omega), b2, o2.2.2.2]) (by
      refine (rmS_rc (S := S) (q := r) (r := (0, 0, W, V))).eq (fun k c1 c2 => ?_)
      rw [hS1, MS.a_2, if_neg (by omega)]) (by rw [hS1, MS.a_2, if_pos ⟨rfl, rfl⟩]) (by omega)
    have hM : f_M_arrangeAll n' S = some S' := by
      unfold f_M_arrangeAll
      rw [if_neg z3, t1, w2, v2]
      have q1 := e_room n' S hr.2.1 (x := 0) (y := 0) (w := W) (v := V) (by omega) (by omega)
      rw [er] at q1
      rw [show (0 : Int32) = nI 0 from rfl, q1, Option.bind_some]
      have s13 : (rmS S r (0, 0, W, V)).1 3 = nI r := t1
      rw [show inB (nI 0) 61 = true from rfl, cond_true, s13]
      have a2' : f_M_arrangeAll_B38 n' S1 (nI 1) = f_M_arrangeAll_B38 N' S' (nI 0) := a2
      rw [show ix (nI 0) = 0 from rfl, show (1 : Int32) = nI 1 from rfl, ← hS1, a2']
      obtain ⟨m, rfl⟩ : ∃ m, N' = m + 1 := ⟨N' - 1, by omega⟩
      rw [f_M_arrangeAll_B38, if_pos (by decide)]
    -- the class
    obtain ⟨h', K', b1, b2, b3, b4, b5⟩ := lay_sub (S0 := S) (N := n) (kd := S.2 5) (by omega) rfl 12 (r0 := (0, 0, W, V)) (G := G) (dep := 0) (n := 20) (h := h) (K := K) t6 t3 (by rw [er]; exact hG) rb0 (by omega) (by omega) H R1 (fun q hq => ⟨(lm q hq).2.1, W1.2.2.2.2.2 q (lm q hq).2.1⟩) (fun q hq k => by
      obtain ⟨f, s, s1, s2, s3, s4, -⟩ := sides_ok W1 (Or.inr ⟨d, r, l, t1, t2, t3, t4, t5⟩) (lm q hq).1 (lm q hq).2.2 k
      have ef : fN S q = f := by unfold fN; rw [s1, ixn (by have := (pnN_le s3).2; omega)]
      have es : sN S q = s := by unfold sN; rw [s2, ixn (by have := (pnN_le s4).2; omega)]
      exact pdk_of W1 R4 R10 (lm q hq).2.1 (lm q hq).2.2 k (by rw [ef]; have := pnN_le s3; omega) (by rw [es]; have := pnN_le s4; omega) W6 (pds q hq k)) (fun q hq => by
      obtain ⟨o, o1, o2⟩ := rc_of (W9 q (lm q hq).1)
      obtain ⟨u0, u1, u3, u4, u5, u6, -⟩ := R3 q (lm q hq).2.1
      exact ⟨o, o1, by rw [u3]; exact o2.1, by rw [u4]; exact o2.2.1, by rw [u5]; exact o2.2.2.1, by rw [u6]; exact o2.2.2.2⟩) (fun q hq k w v k5 k6 hw hv t ht ho => by
      obtain ⟨u0, u1, u3, u4, u5, u6, -⟩ := R3 q (lm q hq).2.1
      obtain ⟨-, -, bb⟩ := (R8 q (lm q hq).2.1 k).2 (lm q hq).2.2
      exact (bb w v (by rw [← u5, k5]) (by rw [← u6, k6]) hw hv t ht).2 (by omega))
    -- frames
    have s1 : S'.1 = S.1 := by rw [a5.1, hS1]; rfl
    have fr : ∀ k i, ¬ k = 36 → ¬ ((k = 12 ∨ k = 13 ∨ k = 14 ∨ k = 15 ∨ k = 32 ∨ k = 33) ∧ i ∈ l) → ¬ ((k = 29 ∨ k = 30 ∨ k = 31) ∧ ∃ q, q ∈ l ∧ 1440 * q ≤ i ∧ i < 1440 * q + 1440) → S'.2 k i = S.2 k i := by
      intro k i c1 c2 c3
      rw [a5.2 k i (fun q => absurd q c1) c2 c3]
      exact g1 k i c1 (fun q => c2 ⟨by omega, by rw [q.2.2]; exact hr.2.2.2.2⟩)
    have row : ∀ k, ¬ (12 ≤ k ∧ k ≤ 15) → ¬ (29 ≤ k ∧ k ≤ 33) → ¬ k = 36 → S'.2 k = S.2 k := fun k c1 c2 c3 => funext fun i => fr k i c3 (by omega) (by omega)
    have kc : ∀ c, ¬ c = 7 → ¬ c = 11 → K'.1 c = K.1 c := fun c c1 c2 => funext fun q => funext fun k => b5.2 c q k (fun e => c1 e.1) (fun e => c2 e.1)
    have k7 : ∀ q k, ¬ (3 ≤ k ∧ k ≤ 6) → K'.1 7 q k = K.1 7 q k := fun q k hk => b5.2 7 q k (fun e => hk e.2.2) (fun e => by omega)
    obtain ⟨geo1, geo2⟩ := lay_geo t6 hG rb0
    have rcl : ∀ q, q ∈ l → rcS S' q (G q) := a3
    have gsz : ∀ q, q ∈ l → (G q).2.2.1 ≤ 60 ∧ (G q).2.2.2 ≤ 24 := fun q hq => by have := geo1 q hq; exact ⟨by have := this.1; omega, by have := this.2; omega⟩
    -- grids
    have ftd : ∀ q, q ∈ l → S.2 5 q = 2 → S'.2 32 q = nI (G q).2.2.1 ∧ S'.2 33 q = nI (G q).2.2.2 ∧ ∀ t, t < 1440 → K'.1 11 q t = cellv (S'.2 29 (1440 * q + t)) (S'.2 30 (1440 * q + t)) (S'.2 31 (1440 * q + t)) ∧ sgn (S'.2 29 (1440 * q + t)) ∧ bd (S'.2 30 (1440 * q + t)) 10 ∧ bd (S'.2 31 (1440 * q + t)) 999 ∧ (((G q).2.2.1 ≤ t % 60 ∨ (G q).2.2.2 ≤ t / 60) → S'.2 29 (1440 * q + t) = 32 ∧ S'.2 30 (1440 * q + t) = 0 ∧ S'.2 31 (1440 * q + t) = 0) := by
      intro q hq k
      obtain ⟨c1, c2, c3⟩ := a4 q hq k
      refine ⟨c1, c2, fun t ht => ?_⟩
      obtain ⟨e1, e2, e3⟩ := (R8 q (lm q hq).2.1 k).2 (lm q hq).2.2
      obtain ⟨o, o1, o2⟩ := rc_of (W9 q (lm q hq).1)
      have ow : o.2.2.1 ≤ 60 := by have := o1.1; omega
      have ov : o.2.2.2 ≤ 24 := by have := o1.2; omega
      obtain ⟨x1, x2⟩ := e3 o.2.2.1 o.2.2.2 o2.2.2.1 o2.2.2.2 ow ov t ht
      have c3' := c3 o.2.2.1 o.2.2.2 (by rw [g1 32 q (by omega) (by omega), e1, o2.2.2.1]) (by rw [g1 33 q (by omega) (by omega), e2, o2.2.2.2]) ow ov t ht
      have y29 := c3' 29 (by omega)
      have y30 := c3' 30 (by omega)
      have y31 := c3' 31 (by omega)
      rw [g1 29 _ (by omega) (by omega)] at y29
      rw [g1 30 _ (by omega) (by omega)] at y30
      rw [g1 31 _ (by omega) (by omega)] at y31
      have z := b4 q hq k t ht
      by_cases cc : (G q).2.2.1 ≤ t % 60 ∨ (G q).2.2.2 ≤ t / 60 ∨ o.2.2.1 ≤ t % 60 ∨ o.2.2.2 ≤ t / 60
      · rw [if_pos cc] at y29 y30 y31
        rw [if_pos rfl] at y29
        rw [if_neg (by decide)] at y30 y31
        rw [y29, y30, y31, cell_0]
        refine ⟨?_, by decide, by decide, by decide, fun _ => ⟨rfl, rfl, rfl⟩⟩
        rw [z]
        split
        · exact x2 (by omega)
        · rfl
      · rw [if_neg cc] at y29 y30 y31
        rw [y29, y30, y31, z, if_pos (by omega)]
        obtain ⟨x3, x4, x5, x6⟩ := x1 (by omega)
        exact ⟨x3, x4, x5, x6, fun h => absurd h (by omega)⟩
    have cl : ∀ p t k, pnN a p = true → ¬ p ∈ l → t < 1440 → (k = 29 ∨ k = 30 ∨ k = 31) → S'.2 k (1440 * p + t) = S.2 k (1440 * p + t) := by
      intro p t k hp hnl ht hk
      refine fr k _ (by omega) (by omega) (fun h => ?_)
      obtain ⟨-, q', h3, h4, h5⟩ := h
      rw [show p = q' by omega] at hnl
      exact hnl h3
    have clo : ∀ p, pnN a p = true → ¬ p ∈ l → S.2 4 p = 0 := fun p hp hnl => Classical.byContradiction fun q => hnl ((t5 p (by have := (pnN_le hp).2; omega)).mp q)
    have rcp : ∀ p, p ≤ 60 → ∃ o, rb o ∧ rcS S' p o := by
      intro p hp
      by_cases hl : p ∈ l
      · exact ⟨G p, geo1 p hl, rcl p hl⟩
      · obtain ⟨o, o1, o2⟩ := rc_of (W9 p hp)
        exact ⟨o, o1, o2.eq (fun k c1 c2 => fr k p (by omega) (fun h => hl h.2) (by omega))⟩
    refine ⟨h', K', S', l.countP (fun q => chg K (G q) q), ?_, hM, b2, ⟨kc 15 (by decide) (by decide), kc 16 (by decide) (by decide), kc 17 (by decide) (by decide), by rw [b5.1]⟩, ⟨?_, ?_, fun p hp => ?_, fun p hp => ?_, ?_, ?_, ?_, fun p hp hk t ht => ?_, ?_⟩, ⟨kc 2 (by decide) (by decide), kc 5 (by decide) (by decide), kc 6 (by decide) (by decide)⟩, ⟨?_, ?_, ⟨?_, ?_, fun p t hp hk ht => ?_⟩, ?_, fun p p1 p2 => ⟨fun k hk => ?_, ?_⟩, ?_, ?_, ⟨?_, fun p hp => ?_, fun _ => ?_, fun p hp ho hk x y => ?_⟩, fun p hp ho hk => ?_⟩, s1, row, ?_⟩
    · rw [hU, t1, aM_nz hr.1 hr.2.1]
      have b1' : f_Tree_layOutFrom n 20 h (some (A 7 r)) (nI 0) (nI 0) (nI W) (nI V) (nI 0) = some (nI (l.countP (fun q => chg K (G q) q)), h') := b1
      rw [b1']
      rfl
    · rw [row 5 (by omega) (by omega) (by omega)]; exact R1.eq b5.1
    · unfold RKt at R2 ⊢; rw [b5.1, kc 1 (by decide) (by decide), s1, row 4 (by omega) (by omega) (by omega)]; exact R2
    · obtain ⟨u0, u1, u3, u4, u5, u6, u7, u8, u9, u10⟩ := R3 p hp
      rw [k7 p 0 (by omega), k7 p 1 (by omega), k7 p 7 (by omega), k7 p 8 (by omega), k7 p 9 (by omega), k7 p 10 (by omega), row 5 (by omega) (by omega) (by omega), row 16 (by omega) (by omega) (by omega), row 17 (by omega) (by omega) (by omega), row 18 (by omega) (by omega) (by omega), row 19 (by omega) (by omega) (by omega)]
      by_cases hl : p ∈ l
      · obtain ⟨m1, m2, m3, m4⟩ := b3 p hl
        obtain ⟨m5, m6, m7, m8⟩ := rcl p hl
        exact ⟨u0, u1, by rw [m1, m5], by rw [m2, m6], by rw [m3, m7], by rw [m4, m8], u7, u8, u9, u10⟩
      · have kk : ∀ k, K'.1 7 p k = K.1 7 p k := fun k => b5.2 7 p k (fun e => hl e.2.1) (fun e => by omega)
        have ss : ∀ k, 12 ≤ k → k ≤ 15 → S'.2 k p = S.2 k p := fun k c1 c2 => fr k p (by omega) (fun h => hl h.2) (by omega)
        rw [kk 3, kk 4, kk 5, kk 6, ss 12 (by omega) (by omega), ss 13 (by omega) (by omega), ss 14 (by omega) (by omega), ss 15 (by omega) (by omega)]
        exact ⟨u0, u1, u3, u4, u5, u6, u7, u8, u9, u10⟩
    · rw [k7 p 11 (by omega), k7 p 12 (by omega), k7 p 14 (by omega), k7 p 15 (by omega), row 5 (by omega) (by omega) (by omega), row 9 (by omega) (by omega) (by omega), row 10 (by omega) (by omega) (by omega), row 20 (by omega) (by omega) (by omega), row 34 (by omega) (by omega) (by omega), row 35 (by omega) (by omega) (by omega), row 25 (by omega) (by omega) (by omega)]
      exact R4 p hp
    · unfold RKa at R5 ⊢; rw [row 5 (by omega) (by omega) (by omega), kc 8 (by decide) (by decide), row 21 (by omega) (by omega) (by omega)]; exact R5
    · unfold RKl at R6 ⊢; rw [row 5 (by omega) (by omega) (by omega), kc 9 (by decide) (by decide), kc 10 (by decide) (by decide), row 22 (by omega) (by omega) (by omega), row 23 (by omega) (by omega) (by omega), row 24 (by omega) (by omega) (by omega)]; exact R6
    · intro p hp hk k hk'
      rw [row 5 (by omega) (by omega) (by omega)] at hk
      rw [row 25 (by omega) (by omega) (by omega)] at hk'
      rw [b5.2 11 p k (fun e => by omega) (fun e => by rw [hk] at e; exact absurd e.2.2 (by decide)), row 26 (by omega) (by omega) (by omega), row 27 (by omega) (by omega) (by omega), row 28 (by omega) (by omega) (by omega)]
      exact R7 p hp hk k hk'
    · rw [row 5 (by omega) (by omega) (by omega)] at hk
      by_cases hl : p ∈ l
      · exact ((ftd p hl hk).2.2 t ht).1
      · rw [b5.2 11 p t (fun e => by omega) (fun e => hl e.2.1), cl p t 29 hp hl ht (by omega), cl p t 30 hp hl ht (by omega), cl p t 31 hp hl ht (by omega)]
        exact ((R8 p hp hk).1 (clo p hp hl) t ht).1
    · unfold RKr at R10 ⊢; rw [b5.1, row 4 (by omega) (by omega) (by omega), row 5 (by omega) (by omega) (by omega), row 6 (by omega) (by omega) (by omega), row 7 (by omega) (by omega) (by omega), row 8 (by omega) (by omega) (by omega), row 11 (by omega) (by omega) (by omega)]; exact R10
    · unfold WFa at W1 ⊢; rw [s1, row 4 (by omega) (by omega) (by omega), row 5 (by omega) (by omega) (by omega)]; exact W1
    · unfold WFn at W2 ⊢; rw [s1, row 16 (by omega) (by omega) (by omega), row 17 (by omega) (by omega) (by omega), row 34 (by omega) (by omega) (by omega), row 35 (by omega) (by omega) (by omega), row 25 (by omega) (by omega) (by omega), row 23 (by omega) (by omega) (by omega), row 22 (by omega) (by omega) (by omega), row 20 (by omega) (by omega) (by omega), row 19 (by omega) (by omega) (by omega), row 11 (by omega) (by omega) (by omega)]; exact W2
    · rw [row 25 (by omega) (by omega) (by omega), row 26 (by omega) (by omega) (by omega), row 27 (by omega) (by omega) (by omega), row 28 (by omega) (by omega) (by omega)]; exact W3.1
    · rw [row 23 (by omega) (by omega) (by omega), row 24 (by omega) (by omega) (by omega)]; exact W3.2
    · rw [row 5 (by omega) (by omega) (by omega)] at hk
      by_cases hl : p ∈ l
      · obtain ⟨y1, y2, y3, y4, y5⟩ := (ftd p hl hk).2.2 t ht
        exact ⟨y2, y3, y4⟩
      · rw [cl p t 29 hp hl ht (by omega), cl p t 30 hp hl ht (by omega), cl p t 31 hp hl ht (by omega)]
        exact ((R8 p hp hk).1 (clo p hp hl) t ht).2
    · unfold WFq at W4 ⊢; rw [row 5 (by omega) (by omega) (by omega), row 21 (by omega) (by omega) (by omega)]; exact W4
    · have hnl : ¬ p ∈ l := fun q => by have := (pnN_le (lm p q).2.1).2; omega
      rw [fr k p (fun q => by rw [q] at hk; revert hk; decide) (fun q => hnl q.2) (fun q => by rcases q.1 with e | e | e <;> (rw [e] at hk; revert hk; decide))]
      exact (W5 p p1 p2).1 k hk
    · rw [row 21 (by omega) (by omega) (by omega)]; exact (W5 p p1 p2).2
    · unfold WFk at W6 ⊢; rw [row 4 (by omega) (by omega) (by omega), row 5 (by omega) (by omega) (by omega), row 9 (by omega) (by omega) (by omega), row 10 (by omega) (by omega) (by omega), row 11 (by omega) (by omega) (by omega)]; exact W6
    · unfold WFt; rw [s1, row 4 (by omega) (by omega) (by omega), row 5 (by omega) (by omega) (by omega), row 6 (by omega) (by omega) (by omega), row 7 (by omega) (by omega) (by omega), row 8 (by omega) (by omega) (by omega)]; exact Or.inr ⟨d, r, l, t1, t2, t3, t4, t5⟩
    · rw [s1]; exact W8
    · obtain ⟨o, o1, o2⟩ := rcp p hp
      obtain ⟨x1, x2, x3, x4⟩ := o2
      obtain ⟨y1, y2⟩ := o1
      rw [x1, x2, x3, x4, nI_toInt (by omega), nI_toInt (by omega), nI_toInt (by omega), nI_toInt (by omega)]
      omega
    · rw [s1, t1, ir]
      have gr : G r = (0, 0, W, V) := hG.1
      obtain ⟨x1, x2, x3, x4⟩ := rcl r hr.2.2.2.2
      rw [gr] at x1 x2 x3 x4
      exact ⟨x1, x2, by rw [x3, w2], by rw [x4, v2]⟩
    · rw [row 4 (by omega) (by omega) (by omega)] at ho
      rw [row 5 (by omega) (by omega) (by omega)] at hk
      rw [row 7 (by omega) (by omega) (by omega), row 8 (by omega) (by omega) (by omega)]
      have hl : p ∈ l := (t5 p hp).mp ho
      obtain ⟨f, s, q1, q2, q3, q4, q5, q6, q7, q8, -⟩ := sides_ok W1 (Or.inr ⟨d, r, l, t1, t2, t3, t4, t5⟩) hp ho hk
      have fl : f ∈ l := (t5 f q7).mp q5
      have sl : s ∈ l := (t5 s q8).mp q6
      have ef : fN S p = f := by unfold fN; rw [q1, ixn (by omega)]
      have es : sN S p = s := by unfold sN; rw [q2, ixn (by omega)]
      obtain ⟨y1, y2, y3⟩ := geo2 p hl hk x y
      rw [ef] at y1 y3
      rw [es] at y2 y3
      have iff : ∀ q, q ∈ l → (inR S' q x y ↔ inC (G q) x y) := by
        intro q hq
        obtain ⟨x1, x2, x3, x4⟩ := rcl q hq
        obtain ⟨z1, z2⟩ := geo1 q hq
        unfold inR inC
        rw [x1, x2, x3, x4, nI_toInt (by omega), nI_toInt (by omega), nI_toInt (by omega), nI_toInt (by omega)]
      rw [q1, q2, ixn (by omega), ixn (by omega), iff f fl, iff s sl, iff p hl]
      exact ⟨y1, y2, y3⟩
    · rw [row 4 (by omega) (by omega) (by omega)] at ho
      rw [row 5 (by omega) (by omega) (by omega)] at hk
      have hl : p ∈ l := (t5 p hp).mp ho
      obtain ⟨y1, y2, y3⟩ := ftd p hl hk
      obtain ⟨x1, x2, x3, x4⟩ := rcl p hl
      obtain ⟨z1, z2⟩ := gsz p hl
      refine ⟨by rw [y1, x3], by rw [y2, x4], fun cx cy d1 d2 d3 => ?_⟩
      rw [x3, x4, nI_toInt (by omega), nI_toInt (by omega)] at d3
      refine (y3 (60 * cy + cx) (by omega)).2.2.2.2 ?_
      rw [show (60 * cy + cx) % 60 = cx by omega, show (60 * cy + cx) / 60 = cy by omega]
      omega
    · rw [cO_list (a := a) l t3 (fun q hq => by have := pnN_le (lm q hq).2.1; omega)]
      refine cO_congr _ _ (fun p p1 p2 => ?_)
      have hp60 : p ≤ 60 := by omega
      by_cases hl : p ∈ l
      · have ho := (t5 p hp60).mpr hl
        obtain ⟨u0, u1, u3, u4, u5, u6, -⟩ := R3 p (lm p hl).2.1
        obtain ⟨x1, x2, x3, x4⟩ := rcl p hl
        simp only [hl, decide_true, Bool.true_and, opN, ho, decide_false, Bool.not_false, chg, chS, u3, u4, u5, u6, x1, x2, x3, x4]
      · have ho : S.2 4 p = 0 := Classical.byContradiction fun q => hl ((t5 p hp60).mp q)
        simp [hl, opN, ho]
end LA
