/-! ===== what changes at one pane that can be written to ===== -/
def KPF (K K' : KS) (P : Nat) : Prop := K'.2 = K.2 ∧ ∀ c p k, ¬ (c = 7 ∧ p = P ∧ (k = 9 ∨ k = 14 ∨ k = 15)) → ¬ (c = 11 ∧ p = P) → K'.1 c p k = K.1 c p k
def SPF (S S' : MS) (P : Nat) : Prop := S'.1 = S.1 ∧ ∀ k q, ¬ ((k = 18 ∨ k = 25 ∨ k = 34 ∨ k = 35) ∧ q = P) → ¬ ((k = 26 ∨ k = 27 ∨ k = 28) ∧ 400 * P ≤ q ∧ q < 400 * P + 400) → ¬ ((k = 29 ∨ k = 30 ∨ k = 31) ∧ 1440 * P ≤ q ∧ q < 1440 * P + 1440) → S'.2 k q = S.2 k q
theorem KPF.tr {K K' K'' : KS} {P : Nat} (H : KPF K K' P) (H' : KPF K' K'' P) : KPF K K'' P :=
  ⟨H'.1.trans H.1, fun c p k h1 h2 => (H'.2 c p k h1 h2).trans (H.2 c p k h1 h2)⟩
theorem SPF.tr {S S' S'' : MS} {P : Nat} (H : SPF S S' P) (H' : SPF S' S'' P) : SPF S S'' P :=
  ⟨H'.1.trans H.1, fun k q h1 h2 h3 => (H'.2 k q h1 h2 h3).trans (H.2 k q h1 h2 h3)⟩
theorem KXF.p {K K' : KS} {P : Nat} (H : KXF K K' P) : KPF K K' P := ⟨H.1, fun c p k h1 h2 => H.2 c p k (by omega) h2⟩
theorem SXF.p {S S' : MS} {P : Nat} (H : SXF S S' P) : SPF S S' P := ⟨H.1, fun k q h1 h2 _ => H.2 k q (by omega) h2⟩
theorem KGF.p {K K' : KS} {P : Nat} (H : KGF K K' P) : KPF K K' P := ⟨H.1, fun c p k h1 h2 => H.2 c p k (by omega) h2⟩
theorem SGF.p {S S' : MS} {P : Nat} (H : SGF S S' P) : SPF S S' P := ⟨H.1, fun k q h1 _ h2 => H.2 k q (by omega) h2⟩
theorem SPF.row {S S' : MS} {P : Nat} (H : SPF S S' P) (k : Nat) (h : ¬ (k = 18 ∨ k = 25 ∨ k = 34 ∨ k = 35 ∨ k = 26 ∨ k = 27 ∨ k = 28 ∨ k = 29 ∨ k = 30 ∨ k = 31)) : S'.2 k = S.2 k :=
  funext fun q => H.2 k q (by omega) (by omega) (by omega)
theorem KPF.cls {K K' : KS} {P : Nat} (H : KPF K K' P) (c : Nat) (h : ¬ (c = 7 ∨ c = 11)) : K'.1 c = K.1 c :=
  funext fun p => funext fun k => H.2 c p k (by omega) (by omega)
theorem KPF.keep {K K' : KS} {P : Nat} (H : KPF K K' P) : KEEP K K' :=
  ⟨H.cls 15 (by decide), H.cls 16 (by decide), H.cls 17 (by decide), by rw [H.1]⟩
def LOC (K : KS) (S : MS) (P j : Nat) : Prop :=
  K.1 7 P 9 = S.2 18 P ∧ bd (S.2 34 P) 99 ∧ bd (S.2 35 P) (99 + j) ∧ bd (S.2 25 P) 400 ∧
  (∀ k, k < ix (S.2 25 P) → okc (S.2 26 (400 * P + k)) ∧ bd (S.2 27 (400 * P + k)) 10 ∧ bd (S.2 28 (400 * P + k)) 999) ∧
  (S.2 5 P = 1 → K.1 7 P 14 = S.2 25 P ∧ ∀ k, k < ix (S.2 25 P) → K.1 11 P k = cellv (S.2 26 (400 * P + k)) (S.2 27 (400 * P + k)) (S.2 28 (400 * P + k))) ∧
  (S.2 5 P = 2 → (K.1 7 P 14 = S.2 34 P ∧ K.1 7 P 15 = S.2 35 P) ∧ (∀ k, k < 1440 → K.1 11 P k = cellv (S.2 29 (1440 * P + k)) (S.2 30 (1440 * P + k)) (S.2 31 (1440 * P + k)) ∧ sgn (S.2 29 (1440 * P + k)) ∧ bd (S.2 30 (1440 * P + k)) 10 ∧ bd (S.2 31 (1440 * P + k)) 999) ∧
    ∀ cx cy : Nat, cx < 60 → cy < 24 → ((S.2 14 P).toInt ≤ (cx : Int) ∨ (S.2 15 P).toInt ≤ (cy : Int)) → S.2 29 (1440 * P + (60 * cy + cx)) = 32 ∧ S.2 30 (1440 * P + (60 * cy + cx)) = 0 ∧ S.2 31 (1440 * P + (60 * cy + cx)) = 0)
section LOCS
variable {K K' : KS} {S S' : MS} {a P j j' : Nat} {ly : Nat → Bool}
theorem LOC.of (R : RK9 K S a ly) (W : WF S a j) (hp : pnN a P = true) (ho : ¬ S.2 4 P = 0) : LOC K S P j := by
  obtain ⟨p1, p2⟩ := pnN_le hp
  have ha := W.1.1
  obtain ⟨w1, w2, w3, w4, w5, -⟩ := W.2.1.1 P (by omega)
  obtain ⟨u0, u1, u3, u4, u5, u6, u7, u8, u9, u10⟩ := R.2.2.1 P hp
  obtain ⟨-, -, v2, v1⟩ := R.2.2.2.1 P hp
  refine ⟨u9, w3, w4, w5, fun k hk => W.2.2.1.1 P k (by omega) hk, fun q => ⟨v1 q, R.2.2.2.2.2.2.1 P hp q⟩, fun q => ⟨v2 q, fun k hk => ?_, (W.2.2.2.2.2.2.2.2 P (by omega) ho q).2.2⟩⟩
  exact ⟨R.2.2.2.2.2.2.2.1 P hp q k hk, W.2.2.1.2.2 P k hp q hk⟩
theorem RK9.loc (H : RK9 K S a ly) (W : WF S a j) (hp : pnN a P = true) (hK : KPF K K' P) (hS : SPF S S' P) (hL : LOC K' S' P j') : RK9 K' S' a ly := by
  obtain ⟨r1, r2, r3, r4, r5, r6, r7, r8, r9⟩ := H
  have s5 := hS.row 5 (by decide)
  have k7 : ∀ p k, ¬ (p = P ∧ (k = 9 ∨ k = 14 ∨ k = 15)) → K'.1 7 p k = K.1 7 p k := fun p k h => hK.2 7 p k (by omega) (by omega)
  have k11 : ∀ p k, ¬ p = P → K'.1 11 p k = K.1 11 p k := fun p k h => hK.2 11 p k (by omega) (by omega)
  have s' : ∀ k p, ¬ p = P → ¬ (26 ≤ k ∧ k ≤ 31) → S'.2 k p = S.2 k p := fun k p h1 h2 => hS.2 k p (by omega) (by omega) (by omega)
  obtain ⟨l1, l2, l3, l4, l5, l6, l7⟩ := hL
  rw [s5] at l6 l7
  have ha := W.1.1
  refine ⟨?_, ?_, fun p hp' => ?_, fun p hp' => ?_, ?_, ?_, fun p hp' hk' => ?_, fun p hp' hk' => ?_, ?_⟩
  · unfold RKs at r1 ⊢; rw [hK.1, s5]; exact r1
  · unfold RKt at r2 ⊢; rw [hK.1, hK.cls 1 (by decide), hS.1, hS.row 4 (by decide)]; exact r2
  · obtain ⟨u0, u1, u3, u4, u5, u6, u7, u8, u9, u10⟩ := r3 p hp'
    rw [k7 p 0 (by omega), k7 p 1 (by omega), k7 p 3 (by omega), k7 p 4 (by omega), k7 p 5 (by omega), k7 p 6 (by omega), k7 p 7 (by omega), k7 p 8 (by omega), k7 p 10 (by omega), s5, hS.row 12 (by decide), hS.row 13 (by decide), hS.row 14 (by decide), hS.row 15 (by decide), hS.row 16 (by decide), hS.row 17 (by decide), hS.row 19 (by decide)]
    refine ⟨u0, u1, u3, u4, u5, u6, u7, u8, ?_, u10⟩
    by_cases e : p = P
    · rw [e]; exact l1
    · rw [k7 p 9 (by omega), s' 18 p e (by omega)]; exact u9
  · obtain ⟨v4, v3, v2, v1⟩ := r4 p hp'
    rw [s5, k7 p 11 (by omega), k7 p 12 (by omega), hS.row 9 (by decide), hS.row 10 (by decide), hS.row 20 (by decide)]
    refine ⟨v4, v3, fun q => ?_, fun q => ?_⟩
    · by_cases e : p = P
      · subst e; exact (l7 q).1
      · rw [k7 p 14 (by omega), k7 p 15 (by omega), s' 34 p e (by omega), s' 35 p e (by omega)]; exact v2 q
    · by_cases e : p = P
      · subst e; exact (l6 q).1
      · rw [k7 p 14 (by omega), s' 25 p e (by omega)]; exact v1 q
  · unfold RKa at r5 ⊢; rw [s5, hK.cls 8 (by decide), hS.row 21 (by decide)]; exact r5
  · unfold RKl at r6 ⊢; rw [s5, hK.cls 9 (by decide), hK.cls 10 (by decide), hS.row 22 (by decide), hS.row 23 (by decide), hS.row 24 (by decide)]; exact r6
  · rw [s5] at hk'
    by_cases e : p = P
    · subst e; exact (l6 hk').2
    · intro k hk
      rw [s' 25 p e (by omega)] at hk
      obtain ⟨-, -, -, -, w5, -⟩ := W.2.1.1 p (by have := (pnN_le hp').2; omega)
      have := i32_ix w5.1
      have := w5.2
      rw [k11 p k e, hS.2 26 (400 * p + k) (by omega) (by omega) (by omega), hS.2 27 (400 * p + k) (by omega) (by omega) (by omega), hS.2 28 (400 * p + k) (by omega) (by omega) (by omega)]
      exact r7 p hp' hk' k hk
  · rw [s5] at hk'
    by_cases e : p = P
    · subst e; exact fun k hk => ((l7 hk').2.1 k hk).1
    · intro k hk
      rw [k11 p k e, hS.2 29 (1440 * p + k) (by omega) (by omega) (by omega), hS.2 30 (1440 * p + k) (by omega) (by omega) (by omega), hS.2 31 (1440 * p + k) (by omega) (by omega) (by omega)]
      exact r8 p hp' hk' k hk
  · unfold RKr at r9 ⊢; rw [hK.1, s5, hS.row 4 (by decide), hS.row 6 (by decide), hS.row 7 (by decide), hS.row 8 (by decide), hS.row 11 (by decide)]; exact r9
theorem WF.loc (H : WF S a j) (hp : pnN a P = true) (hS : SPF S S' P) (hL : LOC K' S' P j') (hj : j ≤ j') : WF S' a j' := by
  have H := H.mono hj
  have s5 := hS.row 5 (by decide)
  have s' : ∀ k p, ¬ p = P → ¬ (26 ≤ k ∧ k ≤ 31) → S'.2 k p = S.2 k p := fun k p h1 h2 => hS.2 k p (by omega) (by omega) (by omega)
  obtain ⟨l1, l2, l3, l4, l5, l6, l7⟩ := hL
  rw [s5] at l6 l7
  have hPa := (pnN_le hp).2
  obtain ⟨w1, w2, w3, w4, w5, w6, w7, w8, w9⟩ := H
  have ha := w1.1
  refine ⟨?_, ⟨fun p hp' => ?_, ?_, ?_, ?_⟩, ⟨fun p k hp' hk => ?_, ?_, fun p k hp' hk' hk => ?_⟩, ?_, fun p h1 h2 => ⟨fun k hk => ?_, ?_⟩, ?_, ?_, ?_, fun p hp' ho hk' => ?_⟩
  · unfold WFa at w1 ⊢; rw [hS.1, s5, hS.row 4 (by decide)]; exact w1
  · rw [hS.row 16 (by decide), hS.row 17 (by decide), hS.row 23 (by decide), hS.row 22 (by decide), hS.row 20 (by decide)]
    obtain ⟨u1, u2, u3, u4, u5, u6⟩ := w2.1 p hp'
    by_cases e : p = P
    · subst e; exact ⟨u1, u2, l2, l3, l4, u6⟩
    · rw [s' 34 p e (by omega), s' 35 p e (by omega), s' 25 p e (by omega)]; exact ⟨u1, u2, u3, u4, u5, u6⟩
  · rw [hS.row 19 (by decide), hS.row 11 (by decide)]; exact w2.2.1
  · rw [hS.1]; exact w2.2.2.1
  · rw [hS.1]; exact w2.2.2.2
  · by_cases e : p = P
    · subst e; exact l5 k hk
    · rw [s' 25 p e (by omega)] at hk
      obtain ⟨-, -, -, -, u5, -⟩ := w2.1 p hp'
      have := i32_ix u5.1
      have := u5.2
      rw [hS.2 26 (400 * p + k) (by omega) (by omega) (by omega), hS.2 27 (400 * p + k) (by omega) (by omega) (by omega), hS.2 28 (400 * p + k) (by omega) (by omega) (by omega)]
      exact w3.1 p k hp' hk
  · rw [hS.row 23 (by decide), hS.row 24 (by decide)]; exact w3.2.1
  · rw [s5] at hk'
    by_cases e : p = P
    · subst e; exact ((l7 hk').2.1 k hk).2
    · rw [hS.2 29 (1440 * p + k) (by omega) (by omega) (by omega), hS.2 30 (1440 * p + k) (by omega) (by omega) (by omega), hS.2 31 (1440 * p + k) (by omega) (by omega) (by omega)]
      exact w3.2.2 p k hp' hk' hk
  · unfold WFq at w4 ⊢; rw [s5, hS.row 21 (by decide)]; exact w4
  · rw [hS.2 k p (by omega) (fun q => by rcases q.1 with e | e | e <;> (rw [e] at hk; revert hk; decide)) (fun q => by rcases q.1 with e | e | e <;> (rw [e] at hk; revert hk; decide))]
    exact (w5 p h1 h2).1 k hk
  · rw [hS.row 21 (by decide)]; exact (w5 p h1 h2).2
  · unfold WFk at w6 ⊢; rw [s5, hS.row 4 (by decide), hS.row 9 (by decide), hS.row 10 (by decide), hS.row 11 (by decide)]; exact w6
  · unfold WFt at w7 ⊢; rw [hS.1, s5, hS.row 4 (by decide), hS.row 6 (by decide), hS.row 7 (by decide), hS.row 8 (by decide)]; exact w7
  · unfold WFr inR at w8 ⊢; rw [hS.1, s5, hS.row 4 (by decide), hS.row 7 (by decide), hS.row 8 (by decide), hS.row 12 (by decide), hS.row 13 (by decide), hS.row 14 (by decide), hS.row 15 (by decide)]; exact w8
  · rw [s5] at hk'
    rw [hS.row 4 (by decide)] at ho
    rw [hS.row 32 (by decide), hS.row 33 (by decide), hS.row 14 (by decide), hS.row 15 (by decide)]
    obtain ⟨g1, g2, g3⟩ := w9 p hp' ho hk'
    refine ⟨g1, g2, fun cx cy h1 h2 h3 => ?_⟩
    by_cases e : p = P
    · subst e; exact (l7 hk').2.2 cx cy h1 h2 (by rw [hS.row 14 (by decide), hS.row 15 (by decide)]; exact h3)
    · rw [hS.2 29 (1440 * p + (60 * cy + cx)) (by omega) (by omega) (by omega), hS.2 30 (1440 * p + (60 * cy + cx)) (by omega) (by omega) (by omega), hS.2 31 (1440 * p + (60 * cy + cx)) (by omega) (by omega) (by omega)]
      exact g3 cx cy h1 h2 h3
/-- out of the text P, or the grid P -/
theorem LOC.text {t : Nat} (H : LOC K S P j) (hk : S.2 5 P = 1) (hX : TXt K' S' P t) (hS : SXF S S' P) (h9 : K'.1 7 P 9 = S'.2 18 P) : LOC K' S' P j := by
  obtain ⟨l1, l2, l3, l4, l5, l6, l7⟩ := H
  obtain ⟨x1, x2, x3, x4⟩ := hX
  have it : ix (S'.2 25 P) = t := by rw [x2, ixn (by omega)]
  have s5 : S'.2 5 P = S.2 5 P := hS.2 5 P (by omega) (by omega)
  refine ⟨h9, ?_, ?_, ?_, ?_, fun _ => ⟨by rw [x1, x2], ?_⟩, fun q => ?_⟩
  · rw [hS.2 34 P (by omega) (by omega)]; exact l2
  · rw [hS.2 35 P (by omega) (by omega)]; exact l3
  · rw [x2]; unfold bd; rw [nI_toInt (by omega)]; omega
  · rw [it]; exact fun k hk => (x4 k hk).2
  · rw [it]; exact fun k hk => (x4 k hk).1
  · rw [s5, hk] at q; exact absurd q (by decide)
theorem LOC.grid {w v cx cy : Nat} (H : LOC K S P j) (hk : S.2 5 P = 2) (hX : GRt K' S' P w v cx cy) (hS : SGF S S' P) (h9 : K'.1 7 P 9 = S'.2 18 P) (hx : cx ≤ 99) (hy : cy ≤ 99 + j') (hj : j' < 100000) : LOC K' S' P j' := by
  obtain ⟨l1, l2, l3, l4, l5, l6, l7⟩ := H
  obtain ⟨⟨x1, x2, x3, x4, x5, x6, x7, x8⟩, x9, x10, x11, x12⟩ := hX
  have s5 : S'.2 5 P = S.2 5 P := hS.2 5 P (by omega) (by omega)
  have s25 : S'.2 25 P = S.2 25 P := hS.2 25 P (by omega) (by omega)
  refine ⟨h9, ?_, ?_, by rw [s25]; exact l4, ?_, fun q => ?_, fun _ => ⟨⟨by rw [x9, x10], by rw [x11, x12]⟩, x7, fun x y d1 d2 d3 => ?_⟩⟩
  · rw [x10]; unfold bd; rw [nI_toInt (by omega)]; omega
  · rw [x12]; unfold bd; rw [nI_toInt (by omega)]; omega
  · rw [s25]
    intro k hk'
    rw [hS.2 26 _ (by omega) (by omega), hS.2 27 _ (by omega) (by omega), hS.2 28 _ (by omega) (by omega)]
    exact l5 k hk'
  · rw [s5, hk] at q; exact absurd q (by decide)
  · rw [x3, x4, nI_toInt (by omega), nI_toInt (by omega)] at d3
    exact x8 x y d1 d2 (by omega)
theorem LOC.txt (H : LOC K S P j) (hk : S.2 5 P = 1) : ∃ t, TXt K S P t := by
  obtain ⟨l1, l2, l3, l4, l5, l6, l7⟩ := H
  obtain ⟨t, h1, h2⟩ := bd_n l4
  have it : ix (S.2 25 P) = t := by rw [h2, ixn (by omega)]
  rw [it] at l5 l6
  exact ⟨t, by rw [(l6 hk).1, h2], h2, h1, fun k hk' => ⟨(l6 hk).2 k hk', l5 k hk'⟩⟩
theorem LOC.grd (H : LOC K S P j) (hk : S.2 5 P = 2) (hR : RKp K S a) (hW : WFr S) (hp : pnN a P = true) (hP : P ≤ 60) : ∃ w v cx cy, GRt K S P w v cx cy ∧ cx ≤ 99 ∧ cy ≤ 99 + j := by
  obtain ⟨l1, l2, l3, l4, l5, l6, l7⟩ := H
  obtain ⟨cx, c1, c2⟩ := bd_n l2
  obtain ⟨cy, d1, d2⟩ := bd_n l3
  obtain ⟨-, -, -, -, u5, u6, -⟩ := hR P hp
  obtain ⟨z1, z2, z3, z4, z5, z6⟩ := hW.2.1 P hP
  have bw : bd (S.2 14 P) 60 := ⟨z3, by omega⟩
  have bv : bd (S.2 15 P) 24 := ⟨z4, by omega⟩
  obtain ⟨w, w1, w2⟩ := bd_n bw
  obtain ⟨v, v1, v2⟩ := bd_n bv
  obtain ⟨⟨m1, m2⟩, m3, m4⟩ := l7 hk
  refine ⟨w, v, cx, cy, ⟨⟨by rw [u5, w2], by rw [u6, v2], w2, v2, w1, v1, m3, fun x y e1 e2 e3 => m4 x y e1 e2 ?_⟩, by rw [m1, c2], c2, by rw [m2, d2], d2⟩, c1, d1⟩
  rw [w2, v2, nI_toInt (by omega), nI_toInt (by omega)]
  omega
end LOCS
