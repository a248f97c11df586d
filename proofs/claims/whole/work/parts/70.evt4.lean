/-! ===== all but the events; what events leave alone ===== -/
def RK9 (K : KS) (S : MS) (a : Nat) (ly : Nat → Bool) : Prop :=
  RKs K a (S.2 5) ∧ RKt K S ∧ RKp K S a ∧ RKk K S a ∧ RKa K S a ∧ RKl K S a ly ∧ RKx K S a ∧ RKg K S a ∧ RKr K S a
theorem RK.nine {K : KS} {S : MS} {a e : Nat} {ly : Nat → Bool} (H : RK K S a e ly) : RK9 K S a ly :=
  ⟨H.1, H.2.1, H.2.2.1, H.2.2.2.1, H.2.2.2.2.1, H.2.2.2.2.2.1, H.2.2.2.2.2.2.1, H.2.2.2.2.2.2.2.1, H.2.2.2.2.2.2.2.2.2⟩
theorem RK9.with {K : KS} {S : MS} {a e : Nat} {ly : Nat → Bool} (H : RK9 K S a ly) (hE : RKe K S e) : RK K S a e ly :=
  ⟨H.1, H.2.1, H.2.2.1, H.2.2.2.1, H.2.2.2.2.1, H.2.2.2.2.2.1, H.2.2.2.2.2.2.1, H.2.2.2.2.2.2.2.1, hE, H.2.2.2.2.2.2.2.2⟩
/-- K' is K but for the events -/
def EVF (K K' : KS) : Prop := (∀ c, ¬ c = 2 → ¬ c = 6 → K'.1 c = K.1 c) ∧ K'.2 = K.2
/-- S' is S but for the events -/
def EVS (S S' : MS) : Prop := (∀ k, ¬ k = 41 → ¬ k = 42 → S'.1 k = S.1 k) ∧ ∀ k, ¬ k = 43 → S'.2 k = S.2 k
theorem EVF.keep {K K' : KS} (H : EVF K K') : KEEP K K' :=
  ⟨H.1 15 (by decide) (by decide), H.1 16 (by decide) (by decide), H.1 17 (by decide) (by decide), by rw [H.2]⟩
theorem KEEP.tr {K K' K'' : KS} (H : KEEP K K') (H' : KEEP K' K'') : KEEP K K'' :=
  ⟨H'.1.trans H.1, H'.2.1.trans H.2.1, H'.2.2.1.trans H.2.2.1, H'.2.2.2.trans H.2.2.2⟩
theorem RK9.ev {K K' : KS} {S S' : MS} {a : Nat} {ly : Nat → Bool} (H : RK9 K S a ly) (hK : EVF K K') (hS : EVS S S') : RK9 K' S' a ly := by
  obtain ⟨k1, k2⟩ := hK
  obtain ⟨s1, s2⟩ := hS
  have a1 := k1 1 (by decide) (by decide)
  have a7 := k1 7 (by decide) (by decide)
  have a8 := k1 8 (by decide) (by decide)
  have a9 := k1 9 (by decide) (by decide)
  have a10 := k1 10 (by decide) (by decide)
  have a11 := k1 11 (by decide) (by decide)
  have b0 := s1 0 (by decide) (by decide)
  have b1 := s1 1 (by decide) (by decide)
  have b2 := s1 2 (by decide) (by decide)
  have b3 := s1 3 (by decide) (by decide)
  simp only [RK9, RKs, RKt, RKp, RKk, RKa, RKl, RKx, RKg, RKr, k2, a1, a7, a8, a9, a10, a11, b0, b1, b2, b3, s2 4 (by decide), s2 5 (by decide), s2 6 (by decide), s2 7 (by decide), s2 8 (by decide), s2 9 (by decide), s2 10 (by decide), s2 11 (by decide), s2 12 (by decide), s2 13 (by decide), s2 14 (by decide), s2 15 (by decide), s2 16 (by decide), s2 17 (by decide), s2 18 (by decide), s2 19 (by decide), s2 20 (by decide), s2 21 (by decide), s2 22 (by decide), s2 23 (by decide), s2 24 (by decide), s2 25 (by decide), s2 26 (by decide), s2 27 (by decide), s2 28 (by decide), s2 29 (by decide), s2 30 (by decide), s2 31 (by decide), s2 32 (by decide), s2 33 (by decide), s2 34 (by decide), s2 35 (by decide)] at H ⊢
  exact H
theorem WF.ev {S S' : MS} {a j : Nat} (H : WF S a j) (hS : EVS S S') (h1 : bd (S'.1 41) 20) (h2 : S'.1 42 = 0 ∨ S'.1 42 = 1) : WF S' a j := by
  obtain ⟨s1, s2⟩ := hS
  have b0 := s1 0 (by decide) (by decide)
  have b1 := s1 1 (by decide) (by decide)
  have b2 := s1 2 (by decide) (by decide)
  have b3 := s1 3 (by decide) (by decide)
  have z : WFz S' a := by
    intro p hp hq
    refine ⟨fun k hk => ?_, fun k hk => ?_⟩
    · rw [s2 k (fun q => by rw [q] at hk; revert hk; decide)]; exact (H.2.2.2.2.1 p hp hq).1 k hk
    · rw [s2 21 (by decide)]; exact (H.2.2.2.2.1 p hp hq).2 k hk
  obtain ⟨w1, w2, w3, w4, w5, w6, w7, w8, w9⟩ := H
  refine ⟨?_, ⟨?_, ?_, h1, h2⟩, ?_, ?_, z, ?_, ?_, ?_, ?_⟩
  all_goals simp only [WFa, WFn, WFc, WFq, WFk, WFt, WFr, WFg, inR, b0, b1, b2, b3, s2 4 (by decide), s2 5 (by decide), s2 6 (by decide), s2 7 (by decide), s2 8 (by decide), s2 9 (by decide), s2 10 (by decide), s2 11 (by decide), s2 12 (by decide), s2 13 (by decide), s2 14 (by decide), s2 15 (by decide), s2 16 (by decide), s2 17 (by decide), s2 18 (by decide), s2 19 (by decide), s2 20 (by decide), s2 21 (by decide), s2 22 (by decide), s2 23 (by decide), s2 24 (by decide), s2 25 (by decide), s2 26 (by decide), s2 27 (by decide), s2 28 (by decide), s2 29 (by decide), s2 30 (by decide), s2 31 (by decide), s2 32 (by decide), s2 33 (by decide), s2 34 (by decide), s2 35 (by decide)]
  · exact w1
  · exact w2.1
  · exact w2.2.1
  · exact w3
  · exact w4
  · exact w6
  · exact w7
  · exact w8
  · exact w9
theorem EVS.of {S : MS} {m : Nat} {x1 x2 x3 x4 : Int32} {P : Nat} : EVS S (evS S m x1 x2 x3 x4 P) := by
  unfold evS
  split
  · refine ⟨fun k h1 h2 => ?_, fun k h1 => ?_⟩
    · show (if k = 41 then _ else (if k = 41 then _ else S.1 k)) = _
      rw [if_neg h1, if_neg h1]
    · funext q
      show (if k = 43 then _ else (if k = 43 then _ else S.2 k q)) = _
      rw [if_neg h1, if_neg h1]
  · refine ⟨fun k h1 h2 => ?_, fun k h1 => ?_⟩
    · show (if k = 41 then _ else S.1 k) = _
      rw [if_neg h1]
    · funext q
      show (if k = 43 then _ else S.2 k q) = _
      rw [if_neg h1]
theorem evS_bd {S : MS} {m : Nat} {x1 x2 x3 x4 : Int32} {P : Nat} (hm : m ≤ 20) : bd ((evS S m x1 x2 x3 x4 P).1 41) 20 := by
  unfold evS
  split
  · show bd (nI (19 + 1)) 20
    decide
  · show bd (nI (m + 1)) 20
    unfold bd
    rw [nI_toInt (by omega)]
    omega
theorem evS_42 {S : MS} {m : Nat} {x1 x2 x3 x4 : Int32} {P : Nat} : (evS S m x1 x2 x3 x4 P).1 42 = S.1 42 := by
  unfold evS
  split <;> rfl
theorem KS.ext' {K K' : KS} (h1 : ∀ c p k, K.1 c p k = K'.1 c p k) (h2 : K.2 = K'.2) : K = K' :=
  Prod.ext (funext fun c => funext fun p => funext fun k => h1 c p k) h2
theorem fc_ev {S : MS} {x1 x2 x3 x4 : Int32} {P : Nat} {g : Nat → Int32} {k : Nat} (hk : k < 44) (h1 : ¬ x1 = 1) : fc4 x1 x2 x3 x4 g k = evf S x1 x2 x3 x4 P k := by
  unfold fc4 evf fcS
  by_cases c0 : k = 0
  · subst c0; rfl
  by_cases c1 : k = 1
  · subst c1; rfl
  by_cases c2 : k = 2
  · subst c2; rfl
  by_cases c3 : k = 3
  · subst c3; rfl
  rw [if_neg c3, if_neg c2, if_neg c1, if_neg c0, if_pos hk, if_neg c0, if_neg c1, if_neg c2, if_neg c3, if_neg (fun q => h1 q.1)]
theorem EVF.ig {K : KS} {k r : Nat} {x : Int32} {φ : Nat → Int32} : EVF K ((K.i 2 0 k x).g 6 r φ) := by
  refine ⟨fun c h1 h2 => ?_, rfl⟩
  funext p q
  rw [KS.g_1, if_neg (fun e => h2 e.1), KS.i_1, if_neg (fun e => h1 e.1)]
theorem EVF.i {K : KS} {k : Nat} {x : Int32} : EVF K (K.i 2 0 k x) := by
  refine ⟨fun c h1 h2 => ?_, rfl⟩
  funext p q
  rw [KS.i_1, if_neg (fun e => h1 e.1)]
theorem EVF.tr {K K' K'' : KS} (H : EVF K K') (H' : EVF K' K'') : EVF K K'' :=
  ⟨fun c h1 h2 => (H'.1 c h1 h2).trans (H.1 c h1 h2), H'.2.trans H.2⟩
section EVA
variable {h : gHp} {A : Nat → Nat → Nat} {ρ : Nat → Nat × Nat} {L a m e n : Nat} {K : KS} {kd : Nat → Int32}
/-- an event of the class, against the reference's at any state with the same events -/
theorem ev_add (H : Hrep h A ρ (cT L a kd) K) (hS : RKs K a kd) (k4 : K.1 2 0 4 = nI m) (k3 : K.1 2 0 3 = nI e) (he : e < 20) (hm : m ≤ 20) (hn : 100 ≤ n) (x1 x2 x3 x4 : Int32) (h1 : ¬ x1 = 1) : ∃ h' K' e', f_Events_add n h (A 2 0) x1 x2 x3 x4 = some h' ∧ Hrep h' A ρ (cT L a kd) K' ∧ EVF K K' ∧ ∀ S P, RKe K S e → S.1 41 = nI m → RKe K' (evS S m x1 x2 x3 x4 P) e' := by
  obtain ⟨f1, f2, f3, f4, f5, f6, f7⟩ := ev_facts (S := (fun _ => 0, fun _ _ => 0)) H hS
  have t2 : cT L a kd 2 0 = some (0, 5) := rfl
  have q := e_next H hS n hm k4 k3 he
  by_cases c : m = 20
  · subst c
    rw [if_pos rfl] at q
    have H' := ((H.i t2 3 (nI ((e + 1) % 20))).i t2 4 (nI 19)).i t2 4 (nI 20)
    obtain ⟨h', g1, g2⟩ := e_facts H' hn (show ((e + 1) % 20 + 19) % 20 < 20 by omega) x1 x2 x3 x4
    refine ⟨h', _, (e + 1) % 20, ?_, g2, (EVF.i.tr EVF.i).tr EVF.ig, fun S P hE hm' => ?_⟩
    · unfold f_Events_add
      simp only [f1, gt0', cond_true, q, Option.bind_some, g1]
    · have d := hE.drop hm' (by omega) (by omega)
      have d2 := d.add (m := 19) (ψ := evf (dpS S 20) x1 x2 x3 x4 P) (φ := fc4 x1 x2 x3 x4 (K.1 6 (((e + 1) % 20 + 19) % 20))) rfl (by omega) (fun k hk => fc_ev hk h1)
      unfold evS
      rw [if_pos rfl]
      exact d2
  · rw [if_neg c] at q
    have H' := H.i t2 4 (nI (m + 1))
    obtain ⟨h', g1, g2⟩ := e_facts H' hn (show (e + m) % 20 < 20 by omega) x1 x2 x3 x4
    refine ⟨h', _, e, ?_, g2, EVF.ig, fun S P hE hm' => ?_⟩
    · unfold f_Events_add
      simp only [f1, gt0', cond_true, q, Option.bind_some, g1]
    · have d2 := hE.add (m := m) (ψ := evf S x1 x2 x3 x4 P) (φ := fc4 x1 x2 x3 x4 (K.1 6 ((e + m) % 20))) hm' (by omega) (fun k hk => fc_ev hk h1)
      unfold evS
      rw [if_neg c]
      exact d2
end EVA
/-! ===== a line's signs ===== -/
section LN
variable {A : Nat → Nat → Nat} {ρ : Nat → Nat × Nat} {L a P t : Nat} {kd : Nat → Int32}
theorem gtl : gtin (some (2, 3)) [2] = true := rfl
theorem gtl' : gtis (some (2, 3)) 2 = true := rfl
theorem blk20 (M : Nat) : (Nat.ble 20 20 && Nat.ble 20 24) = true := rfl
theorem ln_facts {h : gHp} {K : KS} (H : Hrep h A ρ (cT L a kd) K) (hS : RKs K a kd) (hp : pnN a P = true) (hw : wrK (kd P) = true) : gref h (A 7 P) 12 = some (A 9 P) ∧ gtag h (A 9 P) = some (2, 3) ∧ gref h (A 9 P) 0 = some (A 10 P) ∧ gtag h (A 10 P) = some (20, 40) := by
  obtain ⟨r1, r2, r3, r4⟩ := hS.2.2.2.2.2.2.1 P hp hw
  exact ⟨by rw [H.ref (cT7 hp), r2]; rfl, H.tag (cT9 hp hw), by rw [H.ref (cT9 hp hw), r4]; rfl, H.tag (cT10 hp hw)⟩
theorem e_cellOf {h : gHp} {K : KS} (H : Hrep h A ρ (cT L a kd) K) (hS : RKs K a kd) (hp : pnN a P = true) (hw : wrK (kd P) = true) (n : Nat) (ht : K.1 9 P 2 = nI t) (h40 : t ≤ 40) {i : Nat} (hi : i < 2 ^ 31) : f_Line_cellOf n h (A 9 P) (nI i) = some (if i < t then K.1 10 P i else 32, h) := by
  obtain ⟨-, g9, r0, g10⟩ := ln_facts H hS hp hw
  have i2 : gint h (A 9 P) 2 = nI t := by rw [H.int (cT9 hp hw), ht]
  unfold f_Line_cellOf
  rw [if_neg (nI_pos hi)]
  by_cases c : i < t
  · have e1 : ¬ nI t ≤ nI i := nI_ge c (by omega)
    have e2 : ¬ Int32.ofNat 40 ≤ nI i := nI_ge (a := i) (b := 40) (by omega) (by decide)
    have e3 : gArr (some (20, 40)) 20 (nI i) = true := gArr_n (by omega) (by decide)
    simp only [g9, gtl, cond_true, i2, e1, e2, e3, if_false, reduceIte, Option.bind_some, r0, g10, blk20 40, ixn hi, H.int (cT10 hp hw), if_pos c]
  · have e1 : nI t ≤ nI i := nI_le (by omega) hi
    simp only [g9, gtl, cond_true, i2, e1, if_true, reduceIte, if_neg c]
theorem e_addLineB {r : Nat} {σ : Nat → Int32} (hp : pnN a P = true) (hw : wrK (kd P) = true) (hr : r < 20) (h40 : t ≤ 40) (hσ : ∀ k, k < t → bd (σ k) 127) : ∀ (n : Nat) (h : gHp) (K : KS) (i : Nat), Hrep h A ρ (cT L a kd) K → RKs K a kd → K.1 9 P 2 = nI t → (∀ k, k < t → K.1 10 P k = cellv (σ k) 8 0) → i ≤ t → t - i < n → ∃ h', f_Events_addLine_B19 (A 2 0) n h (some (A 9 P)) (some (A 6 r)) (nI i) = some h' ∧ Hrep h' A ρ (cT L a kd) (K.g 6 r (fun k => if 4 + i ≤ k ∧ k < 4 + t then σ (k - 4) else K.1 6 r k)) := by
  intro n
  induction n with
  | zero => intro h K i H hS k2 kc h1 h2; omega
  | succ n ih =>
    intro h K i H hS k2 kc h1 h2
    obtain ⟨-, g9, r0, g10⟩ := ln_facts H hS hp hw
    have g6 := H.tag (cT6 (L := L) (a := a) (kd := kd) hr)
    have i2 : gint h (A 9 P) 2 = nI t := by rw [H.int (cT9 hp hw), k2]
    unfold f_Events_addLine_B19
    by_cases c : t ≤ i
    · refine ⟨h, ?_, ?_⟩
      · simp only [Option.bind_some, g9, gtl, cond_true, i2, if_pos (nI_le c (by omega))]
      · have e1 : K.g 6 r (fun k => if 4 + i ≤ k ∧ k < 4 + t then σ (k - 4) else K.1 6 r k) = K := by
          refine KS.ext' (fun c' p' k' => ?_) rfl
          rw [KS.g_1]
          split
          · rename_i q; rw [if_neg (by omega), q.1, q.2]
          · rfl
        rw [e1]; exact H
    · have e1 : ¬ nI t ≤ nI i := nI_ge (by omega) (by omega)
      have e4 : (4 : Int32) + nI i = nI (4 + i) := nI_add 4 i
      have e2 : ¬ Int32.ofNat 44 ≤ nI (4 + i) := nI_ge (a := 4 + i) (b := 44) (by omega) (by decide)
      have e3 : gArr (some (20, 44)) 20 (nI (4 + i)) = true := gArr_n (by omega) (by decide)
      have e5 := e_cellOf H hS hp hw n k2 h40 (show i < 2 ^ 31 by omega)
      rw [if_pos (by omega), kc i (by omega)] at e5
      have e6 := e_signOf n h (hσ i (by omega)) (show bd 8 10 by decide) (show bd 0 999 by decide)
      obtain ⟨h', g1, g2⟩ := ih (gsetI h (A 6 r) (4 + i) (σ i)) (K.i 6 r (4 + i) (σ i)) (i + 1) (H.i (cT6 hr) (4 + i) (σ i)) hS k2 kc (by omega) (by omega)
      refine ⟨h', ?_, ?_⟩
      · simp only [Option.bind_some, g9, gtl, gtl', cond_true, i2, e1, if_false, reduceIte, g6, blk20 44, e4, e2, e5, e6, e3, ixn (show 4 + i < 2 ^ 31 by omega), nI_1, g1]
      · have e7 : (K.i 6 r (4 + i) (σ i)).g 6 r (fun k => if 4 + (i + 1) ≤ k ∧ k < 4 + t then σ (k - 4) else (K.i 6 r (4 + i) (σ i)).1 6 r k) = K.g 6 r (fun k => if 4 + i ≤ k ∧ k < 4 + t then σ (k - 4) else K.1 6 r k) := by
          refine KS.ext' (fun c' p' k' => ?_) rfl
          rw [KS.g_1, KS.g_1]
          split
          · by_cases q1 : 4 + (i + 1) ≤ k' ∧ k' < 4 + t
            · rw [if_pos q1, if_pos (by omega)]
            · rw [if_neg q1, KS.i_1]
              by_cases q2 : k' = 4 + i
              · rw [if_pos ⟨rfl, rfl, q2⟩, if_pos (by omega), show k' - 4 = i by omega]
              · rw [if_neg (fun q => q2 q.2.2), if_neg (by omega)]
          · rename_i q
            rw [KS.i_1, if_neg (fun q' => q ⟨q'.1, q'.2.1⟩)]
        rw [e7] at g2
        exact g2
theorem fcl_ev {S : MS} {x2 x3 x4 : Int32} {g σ : Nat → Int32} {k : Nat} (hk : k < 44) (hx : ix x3 = t) (h40 : t ≤ 40) (hσ : ∀ k, k < t → σ k = S.2 24 (40 * P + k)) : (if 4 + 0 ≤ k ∧ k < 4 + t then σ (k - 4) else fc4 1 x2 x3 x4 g k) = evf S 1 x2 x3 x4 P k := by
  unfold fc4 evf fcS
  by_cases c0 : k = 0
  · subst c0; rfl
  by_cases c1 : k = 1
  · subst c1; rfl
  by_cases c2 : k = 2
  · subst c2; rfl
  by_cases c3 : k = 3
  · subst c3; rfl
  rw [if_neg c3, if_neg c2, if_neg c1, if_neg c0, if_pos hk, if_neg c0, if_neg c1, if_neg c2, if_neg c3]
  by_cases c4 : 4 + 0 ≤ k ∧ k < 4 + t
  · rw [if_pos c4, if_pos ⟨rfl, by omega⟩]
    exact hσ (k - 4) (by omega)
  · rw [if_neg c4, if_neg (by omega)]
theorem gg_6 {K : KS} {r : Nat} {φ ψ : Nat → Int32} : (K.g 6 r φ).g 6 r ψ = K.g 6 r ψ := by
  refine KS.ext' (fun c' p' k' => ?_) rfl
  rw [KS.g_1, KS.g_1, KS.g_1]
  split <;> rfl
/-- the event of a line -/
theorem ev_addLine {h : gHp} {K : KS} {m e n : Nat} {σ : Nat → Int32} (H : Hrep h A ρ (cT L a kd) K) (hS : RKs K a kd) (hp : pnN a P = true) (hw : wrK (kd P) = true) (h40 : t ≤ 40) (k2 : K.1 9 P 2 = nI t) (kc : ∀ k, k < t → K.1 10 P k = cellv (σ k) 8 0) (hσ : ∀ k, k < t → bd (σ k) 127) (k4 : K.1 2 0 4 = nI m) (k3 : K.1 2 0 3 = nI e) (he : e < 20) (hm : m ≤ 20) (hn : 100 ≤ n) (x2 : Int32) : ∃ h' K' e', f_Events_addLine n h (A 2 0) x2 (some (A 9 P)) = some h' ∧ Hrep h' A ρ (cT L a kd) K' ∧ EVF K K' ∧ ∀ S, RKe K S e → S.1 41 = nI m → (∀ k, k < t → σ k = S.2 24 (40 * P + k)) → RKe K' (evS S m 1 x2 (nI t) 0 P) e' := by
  obtain ⟨f1, f2, f3, f4, f5, f6, f7⟩ := ev_facts (S := (fun _ => 0, fun _ _ => 0)) H hS
  obtain ⟨-, g9, r0, g10⟩ := ln_facts H hS hp hw
  have t2 : cT L a kd 2 0 = some (0, 5) := rfl
  have q := e_next H hS n hm k4 k3 he
  have hx : ix (nI t) = t := ixn (by omega)
  by_cases c : m = 20
  · subst c
    rw [if_pos rfl] at q
    have H' := ((H.i t2 3 (nI ((e + 1) % 20))).i t2 4 (nI 19)).i t2 4 (nI 20)
    have hr : ((e + 1) % 20 + 19) % 20 < 20 := by omega
    obtain ⟨h', g1, g2⟩ := e_facts H' hn hr 1 x2 (nI t) 0
    obtain ⟨h'', g3, g4⟩ := e_addLineB hp hw hr h40 hσ n h' _ 0 g2 hS k2 kc (by omega) (by omega)
    rw [gg_6] at g4
    have i2 : gint (gsetI (gsetI (gsetI h (A 2 0) 3 (nI ((e + 1) % 20))) (A 2 0) 4 (nI 19)) (A 2 0) 4 (nI 20)) (A 9 P) 2 = nI t := by rw [H'.int (cT9 hp hw)]; exact k2
    refine ⟨h'', _, (e + 1) % 20, ?_, g4, (EVF.i.tr EVF.i).tr EVF.ig, fun S hE hm' hσ' => ?_⟩
    · unfold f_Events_addLine
      simp only [f1, gt0', cond_true, q, Option.bind_some, gtag_setI, g9, gtl, i2, g1]
      exact g3
    · have d := hE.drop hm' (by omega) (by omega)
      have d2 := d.add (m := 19) (ψ := evf (dpS S 20) 1 x2 (nI t) 0 P) (φ := fun k => if 4 + 0 ≤ k ∧ k < 4 + t then σ (k - 4) else fc4 1 x2 (nI t) 0 (K.1 6 (((e + 1) % 20 + 19) % 20)) k) rfl (by omega) (fun k hk => fcl_ev hk hx h40 hσ')
      unfold evS
      rw [if_pos rfl]
      refine Eq.mp ?_ d2
      congr 1
      refine KS.ext' (fun c' p' k' => ?_) rfl
      rw [KS.g_1, KS.g_1]
      split
      · split
        · rfl
        · rw [KS.g_1, if_pos ⟨rfl, rfl⟩]
          rfl
      · rfl
  · rw [if_neg c] at q
    have H' := H.i t2 4 (nI (m + 1))
    have hr : (e + m) % 20 < 20 := by omega
    obtain ⟨h', g1, g2⟩ := e_facts H' hn hr 1 x2 (nI t) 0
    obtain ⟨h'', g3, g4⟩ := e_addLineB hp hw hr h40 hσ n h' _ 0 g2 hS k2 kc (by omega) (by omega)
    rw [gg_6] at g4
    have i2 : gint (gsetI h (A 2 0) 4 (nI (m + 1))) (A 9 P) 2 = nI t := by rw [H'.int (cT9 hp hw)]; exact k2
    refine ⟨h'', _, e, ?_, g4, EVF.ig, fun S hE hm' hσ' => ?_⟩
    · unfold f_Events_addLine
      simp only [f1, gt0', cond_true, q, Option.bind_some, gtag_setI, g9, gtl, i2, g1]
      exact g3
    · have d2 := hE.add (m := m) (ψ := evf S 1 x2 (nI t) 0 P) (φ := fun k => if 4 + 0 ≤ k ∧ k < 4 + t then σ (k - 4) else fc4 1 x2 (nI t) 0 (K.1 6 ((e + m) % 20)) k) hm' (by omega) (fun k hk => fcl_ev hk hx h40 hσ')
      unfold evS
      rw [if_neg c]
      refine Eq.mp ?_ d2
      congr 1
      refine KS.ext' (fun c' p' k' => ?_) rfl
      rw [KS.g_1, KS.g_1]
      split
      · split
        · rfl
        · rw [KS.g_1, if_pos ⟨rfl, rfl⟩]
          rfl
      · rfl
end LN
