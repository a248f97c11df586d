/-! ===== open: what is the same for both ways ===== -/
def OPq (n : Nat) (IvN : gHp → Prop) (b L am : Nat) (h : gHp) (z1 z2 z3 z4 q : Int32) (h' : gHp) : Prop := gtag h' b = some (24, L) ∧ (∀ i, gint h' b i = gint h b i) ∧ ∃ (hO : gHp) (ad : Nat → Nat) (S : MS) (q2 : Int32 × MS), MR hO h' am ad S ∧ f_M_open n S z1 z2 z3 z4 = some q2 ∧ q = q2.1 ∧ ∀ h'', MR hO h'' am ad q2.2 → IvN h''
theorem OP_same {b L ax am j n : Nat} {h : gHp} {A : Nat → Nat → Nat} {ρ : Nat → Nat × Nat} {K : KS} {S : MS} {a e : Nat} {ly : Nat → Bool} {z1 z2 z3 z4 q : Int32} (e1 : A 17 0 = b) (e2 : A 0 0 = ax) (e3 : A 15 0 = am) (H : Cpl h A ρ L K S a e ly j) (hM : f_M_open n S z1 z2 z3 z4 = some (q, S)) : OPq n (Iv b L ax am (j + 1)) b L am h z1 z2 z3 z4 q h := by
  obtain ⟨a1, a2, a3, a4⟩ := PO_same e1 e2 e3 H
  exact ⟨a1, a2, h, A 16, S, (q, S), a3, hM, rfl, a4⟩
theorem G9.cong {K K' : KS} {S S' : MS} {a j : Nat} {ly : Nat → Bool} (G : G9 K S a ly j) (hs : RKs K' a (S.2 5)) (hK : ∀ c, 7 ≤ c → c ≤ 14 → K'.1 c = K.1 c) (hS : ∀ k, ¬ k = 6 → ¬ k = 7 → ¬ k = 8 → S'.2 k = S.2 k) (hz : ∀ k p, a < p → p ≤ 60 → S'.2 k p = S.2 k p) (s41 : S'.1 41 = S.1 41) (s42 : S'.1 42 = S.1 42) : G9 K' S' a ly j := by
  obtain ⟨q1, q2, q3, q4, q5, q6, q7, q8, q9, q10, q11, q12⟩ := G
  have r4 := hS 4 (by decide) (by decide) (by decide)
  have r5 := hS 5 (by decide) (by decide) (by decide)
  have r9 := hS 9 (by decide) (by decide) (by decide)
  have r10 := hS 10 (by decide) (by decide) (by decide)
  have r11 := hS 11 (by decide) (by decide) (by decide)
  have r12 := hS 12 (by decide) (by decide) (by decide)
  have r13 := hS 13 (by decide) (by decide) (by decide)
  have r14 := hS 14 (by decide) (by decide) (by decide)
  have r15 := hS 15 (by decide) (by decide) (by decide)
  have r16 := hS 16 (by decide) (by decide) (by decide)
  have r17 := hS 17 (by decide) (by decide) (by decide)
  have r18 := hS 18 (by decide) (by decide) (by decide)
  have r19 := hS 19 (by decide) (by decide) (by decide)
  have r20 := hS 20 (by decide) (by decide) (by decide)
  have r21 := hS 21 (by decide) (by decide) (by decide)
  have r22 := hS 22 (by decide) (by decide) (by decide)
  have r23 := hS 23 (by decide) (by decide) (by decide)
  have r24 := hS 24 (by decide) (by decide) (by decide)
  have r25 := hS 25 (by decide) (by decide) (by decide)
  have r26 := hS 26 (by decide) (by decide) (by decide)
  have r27 := hS 27 (by decide) (by decide) (by decide)
  have r28 := hS 28 (by decide) (by decide) (by decide)
  have r29 := hS 29 (by decide) (by decide) (by decide)
  have r30 := hS 30 (by decide) (by decide) (by decide)
  have r31 := hS 31 (by decide) (by decide) (by decide)
  have r32 := hS 32 (by decide) (by decide) (by decide)
  have r33 := hS 33 (by decide) (by decide) (by decide)
  have r34 := hS 34 (by decide) (by decide) (by decide)
  have r35 := hS 35 (by decide) (by decide) (by decide)
  have k7 := hK 7 (by omega) (by omega)
  have k8 := hK 8 (by omega) (by omega)
  have k9 := hK 9 (by omega) (by omega)
  have k10 := hK 10 (by omega) (by omega)
  have k11 := hK 11 (by omega) (by omega)
  refine ⟨by rw [r5]; exact hs, ?_, ?_, ?_, ?_, ?_, ?_, ?_, ?_, ?_, ?_, ?_⟩
  · unfold RKp at q2 ⊢; rw [k7, r5, r12, r13, r14, r15, r16, r17, r18, r19]; exact q2
  · unfold RKk at q3 ⊢; rw [k7, r5, r9, r10, r20, r34, r35, r25]; exact q3
  · unfold RKa at q4 ⊢; rw [k8, r5, r21]; exact q4
  · unfold RKl at q5 ⊢; rw [k9, k10, r5, r22, r23, r24]; exact q5
  · unfold RKx at q6 ⊢; rw [k11, r5, r25, r26, r27, r28]; exact q6
  · unfold RKgP at q7 ⊢; rw [k11, r5, r4, r14, r15, r29, r30, r31, r32, r33]; exact q7
  · unfold WFn at q8 ⊢; rw [r16, r17, r34, r35, r25, r23, r22, r20, r19, r11, s41, s42]; exact q8
  · rw [r25, r26, r27, r28, r23, r24]; exact q9
  · unfold WFq at q10 ⊢; rw [r21, r5]; exact q10
  · intro p p1 p2
    obtain ⟨y1, y2⟩ := q11 p p1 p2
    refine ⟨fun k hk => by rw [hz k p p1 p2]; exact y1 k hk, fun k hk => by rw [r21]; exact y2 k hk⟩
  · rw [r12, r13, r14, r15]; exact q12
theorem op_fin {b L ax am j n : Nat} {h h1 : gHp} {A A' : Nat → Nat → Nat} {ρ ρ' : Nat → Nat × Nat} {K K1 : KS} {S S1 : MS} {a a' e : Nat} {ly ly' : Nat → Bool} {z1 z2 z3 z4 q : Int32} (e1 : A 17 0 = b) (e2 : A 0 0 = ax) (e3 : A 15 0 = am) (H : Cpl h A ρ L K S a e ly j) (G : G9 K1 S1 a' ly' j) (hT : RKt K1 S1) (hRr : RKr K1 S1 a') (hWa : WFa S1 a') (hWk : WFk S1 a') (hWt : WFt S1) (s1 : ∀ k, ¬ k = 2 → ¬ k = 3 → S1.1 k = S.1 k) (sr : S1.2 43 = S.2 43) (Hh : Hrep h1 A' ρ' (cT L a' (S1.2 5)) K1) (hA17 : A' 17 0 = A 17 0) (hA0 : A' 0 0 = A 0 0) (hA15 : A' 15 0 = A 15 0) (hk : KEEP K K1) (hev : K1.1 2 = K.1 2 ∧ K1.1 5 = K.1 5 ∧ K1.1 6 = K.1 6) (hly : ∀ p, pnN a' p = true → (ly' p = true ↔ ¬ S1.2 21 (4 * p + 1) = 0)) (hn : 6000 ≤ n) (hM : ∀ S', f_M_arrangeAll n S1 = some S' → f_M_open n S z1 z2 z3 z4 = some (q, S')) : ∃ h' c, f_Tree_layOut n h1 (A' 1 0) = some (c, h') ∧ OPq n (Iv b L ax am (j + 1)) b L am h z1 z2 z3 z4 q h' ∧ ∀ p, pnN a' p = true → gtag h' (A' 7 p) = some (cTag (S1.2 5 p)) ∧ gint h' (A' 7 p) 0 = nI p := by
  obtain ⟨H1, H2, H3, H4, H5⟩ := id H
  obtain ⟨q1, q2, q3, q4, q5, q6, q7, q8, q9, q10, q11, q12⟩ := G
  have P : PRE K1 S1 a' ly' j := ⟨⟨q1, hT, q2, q3, q4, q5, q6, q7, hRr⟩, hWa, q8, q9, q10, q11, hWk, hWt, by rw [s1 0 (by decide) (by decide), s1 1 (by decide) (by decide)]; exact H4.2.2.2.2.2.2.2.1.1, q12⟩
  obtain ⟨h', K', S', c, l1, l2, l3, l4, l5, ⟨l6, l7, l8⟩, l9, l10, l11, -⟩ := lay_all (n := n) (n' := n) Hh P (by omega) (by omega)
  have keep : KEEP K K' := hk.tr l4
  have hm' : RKm K' S := ⟨fun k hk1 => by rw [keep.1]; exact H2.1 k hk1, fun k hk1 hr => ⟨by rw [keep.2.2.2]; exact (H2.2 k hk1 hr).1, fun i => by rw [keep.2.1]; exact (H2.2 k hk1 hr).2 i⟩⟩
  have t17 : cT L a' (S1.2 5) 17 0 = some (24, L) := rfl
  have t17' : cT L a (S.2 5) 17 0 = some (24, L) := rfl
  refine ⟨h', nI c, l1, ⟨by rw [← e1, ← hA17]; exact l3.tag t17, fun i => ?_, h', A' 16, S, (q, S'), ?_, hM S' l2, rfl, fun h'' hM'' => ?_⟩, fun p hp => ⟨l3.tag (cT7 hp), by rw [l3.int (cT7 hp)]; exact (l5.2.2.1 p hp).1⟩⟩
  · rw [← e1, H1.int t17', ← hA17, l3.int t17, keep.2.2.1]
  · rw [← e3, ← hA15]; exact toMR l3 hm'
  · rw [← e3, ← hA15] at hM''
    have o := ofMR l3 hM'' (fun k hk1 hr => (hm'.2 k hk1 hr).1)
    have h5 : S'.2 5 = S1.2 5 := l11 5 (by decide) (by decide) (by decide)
    rw [← h5] at o
    exact ⟨A', ρ', KSm K' h'' A', S', a', e, ly', by rw [hA17, e1], by rw [hA0, e2], by rw [hA15, e3], o.1, o.2, (l5.with (RKe.eq' H3.2.2.2.2.2.2.2.2.1 (l6.trans hev.1) (l7.trans hev.2.1) (l8.trans hev.2.2) (by rw [l10, s1 41 (by decide) (by decide)]) (by rw [l10, s1 42 (by decide) (by decide)]) (by rw [l11 43 (by decide) (by decide) (by decide), sr]))).m, l9.mono (Nat.le_succ j), by rw [l11 21 (by decide) (by decide) (by decide)]; exact hly⟩
theorem WFt.empty {S : MS} (hW : WFt S) (h3 : S.1 3 = 0) : ∀ p, p ≤ 60 → S.2 4 p = 0 := by
  rcases hW with h | ⟨d, r, l, h1, h2, -⟩
  · exact h.2
  · obtain ⟨a1, a2, -⟩ := h2.here
    rw [h1, nI_z a2] at h3
    omega
theorem leaves12 {S : MS} {a : Nat} (hWa : WFa S a) (hWt : WFt S) : cO (lfN S) 1 a ≤ 12 := by
  rcases hWt with ⟨-, h⟩ | ⟨d, r, l, h1, h2, h3, h4, h5⟩
  · rw [cO_zero (lfN S) a 1 (fun p p1 p2 => by unfold lfN; rw [h p (by have := hWa.1; omega)]; rfl)]; omega
  · have mm : ∀ q, q ∈ l → 1 ≤ q ∧ q ≤ a := fun q hq => by
      obtain ⟨b1, b2, b3⟩ := h2.mem hq
      exact ⟨b1, hWa.2.2.2.2.1 q b2 b3⟩
    have e : lvs (S.2 5) l = cO (lfN S) 1 a := by
      unfold lvs
      rw [cO_list l h3 mm]
      refine cO_congr a 1 (fun p p1 p2 => ?_)
      unfold lfN
      have := hWa.1
      have i := h5 p (by omega)
      by_cases c : S.2 4 p = 0
      · rw [decide_eq_true c, decide_eq_false (fun q => (i.mpr q) c)]; rfl
      · rw [decide_eq_false c, decide_eq_true (i.mp c)]; rfl
    omega
theorem e_hasRoom {h : gHp} {A : Nat → Nat → Nat} {ρ : Nat → Nat × Nat} {L a n m : Nat} {K : KS} {S : MS} (H : Hrep h A ρ (cT L a (S.2 5)) K) (hS : RKs K a (S.2 5)) (hT : RKt K S) (hP : RKp K S a) (hW : WFa S a) (hn : 100 ≤ n) (hm : m ≤ 2) : f_Tree_hasRoomFor n h (A 1 0) (nI m) = some (b32 (decide (a + m ≤ 60) && decide (cO (lfN S) 1 a < 12)), h) := by
  have t1 : gtag h (A 1 0) = some (7, 5) := H.tag (c := 1) (p := 0) rfl
  have i1 : gint h (A 1 0) 1 = nI a := by rw [H.int (c := 1) (p := 0) (t := (7, 5)) rfl, hT.1, hW.2.1]
  have ha := hW.1
  have hc := (e_countOpen H hS hT hP hW hn).2
  have cb : cO (lfN S) 1 a ≤ a := by
    have := cO_mono (f := lfN S) (g := fun _ => true) a 1 (fun _ _ => rfl)
    have e : ∀ k lo, cO (fun _ => true) lo k = k := by
      intro k
      induction k with
      | zero => intro lo; rfl
      | succ k ih => intro lo; show 1 + cO (fun _ => true) (lo + 1) k = k + 1; rw [ih]; omega
    rw [e] at this; exact this
  unfold f_Tree_hasRoomFor
  rw [t1, g77', cond_true, i1, nI_add]
  by_cases c1 : a + m ≤ 60
  · rw [if_neg (show ¬ (60 : Int32) < nI (a + m) from nI_nlt (a := 60) (b := a + m) c1 (by omega)), g77, cond_true, hc, Option.bind_some, decide_eq_true c1]
    by_cases c2 : cO (lfN S) 1 a < 12
    · rw [if_neg (show ¬ (12 : Int32) ≤ nI (cO (lfN S) 1 a) from nI_ge (b := 12) c2 (by omega)), decide_eq_true c2]; rfl
    · rw [if_pos (show (12 : Int32) ≤ nI (cO (lfN S) 1 a) from (nI_lei (x := 12) (by omega) (by omega)).mpr (by omega)), decide_eq_false c2]; rfl
  · rw [if_pos (show (60 : Int32) < nI (a + m) from nI_lt (a := 60) (by omega) (by omega)), decide_eq_false c1]; rfl
