/-! ===== the first pane ===== -/
theorem nz_n {q : Nat} (h1 : 1 ≤ q) (h2 : q ≤ 60) : nz (nI q) = some (7, q) := by unfold nz; rw [if_neg (by rw [nI_z h2]; omega), ixn (by omega)]
theorem nz_0 : nz 0 = none := rfl
theorem ly_grow {S S1 : MS} {a : Nat} {ly : Nat → Bool} (ha : a + 1 ≤ 60) (hl : ∀ p, pnN a p = true → (ly p = true ↔ ¬ S.2 21 (4 * p + 1) = 0)) (hz : WFz S a) (h21 : S1.2 21 = S.2 21) : ∀ p, pnN (a + 1) p = true → ((ly p && decide (p ≤ a)) = true ↔ ¬ S1.2 21 (4 * p + 1) = 0) := by
  intro p hp
  rw [h21]
  obtain ⟨p1, p2⟩ := pnN_le hp
  by_cases c : p ≤ a
  · rw [decide_eq_true c, Bool.and_true]; exact hl p (pnN_of p1 c)
  · have : p = a + 1 := by omega
    subst this
    rw [decide_eq_false c, Bool.and_false, (hz (a + 1) (by omega) ha).2 1 (by omega)]
    exact ⟨fun q => Bool.noConfusion q, fun q => absurd rfl q⟩
theorem add_top {b L ax am j n k : Nat} {h : gHp} {A : Nat → Nat → Nat} {ρ : Nat → Nat × Nat} {K : KS} {S : MS} {a e : Nat} {ly : Nat → Bool} {z1 z2 z3 z4 : Int32} {Q : Option gv → gHp → Prop} (e1 : A 17 0 = b) (e2 : A 0 0 = ax) (e3 : A 15 0 = am) (H : Cpl h A ρ L K S a e ly j) (h3 : S.1 3 = 0) (ha : a + 1 ≤ 60) (hk : k ≤ 3) (hn : 6000 ≤ n) (hM : ∀ S', f_M_arrangeAll n (((((S.f 2 (nI (a + 1))).a 4 (a + 1) 1).a 5 (a + 1) (nI k)).a 6 (a + 1) 0).f 3 (nI (a + 1))) = some S' → f_M_open n S z1 z2 z3 z4 = some (nI (a + 1), S')) (hQ : ∀ h', OPq n (Iv b L ax am (j + 1)) b L am h z1 z2 z3 z4 (nI (a + 1)) h' → Q (some (.inl (nI (a + 1)))) h') : w_Tree_addTop n h (A 1 0) (nI k) Q := by
  obtain ⟨H1, H2, H3, H4, H5⟩ := id H
  have em := WFt.empty H4.2.2.2.2.2.2.1 h3
  have t1 : gtag h (A 1 0) = some (7, 5) := H1.tag (c := 1) (p := 0) rfl
  have i1 : gint h (A 1 0) 1 + 1 = nI (a + 1) := by rw [H1.int (c := 1) (p := 0) (t := (7, 5)) rfl, H3.2.1.1, H4.1.2.1, nI_1]
  obtain ⟨S1, hS1⟩ : ∃ S1, S1 = ((((S.f 2 (nI (a + 1))).a 4 (a + 1) 1).a 5 (a + 1) (nI k)).a 6 (a + 1) 0).f 3 (nI (a + 1)) := ⟨_, rfl⟩
  rw [← hS1] at hM
  have g2 : ∀ k' q, S1.2 k' q = if k' = 6 ∧ q = a + 1 then 0 else if k' = 5 ∧ q = a + 1 then nI k else if k' = 4 ∧ q = a + 1 then 1 else S.2 k' q := by
    intro k' q; rw [hS1]; rfl
  have g1 : ∀ k', S1.1 k' = if k' = 3 then nI (a + 1) else if k' = 2 then nI (a + 1) else S.1 k' := by
    intro k'; rw [hS1]; rfl
  have s4 : S1.2 4 (a + 1) = 1 := by rw [g2, if_neg (by omega), if_neg (by omega), if_pos ⟨rfl, rfl⟩]
  have s5 : S1.2 5 (a + 1) = nI k := by rw [g2, if_neg (by omega), if_pos ⟨rfl, rfl⟩]
  have s6 : S1.2 6 (a + 1) = 0 := by rw [g2, if_pos ⟨rfl, rfl⟩]
  have old : ∀ k' q, ¬ q = a + 1 → S1.2 k' q = S.2 k' q := fun k' q c => by rw [g2, if_neg (fun x => c x.2), if_neg (fun x => c x.2), if_neg (fun x => c x.2)]
  have row : ∀ k', ¬ k' = 4 → ¬ k' = 5 → ¬ k' = 6 → S1.2 k' = S.2 k' := fun k' c1 c2 c3 => funext fun q => by rw [g2, if_neg (fun x => c3 x.1), if_neg (fun x => c2 x.1), if_neg (fun x => c1 x.1)]
  have k4 : ¬ S1.2 5 (a + 1) = 4 := by rw [s5]; exact fun q => by have := (nI_eq (b := 4) (by omega) (by omega)).mp q; omega
  have hp : pnN (a + 1) (a + 1) = true := pnN_of (by omega) (Nat.le_refl _)
  have op : ∀ p, p ≤ 60 → (¬ S1.2 4 p = 0 ↔ p = a + 1) := by
    intro p hp'
    by_cases c : p = a + 1
    · rw [c, s4]; exact ⟨fun _ => rfl, fun _ => by decide⟩
    · rw [old 4 p c, em p hp']; exact ⟨fun q => absurd rfl q, fun q => absurd q c⟩
  unfold w_Tree_addTop
  refine ⟨by rw [t1]; rfl, ?_⟩
  rw [i1]
  refine new_leaf (kd' := S1.2 5) H1 hk s5 (fun p hp' => old 5 p (by omega)) (by omega) (fun x h2 A2 ρ2 K2 N1 N2 N3 N4 N5 => ?_)
  subst N2
  have eA := N3 1 0 (by omega)
  rw [← eA]
  obtain ⟨E1, E2⟩ := e_enter (n := n) N1 ha hp (by rw [(N4 1 0 0 (by omega)).2]; exact H3.1.2.2.1) (by rw [N5.1]; rfl)
  have E3 := E2.r (c := 1) (p := 0) (t := (7, 5)) rfl 2 (some (7, a + 1)) (clo_pane hp)
  obtain ⟨K1, hK1⟩ : ∃ K1, K1 = ((K2.r 3 0 (a + 1) (some (7, a + 1))).i 1 0 1 (nI (a + 1))).r 1 0 2 (some (7, a + 1)) := ⟨_, rfl⟩
  rw [← hK1] at E3
  have kr : ∀ c p i, K1.2 c p i = if c = 1 ∧ p = 0 ∧ i = 2 then some (7, a + 1) else if c = 3 ∧ p = 0 ∧ i = a + 1 then some (7, a + 1) else K2.2 c p i := by
    intro c p i
    rw [hK1, KS.r_2]
    show (if _ then _ else (K2.r 3 0 (a + 1) (some (7, a + 1))).2 c p i) = _
    rw [KS.r_2]
  have ki : ∀ c p i, K1.1 c p i = if c = 1 ∧ p = 0 ∧ i = 1 then nI (a + 1) else K2.1 c p i := by
    intro c p i
    rw [hK1]
    show ((K2.r 3 0 (a + 1) (some (7, a + 1))).i 1 0 1 (nI (a + 1))).1 c p i = _
    rw [KS.i_1]; rfl
  have kc1 : ∀ c, ¬ c = 1 → K1.1 c = K2.1 c := fun c hc => funext fun p => funext fun i => by rw [ki, if_neg (fun x => hc x.1)]
  have kc2 : ∀ c, ¬ c = 1 → ¬ c = 3 → K1.2 c = K2.2 c := fun c hc hc' => funext fun p => funext fun i => by rw [kr, if_neg (fun x => hc x.1), if_neg (fun x => hc' x.1)]
  have kk1 : ∀ c, ¬ c = 1 → ¬ (7 ≤ c ∧ c ≤ 14) → K1.1 c = K.1 c := fun c hc hc' => by
    rw [kc1 c hc]; exact funext fun p => funext fun i => (N4 c p i (fun x => hc' ⟨x.1, x.2.1⟩)).1
  have G := ((G9.of H3.nine H4).grow (K' := K2) (S' := S1) ha N4 (fun k' q c => by rw [g2, if_neg (by omega), if_neg (by omega), if_neg (by omega)]) (by rw [s4]; decide) (by rw [row 11 (by decide) (by decide) (by decide), (H4.2.2.2.2.1 (a + 1) (by omega) ha).1 11 (by decide)]; decide) (by rw [g1]; rfl) (by rw [g1]; rfl) (N5.newp s5 hk)).cong (K' := K1) (S' := S1)
    (RKs.up (K := K2) (G9.grow (K' := K2) (S' := S1) (G9.of H3.nine H4) ha N4 (fun k' q c => by rw [g2, if_neg (by omega), if_neg (by omega), if_neg (by omega)]) (by rw [s4]; decide) (by rw [row 11 (by decide) (by decide) (by decide), (H4.2.2.2.2.1 (a + 1) (by omega) ha).1 11 (by decide)]; decide) (by rw [g1]; rfl) (by rw [g1]; rfl) (N5.newp s5 hk)).1 (fun c c1 c2 _ => kc2 c c1 c2) (by rw [kr]; rfl) (fun p i _ _ => by rw [kc2 7 (by decide) (by decide)]))
    (fun c c1 c2 => kc1 c (by omega)) (fun _ _ _ _ => rfl) (fun _ _ _ _ => rfl) rfl rfl
  have ly' := ly_grow (S1 := S1) ha H5 H4.2.2.2.2.1 (row 21 (by decide) (by decide) (by decide))
  have tT : RKt K1 S1 := by
    refine ⟨by rw [ki, if_pos ⟨rfl, rfl, rfl⟩, g1]; rfl, by rw [ki, if_neg (by omega), (N4 1 0 3 (by omega)).1, g1]; exact H3.2.1.2.1, by rw [ki, if_neg (by omega), (N4 1 0 4 (by omega)).1, g1]; exact H3.2.1.2.2.1, by rw [kr, if_pos ⟨rfl, rfl, rfl⟩, g1, if_pos rfl, nz_n (by omega) ha], fun i hi => ?_⟩
    rw [kr, if_neg (by omega)]
    by_cases c : i = a + 1
    · rw [if_pos ⟨rfl, rfl, c⟩, if_neg ((op i hi).mpr c), c]
    · rw [if_neg (fun x => c x.2.2), (N4 3 0 i (by omega)).2, H3.2.1.2.2.2.2 i hi, old 4 i c]
  have tR : RKr K1 S1 (a + 1) := by
    intro p hp' ho
    have e := (op p (by have := (pnN_le hp').2; omega)).mp ho
    subst e
    refine ⟨by rw [kr, if_neg (by omega), if_neg (by omega), N5.2.1, s6, nz_0], fun q => absurd q k4⟩
  have tA : WFa S1 (a + 1) := by
    refine ⟨ha, by rw [g1]; rfl, ?_, fun p hp' => ?_, fun p hp' ho => ?_, fun p hp' => ?_⟩
    · rw [old 4 0 (by omega)]; exact H4.1.2.2.1
    · by_cases c : p = a + 1
      · rw [c, s4]; exact Or.inr rfl
      · rw [old 4 p c]; exact H4.1.2.2.2.1 p hp'
    · rw [(op p hp').mp ho]; exact Nat.le_refl _
    · by_cases c : p = a + 1
      · rw [c, s5]
        rcases (by omega : k = 0 ∨ k = 1 ∨ k = 2 ∨ k = 3) with q | q | q | q <;> rw [q]
        · exact Or.inl rfl
        · exact Or.inr (Or.inl rfl)
        · exact Or.inr (Or.inr (Or.inl rfl))
        · exact Or.inr (Or.inr (Or.inr (Or.inl rfl)))
      · rw [old 5 p c]
        have := pnN_le hp'
        exact H4.1.2.2.2.2.2 p (pnN_of (by omega) (by omega))
  have tK : WFk S1 (a + 1) := by
    intro p hp' ho h4
    rw [(op p hp').mp ho] at h4
    exact absurd h4 k4
  have tW : WFt S1 := by
    refine Or.inr ⟨1, a + 1, [a + 1], by rw [g1, if_pos rfl], ⟨by omega, ha, by rw [s4]; decide, s6, Or.inl ⟨k4, rfl⟩⟩, List.nodup_cons.mpr ⟨List.not_mem_nil, List.nodup_nil⟩, ?_, fun p hp' => by rw [op p hp', List.mem_singleton]⟩
    exact Nat.le_trans List.countP_le_length (by show 1 ≤ 12; omega)
  have tE : K1.2 15 = K.2 15 := by
    rw [kc2 15 (by omega) (by omega)]
    exact funext fun p => funext fun i => (N4 15 p i (by omega)).2
  obtain ⟨h', c, o1, o2, o3⟩ := op_fin (n := n) (z1 := z1) (z2 := z2) (z3 := z3) (z4 := z4) (q := nI (a + 1)) e1 e2 e3 H G tT tR tA tK tW (fun k' c1 c2 => by rw [g1, if_neg c2, if_neg c1]) (row 43 (by decide) (by decide) (by decide)) E3 (N3 17 0 (by omega)) (N3 0 0 (by omega)) (N3 15 0 (by omega)) ⟨kk1 15 (by omega) (by omega), kk1 16 (by omega) (by omega), kk1 17 (by omega) (by omega), tE⟩ ⟨kk1 2 (by omega) (by omega), kk1 5 (by omega) (by omega), kk1 6 (by omega) (by omega)⟩ ly' hn hM
  have tg2 : gtag h2 (A2 1 0) = some (7, 5) := N1.tag (c := 1) (p := 0) rfl
  have tg3 := E2.tag (c := 1) (p := 0) (t := (7, 5)) rfl
  have tg4 := E3.tag (c := 1) (p := 0) (t := (7, 5)) rfl
  refine ⟨_, rfl, _, by rw [tg2, g77, cond_true]; exact E1, by rw [tg3]; rfl, (c, h'), ?_, A2 7 (a + 1), rfl, ?_, ?_⟩
  · have tg5 : gtag (gsetR (gsetI (gsetR h2 (A2 3 0) (a + 1) (some (A2 7 (a + 1)))) (A2 1 0) 1 (nI (a + 1))) (A2 1 0) 2 (some (A2 7 (a + 1)))) (A2 1 0) = some (7, 5) := tg4
    rw [tg5, g77, cond_true]; exact o1
  · rw [(o3 _ hp).1]; exact cTag_pane _
  · rw [(o3 _ hp).2]; exact hQ h' o2
