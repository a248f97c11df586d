theorem RKs.up {K K' : KS} {a : Nat} {kd : Nat → Int32} (H : RKs K a kd) (h0 : ∀ c, ¬ c = 1 → ¬ c = 3 → ¬ c = 7 → K'.2 c = K.2 c) (h1 : K'.2 1 0 0 = K.2 1 0 0) (h7 : ∀ p k, ¬ k = 2 → ¬ ((k = 13 ∨ k = 14 ∨ k = 15) ∧ kd p = 4) → K'.2 7 p k = K.2 7 p k) : RKs K' a kd := by
  obtain ⟨a1, a2, a3, a4, a5, a6, a7, a8⟩ := H
  refine ⟨by rw [h0 0 (by decide) (by decide) (by decide)]; exact a1, by rw [h0 0 (by decide) (by decide) (by decide)]; exact a2, by rw [h1]; exact a3, by rw [h0 2 (by decide) (by decide) (by decide)]; exact a4, by rw [h0 2 (by decide) (by decide) (by decide)]; exact a5, by rw [h0 4 (by decide) (by decide) (by decide)]; exact a6, fun p hp hw => ?_, fun p hp hk => ?_⟩
  · have n4 : ¬ kd p = 4 := fun q => by rw [q] at hw; exact absurd hw (by decide)
    rw [h7 p 11 (by decide) (fun q => n4 q.2), h7 p 12 (by decide) (fun q => n4 q.2), h7 p 13 (by decide) (fun q => n4 q.2), h0 9 (by decide) (by decide) (by decide)]
    exact a7 p hp hw
  · have n4 : ¬ kd p = 4 := fun q => by rw [q] at hk; exact absurd hk (by decide)
    rw [h7 p 15 (by decide) (fun q => n4 q.2), h0 12 (by decide) (by decide) (by decide)]
    exact a8 p hp hk
section FK
variable {A : Nat → Nat → Nat} {ρ : Nat → Nat × Nat} {L a : Nat} {K0 : KS} {S : MS} {l' : List Nat} {kv : Nat → Int32}
theorem fk_loop (hWa : WFa S a) (hT : RKt K0 S) (hl : ∀ x, x ≤ 60 → (¬ S.2 4 x = 0 ↔ x ∈ l')) (hlp : ∀ x, x ∈ l' → x ≤ 60 ∧ pnN a x = true) (hk0 : ∀ p, pnN a p = true → K0.1 7 p 0 = nI p) (hkv : ∀ p, p ∈ l' → S.2 5 p = 4 → K0.2 7 p 13 = nz (kv p) ∧ (kv p = 0 ∨ ∃ q, kv p = nI q ∧ pnN a q = true)) : ∀ (d i n : Nat) (h : gHp) (K : KS), 1 ≤ i → i + d = 61 → 200 + d < n → Hrep h A ρ (cT L a (S.2 5)) K → K.1 = K0.1 → (∀ c p k, ¬ (c = 7 ∧ k = 13 ∧ p < i) → K.2 c p k = K0.2 c p k) → RKs K a (S.2 5) → ∃ h' K', f_Tree_forgetClosedKeys_B2 (A 1 0) n h (nI i) = some h' ∧ Hrep h' A ρ (cT L a (S.2 5)) K' ∧ K'.1 = K0.1 ∧ ∀ c p k, K'.2 c p k = if c = 7 ∧ k = 13 ∧ i ≤ p ∧ p ≤ 60 ∧ p ∈ l' ∧ S.2 5 p = 4 ∧ S.2 4 (ix (kv p)) = 0 then none else K.2 c p k := by
  have ha := hWa.1
  intro d
  induction d with
  | zero =>
    intro i n h K hi h1 h2 H k1 k2 hS
    cases n with
    | zero => omega
    | succ n =>
      have t1 : gtag h (A 1 0) = some (7, 5) := H.tag (c := 1) (p := 0) rfl
      have t3 : gtag h (A 3 0) = some (22, 61) := H.tag (c := 3) (p := 0) rfl
      have r1 : gref h (A 1 0) 0 = some (A 3 0) := by rw [H.ref (c := 1) (p := 0) (t := (7, 5)) rfl, hS.2.2.1]; rfl
      refine ⟨h, K, ?_, H, k1, fun c p k => by rw [if_neg (by omega)]⟩
      rw [f_Tree_forgetClosedKeys_B2]
      simp only [t1, g77', cond_true, r1, Option.bind_some, t3, show (Nat.ble 20 22 && Nat.ble 22 24) = true from rfl, if_pos (show Int32.ofNat 61 ≤ nI i from nI_le (a := 61) (by omega) (by omega))]
  | succ d ih =>
    intro i n h K hi h1 h2 H k1 k2 hS
    cases n with
    | zero => omega
    | succ n =>
      have t1 : gtag h (A 1 0) = some (7, 5) := H.tag (c := 1) (p := 0) rfl
      have t3 : gtag h (A 3 0) = some (22, 61) := H.tag (c := 3) (p := 0) rfl
      have r1 : gref h (A 1 0) 0 = some (A 3 0) := by rw [H.ref (c := 1) (p := 0) (t := (7, 5)) rfl, hS.2.2.1]; rfl
      have hTK : RKt K S := by
        obtain ⟨u1, u2, u3, u4, u5⟩ := hT
        refine ⟨by rw [k1]; exact u1, by rw [k1]; exact u2, by rw [k1]; exact u3, by rw [k2 1 0 2 (by omega)]; exact u4, fun j hj => by rw [k2 3 0 j (by omega)]; exact u5 j hj⟩
      have ri : gref h (A 3 0) i = aM A (if S.2 4 i = 0 then none else some (7, i)) := by rw [H.ref (c := 3) (p := 0) (t := (22, 61)) rfl, hTK.2.2.2.2 i (by omega)]
      have ng : ¬ Int32.ofNat 61 ≤ nI i := nI_ge (a := i) (b := 61) (by omega) (by decide)
      have xi := ixn (show i < 2 ^ 31 by omega)
      have keep : f_Tree_forgetClosedKeys_B2 (A 1 0) (n + 1) h (nI i) = f_Tree_forgetClosedKeys_B2 (A 1 0) n h (nI (i + 1)) → (i ∈ l' ∧ S.2 5 i = 4 ∧ S.2 4 (ix (kv i)) = 0 → K.2 7 i 13 = none) → ∃ h' K', f_Tree_forgetClosedKeys_B2 (A 1 0) (n + 1) h (nI i) = some h' ∧ Hrep h' A ρ (cT L a (S.2 5)) K' ∧ K'.1 = K0.1 ∧ ∀ c p k, K'.2 c p k = if c = 7 ∧ k = 13 ∧ i ≤ p ∧ p ≤ 60 ∧ p ∈ l' ∧ S.2 5 p = 4 ∧ S.2 4 (ix (kv p)) = 0 then none else K.2 c p k := by
        intro he hc
        obtain ⟨h', K', a1, a2, a3, a4⟩ := ih (i + 1) n h K (by omega) (by omega) (by omega) H k1 (fun c p k q => k2 c p k (by omega)) hS
        refine ⟨h', K', by rw [he, a1], a2, a3, fun c p k => ?_⟩
        rw [a4]
        by_cases c1 : c = 7 ∧ k = 13 ∧ i + 1 ≤ p ∧ p ≤ 60 ∧ p ∈ l' ∧ S.2 5 p = 4 ∧ S.2 4 (ix (kv p)) = 0
        · rw [if_pos c1, if_pos ⟨c1.1, c1.2.1, by omega, c1.2.2.2⟩]
        · rw [if_neg c1]
          by_cases c2 : c = 7 ∧ k = 13 ∧ i ≤ p ∧ p ≤ 60 ∧ p ∈ l' ∧ S.2 5 p = 4 ∧ S.2 4 (ix (kv p)) = 0
          · have e : p = i := by
              rcases Nat.lt_or_ge i p with q | q
              · exact absurd ⟨c2.1, c2.2.1, q, c2.2.2.2⟩ c1
              · omega
            rw [if_pos c2, c2.1, c2.2.1, e]
            rw [e] at c2
            exact hc ⟨c2.2.2.2.2.1, c2.2.2.2.2.2⟩
          · rw [if_neg c2]
      by_cases co : S.2 4 i = 0
      · rw [if_pos co] at ri
        have ri' : gref h (A 3 0) i = none := ri
        have g0 : gInst h none "GlkPanes$Pair" = some 0 := rfl
        refine keep ?_ (fun q => absurd ((hl i (by omega)).mpr q.1) (fun q' => q' co))
        rw [f_Tree_forgetClosedKeys_B2]
        simp only [t1, g77', cond_true, r1, Option.bind_some, t3, show (Nat.ble 20 22 && Nat.ble 22 24) = true from rfl, ng, if_false, reduceIte, gA22' (show i < 61 by omega), xi, ri', g0, if_true, nI_1]
      · rw [if_neg co] at ri
        have ri' : gref h (A 3 0) i = some (A 7 i) := ri
        have il : i ∈ l' := (hl i (by omega)).mp co
        have hp := (hlp i il).2
        obtain ⟨-, -, -, n4, -⟩ := no_inst H hWa hp
        by_cases ck : S.2 5 i = 4
        · have n4' : gInst h (some (A 7 i)) "GlkPanes$Pair" = some 1 := by rw [n4, ck]; rfl
          have n6 := cas_of n4'
          have tg : gtag h (A 7 i) = some (3, 16) := by rw [H.tag (cT7 hp), ck]; rfl
          obtain ⟨v1, v2⟩ := hkv i il ck
          have r13 : gref h (A 7 i) 13 = aM A (nz (kv i)) := by rw [H.ref (cT7 hp), k2 7 i 13 (by omega), v1]
          rcases v2 with v2 | ⟨q, v2, v3⟩
          · have r13' : gref h (A 7 i) 13 = none := by rw [r13, v2]; rfl
            refine keep ?_ (fun _ => by rw [k2 7 i 13 (by omega), v1, v2]; rfl)
            rw [f_Tree_forgetClosedKeys_B2]
            simp only [t1, g77', cond_true, r1, Option.bind_some, t3, show (Nat.ble 20 22 && Nat.ble 22 24) = true from rfl, ng, if_false, reduceIte, gA22' (show i < 61 by omega), xi, ri', n4', n6, tg, gpr, show ¬ (1 : Int32) = 0 from by decide, r13', if_true, nI_1]
          · obtain ⟨q1, q2⟩ := pnN_le v3
            have q60 : q ≤ 60 := by omega
            have r13' : gref h (A 7 i) 13 = some (A 7 q) := by rw [r13, v2, aM_nz q1 q60]
            have i0 : gint h (A 7 q) 0 = nI q := by rw [H.int (cT7 v3), k1, hk0 q v3]
            have tq := H.tag (cT7 (L := L) (kd := S.2 5) v3)
            have ef := e_find H hS hTK n (nI q)
            have xq := ixn (show q < 2 ^ 31 by omega)
            by_cases cq : S.2 4 q = 0
            · have nf : ¬ opB S (nI q) = true := fun o => by
                obtain ⟨q', e1, e2, e3, e4, e5⟩ := opB_nI hWa o
                have : q = q' := (nI_eq (by omega) (by omega)).mp e1
                subst this
                exact e5 cq
              rw [if_neg nf] at ef
              have HH := H.r (cT7 (L := L) (kd := S.2 5) hp) 13 none clo_none
              have hS' : RKs (K.r 7 i 13 none) a (S.2 5) := hS.up (fun c c1 c2 c3 => by funext y k; rw [KS.r_2, if_neg (fun e => c3 e.1)]) (by rw [KS.r_2, if_neg (by omega)]) (fun p k c1 c2 => by rw [KS.r_2, if_neg (fun e => c2 ⟨Or.inl e.2.2, by rw [e.2.1]; exact ck⟩)])
              obtain ⟨h', K', a1, a2, a3, a4⟩ := ih (i + 1) n _ _ (by omega) (by omega) (by omega) HH k1 (fun c p k q => by rw [KS.r_2, if_neg (by omega)]; exact k2 c p k (by omega)) hS'
              refine ⟨h', K', ?_, a2, a3, fun c p k => ?_⟩
              · rw [← a1, f_Tree_forgetClosedKeys_B2]
                simp only [t1, g77, g77', cond_true, r1, Option.bind_some, t3, show (Nat.ble 20 22 && Nat.ble 22 24) = true from rfl, ng, if_false, reduceIte, gA22' (show i < 61 by omega), xi, ri', n4', n6, tg, gpr, show ¬ (1 : Int32) = 0 from by decide, r13', reduceCtorEq, tq, cTag_pane, i0, ef, if_true, nI_1]
                rfl
              · rw [a4]
                by_cases c1 : c = 7 ∧ k = 13 ∧ i + 1 ≤ p ∧ p ≤ 60 ∧ p ∈ l' ∧ S.2 5 p = 4 ∧ S.2 4 (ix (kv p)) = 0
                · rw [if_pos c1, if_pos ⟨c1.1, c1.2.1, by omega, c1.2.2.2⟩]
                · rw [if_neg c1, KS.r_2]
                  by_cases e : c = 7 ∧ p = i ∧ k = 13
                  · rw [if_pos e]
                    obtain ⟨e1, e2, e3⟩ := e
                    subst e1 e2 e3
                    rw [if_pos ⟨rfl, rfl, by omega, by omega, il, ck, by rw [v2, xq]; exact cq⟩]
                  · rw [if_neg e, if_neg (fun c2 => by
                      rcases Nat.lt_or_ge i p with q | q
                      · exact c1 ⟨c2.1, c2.2.1, q, c2.2.2.2⟩
                      · exact e ⟨c2.1, by omega, c2.2.1⟩)]
            · have yf : opB S (nI q) = true := opB_of q1 q60 cq
              rw [if_pos yf] at ef
              refine keep ?_ (fun c => absurd c.2.2 (by rw [v2, xq]; exact cq))
              rw [f_Tree_forgetClosedKeys_B2]
              simp only [t1, g77, g77', cond_true, r1, Option.bind_some, t3, show (Nat.ble 20 22 && Nat.ble 22 24) = true from rfl, ng, if_false, reduceIte, gA22' (show i < 61 by omega), xi, ri', n4', n6, tg, gpr, show ¬ (1 : Int32) = 0 from by decide, r13', reduceCtorEq, tq, cTag_pane, i0, ef, nI_1]
        · refine keep ?_ (fun q => absurd q.2.1 ck)
          have n4' : gInst h (some (A 7 i)) "GlkPanes$Pair" = some 0 := by rw [n4, decide_eq_false ck]; rfl
          rw [f_Tree_forgetClosedKeys_B2]
          simp only [t1, g77', cond_true, r1, Option.bind_some, t3, show (Nat.ble 20 22 && Nat.ble 22 24) = true from rfl, ng, if_false, reduceIte, gA22' (show i < 61 by omega), xi, ri', n4', if_true, nI_1]
end FK
