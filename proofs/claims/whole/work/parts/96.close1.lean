/-! ===== close: the loops ===== -/
theorem cl_open {S0 : MS} {P a : Nat} {x2 : Int32} {l' : List Nat} (ha : a ≤ 60) (s2 : S0.1 2 = nI a) (h01 : ∀ x, 1 ≤ x → x ≤ a → S0.2 4 x = 0 → ¬ x ∈ l') (hW : ∀ (n : Nat) (S : MS) (x : Nat), 100 ≤ n → S.2 6 = S0.2 6 → 1 ≤ x → x ≤ a → ¬ S0.2 4 x = 0 → ∃ b, f_M_isWithin n S (nI x) (nI P) = some (b32 b, S) ∧ (x ∈ l' ↔ (b = false ∧ ¬ nI x = x2))) : ∀ (d i n : Nat) (S : MS), 1 ≤ i → i + d = a + 1 → 200 + d < n → S.1 = S0.1 → (∀ k, ¬ k = 4 → S.2 k = S0.2 k) → (∀ x, i ≤ x → S.2 4 x = S0.2 4 x) → ∃ S' n', n ≤ n' + d + 1 ∧ f_M_close_B68 n S (nI P) x2 (nI i) = f_M_close_B118 n' S' (nI P) (nI 1) ∧ S'.1 = S0.1 ∧ (∀ k, ¬ k = 4 → S'.2 k = S0.2 k) ∧ (∀ x, S'.2 4 x = if i ≤ x ∧ x ≤ a then (if x ∈ l' then 1 else 0) else S.2 4 x) := by
  intro d
  induction d with
  | zero =>
    intro i n S hi h1 h2 r1 r2 r3
    cases n with
    | zero => omega
    | succ n =>
      refine ⟨S, n, by omega, ?_, r1, r2, fun x => by rw [if_neg (by omega)]⟩
      rw [f_M_close_B68, r1, s2, if_pos (nI_lt (by omega) (by omega))]
      rfl
  | succ d ih =>
    intro i n S hi h1 h2 r1 r2 r3
    cases n with
    | zero => omega
    | succ n =>
      have step : ∀ v : Int32, v = (if i ∈ l' then 1 else 0) → f_M_close_B68 (n + 1) S (nI P) x2 (nI i) = f_M_close_B68 n (S.a 4 i v) (nI P) x2 (nI (i + 1)) → ∃ S' n', n + 1 ≤ n' + (d + 1) + 1 ∧ f_M_close_B68 (n + 1) S (nI P) x2 (nI i) = f_M_close_B118 n' S' (nI P) (nI 1) ∧ S'.1 = S0.1 ∧ (∀ k, ¬ k = 4 → S'.2 k = S0.2 k) ∧ (∀ x, S'.2 4 x = if i ≤ x ∧ x ≤ a then (if x ∈ l' then 1 else 0) else S.2 4 x) := by
        intro v hv he
        obtain ⟨S', n', a1, a2, a3, a4, a5⟩ := ih (i + 1) n (S.a 4 i v) (by omega) (by omega) (by omega) r1 (fun k hk => by rw [← r2 k hk]; funext q; rw [MS.a_2, if_neg (by omega)]) (fun x hx => by rw [MS.a_2, if_neg (by omega)]; exact r3 x (by omega))
        refine ⟨S', n', by omega, by rw [he, a2], a3, a4, fun x => ?_⟩
        rw [a5]
        by_cases c1 : i + 1 ≤ x ∧ x ≤ a
        · rw [if_pos c1, if_pos (show i ≤ x ∧ x ≤ a by omega)]
        · rw [if_neg c1, MS.a_2]
          by_cases c2 : x = i
          · subst c2
            rw [if_pos ⟨rfl, rfl⟩, if_pos (show x ≤ x ∧ x ≤ a by omega), hv]
          · rw [if_neg (by omega), if_neg (show ¬ (i ≤ x ∧ x ≤ a) by omega)]
      have bi := inn (show i < 61 by omega) (by decide)
      have xi := ixn (show i < 2 ^ 31 by omega)
      have z0 : isZ 0 = true := rfl
      have z1 : isZ 1 = true := rfl
      by_cases c0 : S.2 4 i = 0
      · have c0' : S0.2 4 i = 0 := by rw [← r3 i (by omega)]; exact c0
        refine step 0 (by rw [if_neg (h01 i hi (by omega) c0')]) ?_
        rw [f_M_close_B68, r1, s2, if_neg (nI_nlt (by omega) (by omega))]
        simp only [bi, xi, cond_true, c0, if_true, reduceIte, z0, nI_1]
      · have c0' : ¬ S0.2 4 i = 0 := by rw [← r3 i (by omega)]; exact c0
        obtain ⟨b, w1, w2⟩ := hW n S i (by omega) (r2 6 (by decide)) hi (by omega) c0'
        cases b with
        | true =>
          refine step 0 (by rw [if_neg (fun q => by have := (w2.mp q).1; cases this)]) ?_
          rw [f_M_close_B68, r1, s2, if_neg (nI_nlt (by omega) (by omega))]
          simp only [bi, xi, cond_true, c0, if_false, reduceIte, w1, b32_t, Option.bind_some, show ¬ (1 : Int32) = 0 from by decide, z0, nI_1]
        | false =>
          by_cases c2 : nI i = x2
          · refine step 0 (by rw [if_neg (fun q => (w2.mp q).2 c2)]) ?_
            rw [f_M_close_B68, r1, s2, if_neg (nI_nlt (by omega) (by omega))]
            subst c2
            simp only [bi, xi, cond_true, c0, if_false, reduceIte, w1, b32_f, Option.bind_some, if_true, z0, nI_1]
          · refine step 1 (by rw [if_pos (w2.mpr ⟨rfl, c2⟩)]) ?_
            rw [f_M_close_B68, r1, s2, if_neg (nI_nlt (by omega) (by omega))]
            simp only [bi, xi, cond_true, c0, if_false, reduceIte, w1, b32_f, Option.bind_some, if_true, c2, z1, nI_1]
theorem cl_keys {S0 : MS} {P a : Nat} (ha : a ≤ 60) (s2 : S0.1 2 = nI a) (hb : ∀ p, p ≤ 60 → bd (S0.2 11 p) 60) : ∀ (d i n : Nat) (S : MS), 1 ≤ i → i + d = a + 1 → d < n → S.1 = S0.1 → (∀ k, ¬ k = 11 → S.2 k = S0.2 k) → (∀ x, i ≤ x → S.2 11 x = S0.2 11 x) → ∃ S' n', n ≤ n' + d + 1 ∧ f_M_close_B118 n S (nI P) (nI i) = (f_M_arrangeAll n' S').bind (fun q2 => (bif inB (nI P) 61 then some ((q2).2 18 (ix (nI P)), q2) else none)) ∧ S'.1 = S0.1 ∧ (∀ k, ¬ k = 11 → S'.2 k = S0.2 k) ∧ (∀ x, S'.2 11 x = if i ≤ x ∧ x ≤ a ∧ S0.2 5 x = 4 ∧ S0.2 4 (ix (S0.2 11 x)) = 0 then 0 else S.2 11 x) := by
  intro d
  induction d with
  | zero =>
    intro i n S hi h1 h2 r1 r2 r3
    cases n with
    | zero => omega
    | succ n =>
      refine ⟨S, n, by omega, ?_, r1, r2, fun x => by rw [if_neg (by omega)]⟩
      rw [f_M_close_B118, r1, s2, if_pos (nI_lt (by omega) (by omega))]
  | succ d ih =>
    intro i n S hi h1 h2 r1 r2 r3
    cases n with
    | zero => omega
    | succ n =>
      have bi := inn (show i < 61 by omega) (by decide)
      have xi := ixn (show i < 2 ^ 31 by omega)
      obtain ⟨q, q1, q2⟩ := bd_n (hb i (by omega))
      have e11 : S.2 11 i = nI q := by rw [r3 i (by omega), q2]
      have bq := inn (show q < 61 by omega) (by decide)
      have xq := ixn (show q < 2 ^ 31 by omega)
      have keep : f_M_close_B118 (n + 1) S (nI P) (nI i) = f_M_close_B118 n S (nI P) (nI (i + 1)) → ¬ (S0.2 5 i = 4 ∧ S0.2 4 (ix (S0.2 11 i)) = 0) → ∃ S' n', n + 1 ≤ n' + (d + 1) + 1 ∧ f_M_close_B118 (n + 1) S (nI P) (nI i) = (f_M_arrangeAll n' S').bind (fun q2 => (bif inB (nI P) 61 then some ((q2).2 18 (ix (nI P)), q2) else none)) ∧ S'.1 = S0.1 ∧ (∀ k, ¬ k = 11 → S'.2 k = S0.2 k) ∧ (∀ x, S'.2 11 x = if i ≤ x ∧ x ≤ a ∧ S0.2 5 x = 4 ∧ S0.2 4 (ix (S0.2 11 x)) = 0 then 0 else S.2 11 x) := by
        intro he hc
        obtain ⟨S', n', a1, a2, a3, a4, a5⟩ := ih (i + 1) n S (by omega) (by omega) (by omega) r1 r2 (fun x hx => r3 x (by omega))
        refine ⟨S', n', by omega, by rw [he, a2], a3, a4, fun x => ?_⟩
        rw [a5]
        by_cases c1 : i + 1 ≤ x ∧ x ≤ a ∧ S0.2 5 x = 4 ∧ S0.2 4 (ix (S0.2 11 x)) = 0
        · rw [if_pos c1, if_pos ⟨by omega, c1.2⟩]
        · rw [if_neg c1, if_neg (fun c => by
            rcases Nat.lt_or_ge i x with q | q
            · exact c1 ⟨q, c.2⟩
            · have e : x = i := by omega
              subst e
              exact hc c.2.2)]
      by_cases c5 : S0.2 5 i = 4
      · have c5' : S.2 5 i = 4 := by rw [r2 5 (by decide)]; exact c5
        have e4 : S.2 4 = S0.2 4 := r2 4 (by decide)
        by_cases c4 : S0.2 4 q = 0
        · obtain ⟨S', n', a1, a2, a3, a4, a5⟩ := ih (i + 1) n (S.a 11 i 0) (by omega) (by omega) (by omega) r1 (fun k hk => by rw [← r2 k hk]; funext y; rw [MS.a_2, if_neg (by omega)]) (fun x hx => by rw [MS.a_2, if_neg (by omega)]; exact r3 x (by omega))
          refine ⟨S', n', by omega, ?_, a3, a4, fun x => ?_⟩
          · rw [← a2, f_M_close_B118, r1, s2, if_neg (nI_nlt (by omega) (by omega))]
            simp only [bi, xi, cond_true, c5', if_true, reduceIte, e11, bq, xq, e4, c4, nI_1]
          · rw [a5]
            by_cases c1 : i + 1 ≤ x ∧ x ≤ a ∧ S0.2 5 x = 4 ∧ S0.2 4 (ix (S0.2 11 x)) = 0
            · rw [if_pos c1, if_pos ⟨by omega, c1.2⟩]
            · rw [if_neg c1, MS.a_2]
              by_cases e : x = i
              · subst e
                rw [if_pos ⟨rfl, rfl⟩, if_pos ⟨by omega, by omega, c5, by rw [q2, xq]; exact c4⟩]
              · rw [if_neg (fun c => e c.2), if_neg (fun c => by
                  rcases Nat.lt_or_ge i x with q | q
                  · exact c1 ⟨q, c.2⟩
                  · omega)]
        · refine keep ?_ (fun c => c4 (by have := c.2; rw [q2, xq] at this; exact this))
          rw [f_M_close_B118, r1, s2, if_neg (nI_nlt (by omega) (by omega))]
          simp only [bi, xi, cond_true, c5', if_true, reduceIte, e11, bq, xq, e4, c4, if_false, nI_1]
      · have c5' : ¬ S.2 5 i = 4 := by rw [r2 5 (by decide)]; exact c5
        refine keep ?_ (fun c => c5 c.1)
        rw [f_M_close_B118, r1, s2, if_neg (nI_nlt (by omega) (by omega))]
        simp only [bi, xi, cond_true, c5', if_false, reduceIte, nI_1]
section FW
variable {A : Nat → Nat → Nat} {ρ : Nat → Nat × Nat} {L a P n : Nat} {kd : Nat → Int32} {K0 : KS} {lc lP : List Nat}
theorem gArr22 {i : Nat} (hi : i < 61) : gArr (some (22, 61)) 22 (nI i) = true := gArr_n hi (by decide)
/-- P and what is below it are forgotten -/
theorem fw_loop (r3 : K0.2 1 0 0 = some (3, 0)) (hP : pnN a P = true) (hPl : P ∈ lP) (h3 : ∀ x, x ≤ 60 → K0.2 3 0 x = if x ∈ lc then some (7, x) else none) (hpn : ∀ x, x ∈ lc → pnN a x = true) (hB : ∀ (n : Nat) (h : gHp) (K : KS) (x : Nat), 100 ≤ n → Hrep h A ρ (cT L a kd) K → K.2 7 = K0.2 7 → x ∈ lc → ¬ x = P → f_G_isBelow n h (some (A 7 x)) (some (A 7 P)) = some (b32 (decide (x ∈ lP)), h)) : ∀ (d i n : Nat) (h : gHp) (K : KS), i + d = 61 → 200 + d < n → Hrep h A ρ (cT L a kd) K → K.1 = K0.1 → (∀ c, ¬ c = 3 → K.2 c = K0.2 c) → (∀ x, i ≤ x → x ≤ 60 → K.2 3 0 x = K0.2 3 0 x) → ∃ h' K', f_Tree_forgetWithAllBelow_B2 (A 1 0) n h (some (A 7 P)) (nI i) = some h' ∧ Hrep h' A ρ (cT L a kd) K' ∧ K'.1 = K0.1 ∧ (∀ c, ¬ c = 3 → K'.2 c = K0.2 c) ∧ ∀ x, x ≤ 60 → K'.2 3 0 x = if i ≤ x then (if x ∈ lc ∧ ¬ x ∈ lP then some (7, x) else none) else K.2 3 0 x := by
  intro d
  induction d with
  | zero =>
    intro i n h K h1 h2 H k1 k2 k3
    cases n with
    | zero => omega
    | succ n =>
      have t1 : gtag h (A 1 0) = some (7, 5) := H.tag (c := 1) (p := 0) rfl
      have t3 : gtag h (A 3 0) = some (22, 61) := H.tag (c := 3) (p := 0) rfl
      have r1 : gref h (A 1 0) 0 = some (A 3 0) := by rw [H.ref (c := 1) (p := 0) (t := (7, 5)) rfl, k2 1 (by decide), r3]; rfl
      refine ⟨h, K, ?_, H, k1, k2, fun x hx => by rw [if_neg (by omega)]⟩
      rw [f_Tree_forgetWithAllBelow_B2]
      simp only [t1, g77', cond_true, r1, Option.bind_some, t3, show (Nat.ble 20 22 && Nat.ble 22 24) = true from rfl, if_pos (show Int32.ofNat 61 ≤ nI i from nI_le (a := 61) (by omega) (by omega))]
  | succ d ih =>
    intro i n h K h1 h2 H k1 k2 k3
    cases n with
    | zero => omega
    | succ n =>
      have t1 : gtag h (A 1 0) = some (7, 5) := H.tag (c := 1) (p := 0) rfl
      have t3 : gtag h (A 3 0) = some (22, 61) := H.tag (c := 3) (p := 0) rfl
      have r1 : gref h (A 1 0) 0 = some (A 3 0) := by rw [H.ref (c := 1) (p := 0) (t := (7, 5)) rfl, k2 1 (by decide), r3]; rfl
      have ri : gref h (A 3 0) i = aM A (if i ∈ lc then some (7, i) else none) := by rw [H.ref (c := 3) (p := 0) (t := (22, 61)) rfl, k3 i (by omega) (by omega), h3 i (by omega)]
      have ng : ¬ Int32.ofNat 61 ≤ nI i := nI_ge (a := i) (b := 61) (by omega) (by decide)
      have pk : ∀ h' : gHp, gPnk h' none = true := fun _ => rfl
      have keep : f_Tree_forgetWithAllBelow_B2 (A 1 0) (n + 1) h (some (A 7 P)) (nI i) = f_Tree_forgetWithAllBelow_B2 (A 1 0) n h (some (A 7 P)) (nI (i + 1)) → K.2 3 0 i = (if i ∈ lc ∧ ¬ i ∈ lP then some (7, i) else none) → ∃ h' K', f_Tree_forgetWithAllBelow_B2 (A 1 0) (n + 1) h (some (A 7 P)) (nI i) = some h' ∧ Hrep h' A ρ (cT L a kd) K' ∧ K'.1 = K0.1 ∧ (∀ c, ¬ c = 3 → K'.2 c = K0.2 c) ∧ ∀ x, x ≤ 60 → K'.2 3 0 x = if i ≤ x then (if x ∈ lc ∧ ¬ x ∈ lP then some (7, x) else none) else K.2 3 0 x := by
        intro he hc
        obtain ⟨h', K', a1, a2, a3, a4, a5⟩ := ih (i + 1) n h K (by omega) (by omega) H k1 k2 (fun x hx hx' => k3 x (by omega) hx')
        refine ⟨h', K', by rw [he, a1], a2, a3, a4, fun x hx => ?_⟩
        rw [a5 x hx]
        by_cases c1 : i + 1 ≤ x
        · rw [if_pos c1, if_pos (show i ≤ x by omega)]
        · rw [if_neg c1]
          by_cases c2 : i ≤ x
          · have e : x = i := by omega
            subst e
            rw [if_pos c2, hc]
          · rw [if_neg c2]
      have drop : f_Tree_forgetWithAllBelow_B2 (A 1 0) (n + 1) h (some (A 7 P)) (nI i) = f_Tree_forgetWithAllBelow_B2 (A 1 0) n (gsetR h (A 3 0) i none) (some (A 7 P)) (nI (i + 1)) → ¬ (i ∈ lc ∧ ¬ i ∈ lP) → ∃ h' K', f_Tree_forgetWithAllBelow_B2 (A 1 0) (n + 1) h (some (A 7 P)) (nI i) = some h' ∧ Hrep h' A ρ (cT L a kd) K' ∧ K'.1 = K0.1 ∧ (∀ c, ¬ c = 3 → K'.2 c = K0.2 c) ∧ ∀ x, x ≤ 60 → K'.2 3 0 x = if i ≤ x then (if x ∈ lc ∧ ¬ x ∈ lP then some (7, x) else none) else K.2 3 0 x := by
        intro he hc
        have HH := H.r (c := 3) (p := 0) (t := (22, 61)) rfl i none clo_none
        obtain ⟨h', K', a1, a2, a3, a4, a5⟩ := ih (i + 1) n (gsetR h (A 3 0) i none) (K.r 3 0 i none) (by omega) (by omega) HH k1 (fun c hc' => by rw [← k2 c hc']; funext y k; rw [KS.r_2, if_neg (fun e => hc' e.1)]) (fun x hx hx' => by rw [KS.r_2, if_neg (by omega)]; exact k3 x (by omega) hx')
        refine ⟨h', K', by rw [he, a1], a2, a3, a4, fun x hx => ?_⟩
        rw [a5 x hx]
        by_cases c1 : i + 1 ≤ x
        · rw [if_pos c1, if_pos (show i ≤ x by omega)]
        · rw [if_neg c1, KS.r_2]
          by_cases c2 : i ≤ x
          · have e : x = i := by omega
            subst e
            rw [if_pos ⟨rfl, rfl, rfl⟩, if_pos c2, if_neg hc]
          · rw [if_neg (show ¬ (3 = 3 ∧ 0 = 0 ∧ x = i) by omega), if_neg c2]
      by_cases ci : i ∈ lc
      · rw [if_pos ci] at ri
        have ri' : gref h (A 3 0) i = some (A 7 i) := ri
        have k3i : K.2 3 0 i = some (7, i) := by rw [k3 i (by omega) (by omega), h3 i (by omega), if_pos ci]
        by_cases cP : i = P
        · refine drop ?_ (fun q => q.2 (by rw [cP]; exact hPl))
          rw [f_Tree_forgetWithAllBelow_B2]
          simp only [t1, g77', cond_true, r1, Option.bind_some, t3, show (Nat.ble 20 22 && Nat.ble 22 24) = true from rfl, ng, if_false, reduceIte, gA22' (show i < 61 by omega), ixn (show i < 2 ^ 31 by omega), ri', reduceCtorEq, gArr22 (show i < 61 by omega), Bool.true_or, pk, nI_1]
          rw [if_pos (by rw [cP])]
        · have ne : ¬ some (A 7 i) = some (A 7 P) := fun q => cP ((H.inj (cT7 (hpn i ci)) (cT7 hP)).mp (Option.some.inj q)).2
          have b1 := hB n h K i (by omega) H (k2 7 (by decide)) ci cP
          by_cases cl : i ∈ lP
          · rw [decide_eq_true cl] at b1
            refine drop ?_ (fun q => q.2 cl)
            rw [f_Tree_forgetWithAllBelow_B2]
            simp only [t1, g77', cond_true, r1, Option.bind_some, t3, show (Nat.ble 20 22 && Nat.ble 22 24) = true from rfl, ng, if_false, reduceIte, gA22' (show i < 61 by omega), ixn (show i < 2 ^ 31 by omega), ri', reduceCtorEq, ne, b1, b32_t, show ¬ (1 : Int32) = 0 from by decide, gArr22 (show i < 61 by omega), Bool.true_or, pk, nI_1]
          · rw [decide_eq_false cl] at b1
            refine keep ?_ (by rw [if_pos ⟨ci, cl⟩]; exact k3i)
            rw [f_Tree_forgetWithAllBelow_B2]
            simp only [t1, g77', cond_true, r1, Option.bind_some, t3, show (Nat.ble 20 22 && Nat.ble 22 24) = true from rfl, ng, if_false, reduceIte, gA22' (show i < 61 by omega), ixn (show i < 2 ^ 31 by omega), ri', reduceCtorEq, ne, b1, b32_f, if_true, nI_1]
      · rw [if_neg ci] at ri
        have ri' : gref h (A 3 0) i = none := ri
        refine keep ?_ (by rw [if_neg (fun q => ci q.1), k3 i (by omega) (by omega), h3 i (by omega), if_neg ci])
        rw [f_Tree_forgetWithAllBelow_B2]
        simp only [t1, g77', cond_true, r1, Option.bind_some, t3, show (Nat.ble 20 22 && Nat.ble 22 24) = true from rfl, ng, if_false, reduceIte, gA22' (show i < 61 by omega), ixn (show i < 2 ^ 31 by omega), ri', if_true, nI_1]
end FW
