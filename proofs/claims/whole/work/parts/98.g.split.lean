/-! ===== open beside a pane ===== -/
def mk1 (S : MS) (a : Nat) (k : Int32) : MS := (((S.f 2 (nI (a + 1))).a 4 (a + 1) 1).a 5 (a + 1) k).a 6 (a + 1) 0
def mk2 (S : MS) (a k m z : Nat) : MS := (((mk1 (mk1 S a (nI k)) (a + 1) 4).a 9 (a + 2) (nI m)).a 10 (a + 2) (nI z)).a 11 (a + 2) (nI (a + 1))
theorem mk1_2 (S : MS) (a : Nat) (k : Int32) (k' q : Nat) : (mk1 S a k).2 k' q = if k' = 6 ∧ q = a + 1 then 0 else if k' = 5 ∧ q = a + 1 then k else if k' = 4 ∧ q = a + 1 then 1 else S.2 k' q := rfl
theorem mk2_2 (S : MS) (a k m z : Nat) (k' q : Nat) : (mk2 S a k m z).2 k' q = if k' = 11 ∧ q = a + 2 then nI (a + 1) else if k' = 10 ∧ q = a + 2 then nI z else if k' = 9 ∧ q = a + 2 then nI m else if k' = 6 ∧ q = a + 2 then 0 else if k' = 5 ∧ q = a + 2 then 4 else if k' = 4 ∧ q = a + 2 then 1 else (mk1 S a (nI k)).2 k' q := rfl
theorem mk2_1 (S : MS) (a k m z : Nat) (k' : Nat) : (mk2 S a k m z).1 k' = if k' = 2 then nI (a + 2) else if k' = 2 then nI (a + 1) else S.1 k' := rfl
theorem e_join {h : gHp} {A : Nat → Nat → Nat} {ρ : Nat → Nat × Nat} {L a P n m f g : Nat} {kd : Nat → Int32} {K : KS} (H : Hrep h A ρ (cT L a kd) K) (hp : pnN a P = true) (hk : kd P = 4) (k11 : K.1 7 P 11 = nI m) (hm : m < 16) (hf : pnN a f = true) (hg : pnN a g = true) : ∃ h', f_Pair_join n h (A 7 P) (some (A 7 f)) (some (A 7 g)) = some h' ∧ Hrep h' A ρ (cT L a kd) ((K.r 7 P 14 (some (7, if m % 2 = 0 then f else g))).r 7 P 15 (some (7, if m % 2 = 0 then g else f))) := by
  have t7 : cT L a kd 7 P = some (cTag (kd P)) := cT7 hp
  have tg : gtag h (A 7 P) = some (3, 16) := by rw [H.tag t7, hk]; rfl
  have i11 : gint h (A 7 P) 11 = nI m := by rw [H.int t7, k11]
  obtain ⟨b1, -, -, -, -⟩ := bits m hm
  have tR : ∀ (h : gHp) (x i : Nat) (o : Option Nat) (y : Nat), gtag (gsetR h x i o) y = gtag h y := fun _ _ _ _ _ => rfl
  have iR : ∀ (h : gHp) (x i : Nat) (o : Option Nat) (y l : Nat), gint (gsetR h x i o) y l = gint h y l := fun _ _ _ _ _ _ => rfl
  by_cases c : m % 2 = 0
  · refine ⟨gsetR (gsetR h (A 7 P) 14 (some (A 7 f))) (A 7 P) 15 (some (A 7 g)), ?_, ?_⟩
    · unfold f_Pair_join f_Pair_measuresFirst
      simp only [tR, iR, tg, gpr, gpr', cond_true, i11, b1.mpr c, if_true, reduceIte, Option.bind_some, show ¬ (1 : Int32) = 0 from by decide, if_false]
    · rw [if_pos c, if_pos c]
      exact (H.r t7 14 (some (7, f)) (clo_pane hf)).r t7 15 (some (7, g)) (clo_pane hg)
  · have nb : ¬ nI m &&& 1 = 0 := fun q => c (b1.mp q)
    refine ⟨gsetR (gsetR h (A 7 P) 14 (some (A 7 g))) (A 7 P) 15 (some (A 7 f)), ?_, ?_⟩
    · unfold f_Pair_join f_Pair_measuresFirst
      simp only [tR, iR, tg, gpr, gpr', cond_true, i11, nb, if_true, reduceIte, Option.bind_some, if_false]
    · rw [if_neg c, if_neg c]
      exact (H.r t7 14 (some (7, g)) (clo_pane hg)).r t7 15 (some (7, f)) (clo_pane hf)
/-- the pair's object -/
theorem new_pair {h : gHp} {A : Nat → Nat → Nat} {ρ : Nat → Nat × Nat} {L a n m z F : Nat} {kd kd' : Nat → Int32} {K : KS} {Q : Option gv → gHp → Prop} {y : Nat} (H : Hrep h A ρ (cT L a kd) K) (hy : gtag h y = none) (hk' : kd' (a + 1) = 4) (hkd : ∀ p, p ≤ a → kd' p = kd p) (hF : pnN a F = true) (hQ : ∀ h' A' ρ' K', Hrep h' A' ρ' (cT L (a + 1) kd') K' → A' 7 (a + 1) = y → (∀ c p, ¬ (c = 7 ∧ p = a + 1) → A' c p = A c p) → (∀ c p j, ¬ (c = 7 ∧ p = a + 1) → K'.1 c p j = K.1 c p j ∧ K'.2 c p j = K.2 c p j) → (∀ j, K'.1 7 (a + 1) j = if j = 12 then nI z else if j = 11 then nI m else if j = 1 then 4 else if j = 0 then nI (a + 1) else if j = 10 then 1 else 0) → (∀ j, K'.2 7 (a + 1) j = if j = 13 then some (7, F) else none) → Q none h') : w_Pair_new n (gnew h y 3 16) y (nI (a + 1)) (nI m) (nI z) (some (A 7 F)) Q := by
  have n7 : cT L a kd 7 (a + 1) = none := cT_new (by omega) (by omega) (by omega)
  have N := H.new hy 7 (a + 1) n7 3 16
  have N' : Hrep (gnew h y 3 16) (uA A 7 (a + 1) y) (uR ρ y 7 (a + 1)) (cT L (a + 1) kd') (K.z 7 (a + 1)) := N.congT (fun c p => by
    rw [cT_succ hkd c p]
    by_cases q : 7 ≤ c ∧ c ≤ 14 ∧ p = a + 1
    · rw [if_pos q]
      obtain ⟨q1, q2, q3⟩ := q
      subst q3
      rcases (by omega : c = 7 ∨ c = 8 ∨ c = 9 ∨ c = 10 ∨ c = 11 ∨ c = 12 ∨ c = 13 ∨ c = 14) with rfl | rfl | rfl | rfl | rfl | rfl | rfl | rfl
      · rw [uT_of, hk']; rfl
      all_goals
        rw [uT_ne (by omega), cT_new (by omega) (by omega) (by omega), hk']; rfl
    · rw [if_neg q, uT_ne (by omega)])
  have hp : pnN (a + 1) (a + 1) = true := pnN_of (by omega) (Nat.le_refl _)
  have hF' : pnN (a + 1) F = true := by have := pnN_le hF; exact pnN_of (by omega) (by omega)
  have t7 : cT L (a + 1) kd' 7 (a + 1) = some (3, 16) := by rw [cT7 hp, hk']; rfl
  have tF : cT L (a + 1) kd' 7 F = some (cTag (kd' F)) := cT7 hF'
  have aF : uA A 7 (a + 1) y 7 F = A 7 F := uA_ne (by have := pnN_le hF; omega)
  unfold w_Pair_new
  refine new_pane N' t7 uA_of rfl (fun h1 H1 => ⟨rfl, ?_⟩)
  have g1 := H1.tagx t7 uA_of
  have tI : ∀ (h : gHp) (x i : Nat) (o : Int32) (y : Nat), gtag (gsetI h x i o) y = gtag h y := fun _ _ _ _ _ => rfl
  refine ⟨by rw [g1]; rfl, by rw [tI, g1]; rfl, by rw [tI, tI, g1]; rfl, ?_⟩
  have H2 := ((H1.ix t7 uA_of 11 (nI m)).ix t7 uA_of 12 (nI z)).rx t7 uA_of tF aF 13
  refine hQ _ _ _ _ H2 uA_of (fun c p q => uA_ne q) (fun c p j q => ⟨?_, ?_⟩) (fun j => ?_) (fun j => ?_)
  · rw [KS.r_1, KS.i_1, if_neg (by omega), KS.i_1, if_neg (by omega), KS.i_1, if_neg (by omega), KS.i_1, if_neg (by omega), KS.i_1, if_neg (by omega), KS.z_1, if_neg q]
  · rw [KS.r_2, if_neg (by omega)]
    simp only [KS.i_2]
    rw [KS.z_2, if_neg q]
  · rw [KS.r_1, KS.i_1, KS.i_1, KS.i_1, KS.i_1, KS.i_1, KS.z_1, if_pos (show 7 = 7 ∧ a + 1 = a + 1 from ⟨rfl, rfl⟩)]
    simp only [true_and]
  · rw [KS.r_2]
    simp only [KS.i_2, true_and]
    rw [KS.z_2, if_pos (show 7 = 7 ∧ a + 1 = a + 1 from ⟨rfl, rfl⟩)]
