def tT0 (L c p : Nat) : Option (Nat × Nat) := if c = 17 ∧ p = 0 then some (24, L) else none
theorem wMs_ofx {R : gHp → Prop} {l : List Nat} {h : gHp} {A : Nat → Nat → Nat} {ρ : Nat → Nat × Nat} {T : Nat → Nat → Option (Nat × Nat)} {K : KS} {x : Nat} (hx : A 15 0 = x) (H : Hrep h A ρ T K) (hT : T 15 0 = some (10, 44)) (hn : l.Nodup) (hN : ∀ k, k ∈ l → T 16 k = none) (hR : ∀ h' A' ρ' K', Hrep h' A' ρ' (fun c p => if c = 16 ∧ p ∈ l then some (mTg p, mLn p) else T c p) K' → (∀ c p, ¬ c = 16 → A' c p = A c p) → (∀ c p i, ¬ (c = 16 ∧ p ∈ l) → K'.1 c p i = K.1 c p i) → (∀ c p i, ¬ c = 16 → ¬ (c = 15 ∧ p = 0 ∧ i ∈ l) → K'.2 c p i = K.2 c p i) → (∀ p i, p ∈ l → K'.1 16 p i = 0) → (∀ k, k ∈ l → K'.2 15 0 k = some (16, k)) → R h') : wMs l h x R := by
  subst hx; exact wMs_of l h A ρ T K H hT hn hN hR
theorem mNs_all : ∀ p, p < 44 → (Nat.ble (p + 1) 44 && gisR (gTy 10 p)) = decide (p ∈ mNs) := by decide
theorem mNs_lt : ∀ p, p ∈ mNs → p < 44 := by decide
theorem pnN_0 (p : Nat) : pnN 0 p = false := by
  cases e : pnN 0 p with
  | false => rfl
  | true => have := pnN_le e; omega
theorem cT_0 {L : Nat} {kd : Nat → Int32} (c p : Nat) : cT L 0 kd c p = if c = 16 ∧ p ∈ mNs then some (mTg p, mLn p) else uT (GT (uT (tT0 L) 0 0 (9, 2))) 15 0 (10, 44) c p := by
  have b0 : ∀ t : Nat × Nat, oIf (Nat.beq p 0) t = if p = 0 then some t else none := fun t => by
    by_cases e : p = 0
    · rw [if_pos e, nbq.mpr e]; rfl
    · rw [if_neg e, nbq_ne e]; rfl
  have b1 : ∀ t : Nat × Nat, oIf (pnN 0 p) t = none := fun t => by rw [pnN_0]; rfl
  have b2 : ∀ (q : Bool) (t : Nat × Nat), oIf (pnN 0 p && q) t = none := fun q t => by rw [pnN_0]; rfl
  match c with
  | 0 => show oIf (Nat.beq p 0) _ = _; rw [b0]; simp [GT, uT, tT0]
  | 1 => show oIf (Nat.beq p 0) _ = _; rw [b0]; simp [GT, uT, tT0]
  | 2 => show oIf (Nat.beq p 0) _ = _; rw [b0]; simp [GT, uT, tT0]
  | 3 => show oIf (Nat.beq p 0) _ = _; rw [b0]; simp [GT, uT, tT0]
  | 4 => show oIf (Nat.beq p 0) _ = _; rw [b0]; simp [GT, uT, tT0]
  | 5 => show oIf (Nat.beq p 0) _ = _; rw [b0]; simp [GT, uT, tT0]
  | 6 =>
    show oIf (Nat.ble (p + 1) 20) _ = _
    by_cases e : p < 20
    · rw [Nat.ble_eq_true_of_le (show p + 1 ≤ 20 by omega)]; simp [GT, uT, tT0, e, oIf]
    · have : Nat.ble (p + 1) 20 = false := by
        cases w : Nat.ble (p + 1) 20 with
        | false => rfl
        | true => have := Nat.le_of_ble_eq_true w; omega
      rw [this]; simp [GT, uT, tT0, e, oIf]
  | 7 => show oIf (pnN 0 p) _ = _; rw [b1]; simp [GT, uT, tT0]
  | 8 => show oIf (pnN 0 p && _) _ = _; rw [b2]; simp [GT, uT, tT0]
  | 9 => show oIf (pnN 0 p && _) _ = _; rw [b2]; simp [GT, uT, tT0]
  | 10 => show oIf (pnN 0 p && _) _ = _; rw [b2]; simp [GT, uT, tT0]
  | 11 => show oIf (pnN 0 p && _) _ = _; rw [b2]; simp [GT, uT, tT0]
  | 12 => show oIf (pnN 0 p && _) _ = _; rw [b2]; simp [GT, uT, tT0]
  | 13 => show oIf (pnN 0 p && _) _ = _; rw [b2]; simp [GT, uT, tT0]
  | 14 => show oIf (pnN 0 p && _) _ = _; rw [b2]; simp [GT, uT, tT0]
  | 15 => show oIf (Nat.beq p 0) _ = _; rw [b0]; simp [GT, uT, tT0]
  | 16 =>
    show oIf (Nat.ble (p + 1) 44 && gisR (gTy 10 p)) _ = _
    by_cases e : p < 44
    · rw [mNs_all p e]
      by_cases w : p ∈ mNs
      · rw [decide_eq_true w, if_pos ⟨rfl, w⟩]; rfl
      · rw [decide_eq_false w, if_neg (fun q => w q.2)]; simp [GT, uT, tT0, oIf]
    · have : Nat.ble (p + 1) 44 = false := by
        cases w : Nat.ble (p + 1) 44 with
        | false => rfl
        | true => have := Nat.le_of_ble_eq_true w; omega
      rw [this, if_neg (fun q => e (mNs_lt p q.2))]; simp [GT, uT, tT0, oIf]
  | 17 => show oIf (Nat.beq p 0) _ = _; rw [b0]; simp [GT, uT, tT0]
  | c + 18 => show none = _; simp [GT, uT, tT0]
theorem law0_ok {n b L : Nat} {xs : Nat → Int32} (hL : L ≤ 2562) : w_law0 n (gh0 b L xs) b (fun h ax am => Iv b L ax am 0 h) := by
  have H0 : Hrep (gh0 b L xs) (fun _ _ => b) (fun _ => (17, 0)) (tT0 L) (fun _ _ k => xs k, fun _ _ _ => none) := by
    intro c p t ht
    have ht : (if c = 17 ∧ p = 0 then some (24, L) else none) = some t := ht
    by_cases e : c = 17 ∧ p = 0
    · rw [if_pos e] at ht
      refine ⟨?_, by rw [e.1, e.2], fun k => ?_, fun k => rfl, fun k q hq => by cases hq⟩
      · show (if b = b then some (24, L) else none) = some t
        rw [if_pos rfl, ht]
      · show (if b = b then xs k else 0) = xs k
        rw [if_pos rfl]
    · rw [if_neg e] at ht; cases ht
  unfold w_law0
  intro x0 f0
  have H1 := H0.new f0 0 0 (by simp [tT0]) 9 2
  have B1 := H1.tagx (c := 17) (p := 0) (t := (24, L)) (x := b) (by simp [uT, tT0]) (by simp [uA])
  have I1 : ∀ k, gint (gnew (gh0 b L xs) x0 9 2) b k = xs k := fun k => by
    rw [H1.intx (c := 17) (p := 0) (t := (24, L)) (x := b) (by simp [uT, tT0]) (by simp [uA]) k, KS.z_1, if_neg (by omega)]
  refine cell_ok (i := 0) (y := xs 0) B1 hL (by omega) (I1 0) ⟨_, rfl, cell_ok (i := 1) (y := xs 1) B1 hL (by omega) (I1 1) ⟨_, rfl, ?_⟩⟩
  obtain ⟨w0, hw0⟩ : ∃ w0, w0 = (if L ≤ 0 then 0 else xs 0) := ⟨_, rfl⟩
  obtain ⟨v0, hv0⟩ : ∃ v0, v0 = (if L ≤ 1 then 0 else xs 1) := ⟨_, rfl⟩
  rw [← hw0, ← hv0]
  refine G_new_ok H1 uT_of uA_of (fun c p c1 c2 => by rw [uT_ne (by omega)]; unfold tT0; rw [if_neg (by omega)]) (fun h2 A2 ρ2 K2 N1 N2 N3 N4 => ⟨rfl, fun x15 f15 => ?_⟩)
  have H2 := N1.new f15 15 0 (by simp [GT, uT, tT0]) 10 44
  have A17 : A2 17 0 = b := by rw [N2 17 0 (by omega), uA_ne (by omega)]
  have A0 : A2 0 0 = x0 := by rw [N2 0 0 (by omega), uA_of]
  have B2 := H2.tagx (c := 17) (p := 0) (t := (24, L)) (x := b) (by simp [GT, uT, tT0]) (by rw [uA_ne (by omega)]; exact A17)
  have I2 : ∀ k, gint (gnew h2 x15 10 44) b k = xs k := fun k => by
    rw [H2.intx (c := 17) (p := 0) (t := (24, L)) (x := b) (by simp [GT, uT, tT0]) (by rw [uA_ne (by omega)]; exact A17) k, KS.z_1, if_neg (by omega), N3 17 0 k (by omega), KS.z_1, if_neg (by omega)]
  refine cell_ok (i := 0) (y := xs 0) B2 hL (by omega) (I2 0) ⟨_, rfl, cell_ok (i := 1) (y := xs 1) B2 hL (by omega) (I2 1) ⟨_, rfl, ?_⟩⟩
  rw [← hw0, ← hv0]
  obtain ⟨w, hw⟩ : ∃ w, w = (if w0 < 4 then (4 : Int32) else if 60 < w0 then 60 else w0) := ⟨_, rfl⟩
  obtain ⟨v, hv⟩ : ∃ v, v = (if v0 < 2 then (2 : Int32) else if 24 < v0 then 24 else v0) := ⟨_, rfl⟩
  have bw := cl_bd w0 4 60 (by decide)
  have bv := cl_bd v0 2 24 (by decide)
  rw [← hw, show (4 : Int32).toInt = 4 by decide, show (60 : Int32).toInt = 60 by decide] at bw
  rw [← hv, show (2 : Int32).toInt = 2 by decide, show (24 : Int32).toInt = 24 by decide] at bv
  rw [← hw, ← hv] at N4
  refine M_new_of (wMs_ofx uA_of H2 uT_of (by decide) (fun k hk => by simp [GT, uT, tT0]) (fun h3 A3 ρ3 K3 G1 G2 G3 G4 G5 G6 => ?_))
  have t15 : (if 15 = 16 ∧ 0 ∈ mNs then some (mTg 0, mLn 0) else uT (GT (uT (tT0 L) 0 0 (9, 2))) 15 0 (10, 44) 15 0) = some (10, 44) := by rw [if_neg (by omega), uT_of]
  have A15 : A3 15 0 = x15 := by rw [G2 15 0 (by omega), uA_of]
  have tg3 := G1.tagx (c := 15) (p := 0) t15 A15
  refine ⟨_, e_nearH n h3 w0 4 60, by rw [tg3]; rfl, _, e_nearH n _ v0 2 24, by rw [gtag_setI, tg3]; rfl, rfl, ?_⟩
  rw [← hw, ← hv]
  have H4 := (G1.ix (c := 15) (p := 0) t15 A15 0 w).ix (c := 15) (p := 0) t15 A15 1 v
  obtain ⟨K4, hK4⟩ : ∃ K4, K4 = (K3.i 15 0 0 w).i 15 0 1 v := ⟨_, rfl⟩
  rw [← hK4] at H4
  have ki : ∀ c p i, K4.1 c p i = if c = 15 ∧ p = 0 ∧ i = 1 then v else if c = 15 ∧ p = 0 ∧ i = 0 then w else K3.1 c p i := fun c p i => by rw [hK4, KS.i_1, KS.i_1]
  have kr : K4.2 = K3.2 := by rw [hK4, KS.i_2, KS.i_2]
  obtain ⟨n1, n2, n3, n4, n5, n6, n7, n8, n9, n10, n11, n12, n13⟩ := N4
  have r2 : ∀ c p i, c ≤ 6 → K4.2 c p i = K2.2 c p i := fun c p i hc => by rw [kr, G4 c p i (by omega) (by omega), KS.z_2, if_neg (by omega)]
  have i2 : ∀ c p i, c ≤ 6 → K4.1 c p i = K2.1 c p i := fun c p i hc => by rw [ki, if_neg (by omega), if_neg (by omega), G3 c p i (by omega), KS.z_1, if_neg (by omega)]
  have z0 : ∀ N : Nat, bd 0 N := fun N => ⟨by decide, by show (0 : Int32).toInt ≤ (N : Int); rw [show (0 : Int32).toInt = 0 by decide]; omega⟩
  have np : ∀ p, ¬ pnN 0 p = true := fun p q => by rw [pnN_0] at q; cases q
  refine ⟨A3, ρ3, K4, (fun k => if k = 0 then w else if k = 1 then v else 0, fun _ _ => 0), 0, 0, fun _ => false, by rw [G2 17 0 (by omega), uA_ne (by omega)]; exact A17, by rw [G2 0 0 (by omega), uA_ne (by omega)]; exact A0, A15, H4.congT (fun c p => cT_0 c p), ?_, ?_, ?_, fun p hp => absurd hp (np p)⟩
  · refine ⟨fun k hk => ?_, fun k hk hr => ?_⟩
    · show K4.1 15 0 k = if k = 0 then w else if k = 1 then v else 0
      rw [ki]
      by_cases c1 : k = 1
      · subst c1; rfl
      · by_cases c0 : k = 0
        · subst c0; rfl
        · rw [if_neg (fun q => c1 q.2.2), if_neg (fun q => c0 q.2.2), if_neg c0, if_neg c1, G3 15 0 k (by omega), KS.z_1, if_pos ⟨rfl, rfl⟩]
    · have hm : k ∈ mNs := by
        have := mNs_all k hk
        rw [hr, Nat.ble_eq_true_of_le (show k + 1 ≤ 44 by omega)] at this
        exact of_decide_eq_true this.symm
      refine ⟨by rw [kr]; exact G6 k hm, fun i => ?_⟩
      show K4.1 16 k i = 0
      rw [ki, if_neg (by omega), if_neg (by omega)]; exact G5 k i hm
  · refine ⟨⟨by rw [r2 0 0 0 (by omega)]; exact n1, by rw [r2 0 0 1 (by omega)]; exact n2, by rw [r2 1 0 0 (by omega)]; exact n3, by rw [r2 2 0 0 (by omega)]; exact n4, by rw [r2 2 0 1 (by omega)]; exact n5, fun i hi => by rw [r2 4 0 i (by omega)]; exact n6 i hi, fun p hp => absurd hp (np p), fun p hp => absurd hp (np p)⟩, ⟨by rw [i2 1 0 1 (by omega)]; exact n7, by rw [i2 1 0 3 (by omega)]; exact n8, by rw [i2 1 0 4 (by omega)]; exact n9, by rw [r2 1 0 2 (by omega)]; exact n10, fun i hi => by rw [r2 3 0 i (by omega)]; exact n11 i⟩, fun p hp => absurd hp (np p), fun p hp => absurd hp (np p), fun p hp => absurd hp (np p), fun p hp => absurd hp (np p), fun p hp => absurd hp (np p), fun p hp => absurd hp (np p), ⟨by rw [i2 2 0 4 (by omega)]; exact n12 4, by rw [i2 2 0 2 (by omega)]; exact n12 2, by rw [i2 2 0 3 (by omega)]; exact n12 3, by omega, fun i k hi _ => absurd hi (Nat.not_lt_zero i), fun k _ => by rw [i2 5 0 k (by omega)]; exact n13 k⟩, fun p hp => absurd hp (np p)⟩
  · refine ⟨⟨by omega, rfl, rfl, fun _ _ => Or.inl rfl, fun p _ q => absurd rfl q, fun p hp => absurd hp (np p)⟩, ⟨fun p _ => ?_, fun p _ => ?_, ?_, Or.inl rfl⟩, ⟨fun p k _ hk => absurd hk (Nat.not_lt_zero k), fun p k _ hk => absurd hk (Nat.not_lt_zero k), fun p k hp => absurd hp (np p)⟩, ⟨fun _ _ => Or.inl rfl, fun p hp => absurd hp (np p)⟩, fun p _ _ => ⟨fun _ _ => rfl, fun _ _ => rfl⟩, fun p _ q => absurd rfl q, Or.inl ⟨rfl, fun _ _ => rfl⟩, ⟨⟨bw.1, bw.2, bv.1, bv.2⟩, fun p _ => ?_, fun q => absurd rfl q, fun p _ q => absurd rfl q⟩, fun p _ q => absurd rfl q⟩
    · exact ⟨z0 10, z0 999, z0 99, z0 _, z0 400, z0 40, z0 40, Int.le_refl _, z0 999⟩
    · exact ⟨Or.inl rfl, z0 60⟩
    · exact z0 20
    · show 0 ≤ (0 : Int32).toInt ∧ 0 ≤ (0 : Int32).toInt ∧ 0 ≤ (0 : Int32).toInt ∧ 0 ≤ (0 : Int32).toInt ∧ (0 : Int32).toInt + (0 : Int32).toInt ≤ 60 ∧ (0 : Int32).toInt + (0 : Int32).toInt ≤ 24
      decide
