def GT (T : Nat → Nat → Option (Nat × Nat)) (c p : Nat) : Option (Nat × Nat) := if c = 1 ∧ p = 0 then some (7, 5) else if c = 2 ∧ p = 0 then some (0, 5) else if c = 3 ∧ p = 0 then some (22, 61) else if c = 4 ∧ p = 0 then some (23, 20) else if c = 5 ∧ p = 0 then some (20, 44) else if c = 6 ∧ p < 20 then some (20, 44) else T c p
def GN (K : KS) (w v : Int32) : Prop := K.2 0 0 0 = some (1, 0) ∧ K.2 0 0 1 = some (2, 0) ∧ K.2 1 0 0 = some (3, 0) ∧ K.2 2 0 0 = some (4, 0) ∧ K.2 2 0 1 = some (5, 0) ∧ (∀ i, i < 20 → K.2 4 0 i = some (6, i)) ∧ K.1 1 0 1 = 0 ∧ K.1 1 0 3 = w ∧ K.1 1 0 4 = v ∧ K.2 1 0 2 = none ∧ (∀ i, K.2 3 0 i = none) ∧ (∀ i, K.1 2 0 i = 0) ∧ (∀ i, K.1 5 0 i = 0)
theorem Hrep.intx {h : gHp} {A : Nat → Nat → Nat} {ρ : Nat → Nat × Nat} {T : Nat → Nat → Option (Nat × Nat)} {K : KS} {c p x : Nat} {t : Nat × Nat} (H : Hrep h A ρ T K) (ht : T c p = some t) (hx : A c p = x) (k : Nat) : gint h x k = K.1 c p k := by subst hx; exact H.int ht k
theorem G_new_ok {n x0 : Nat} {h : gHp} {A : Nat → Nat → Nat} {ρ : Nat → Nat × Nat} {T : Nat → Nat → Option (Nat × Nat)} {K : KS} {w0 v0 : Int32} {Q : Option gv → gHp → Prop} (H : Hrep h A ρ T K) (hT0 : T 0 0 = some (9, 2)) (hx : A 0 0 = x0) (hTn : ∀ c p, 1 ≤ c → c ≤ 6 → T c p = none) (hQ : ∀ h' A' ρ' K', Hrep h' A' ρ' (GT T) K' → (∀ c p, ¬ (1 ≤ c ∧ c ≤ 6) → A' c p = A c p) → (∀ c p i, ¬ c ≤ 6 → K'.1 c p i = K.1 c p i) → GN K' (if w0 < 4 then (4 : Int32) else if 60 < w0 then 60 else w0) (if v0 < 2 then (2 : Int32) else if 24 < v0 then 24 else v0) → Q none h') : w_G_new n h x0 w0 v0 Q := by
  unfold w_G_new
  intro x2 f2
  have H2 := H.new f2 2 0 (hTn 2 0 (by omega) (by omega)) 0 5
  unfold w_Events_new
  intro q fq
  have H3 := H2.new2 fq (by simp [uT, hTn]) (fun i => by simp [uT, hTn])
  refine ⟨by rw [H3.tagx (c := 2) (p := 0) (t := (0, 5)) (x := x2) (by simp [uT, N2T]) (by simp [uA, N2A])]; rfl, fun x5 f5 => ?_⟩
  have H4 := H3.rx (c := 2) (p := 0) (t := (0, 5)) (x := x2) (c' := 4) (p' := 0) (t' := (23, 20)) (y := q) (by simp [uT, N2T]) (by simp [uA, N2A]) (by simp [N2T]) (by simp [N2A]) 0
  have H5 := H4.new f5 5 0 (by simp [uT, N2T, hTn]) 20 44
  refine ⟨by rw [H5.tagx (c := 2) (p := 0) (t := (0, 5)) (x := x2) (by simp [uT, N2T]) (by simp [uA, N2A])]; rfl, ?_⟩
  have H6 := H5.rx (c := 2) (p := 0) (t := (0, 5)) (x := x2) (c' := 5) (p' := 0) (t' := (20, 44)) (y := x5) (by simp [uT, N2T]) (by simp [uA, N2A]) (by simp [uT]) (by simp [uA]) 1
  refine ⟨rfl, by rw [H6.tagx (c := 0) (p := 0) (t := (9, 2)) (x := x0) (by simp [uT, N2T, hT0]) (by simp [uA, N2A, hx])]; rfl, fun x1 f1 => ?_⟩
  have H7 := H6.rx (c := 0) (p := 0) (t := (9, 2)) (x := x0) (c' := 2) (p' := 0) (t' := (0, 5)) (y := x2) (by simp [uT, N2T, hT0]) (by simp [uA, N2A, hx]) (by simp [uT, N2T]) (by simp [uA, N2A]) 1
  have H8 := H7.new f1 1 0 (by simp [uT, N2T, hTn]) 7 5
  unfold w_Tree_new
  intro x3 f3
  have H9 := H8.new f3 3 0 (by simp [uT, N2T, hTn]) 22 61
  refine ⟨by rw [H9.tagx (c := 1) (p := 0) (t := (7, 5)) (x := x1) (by simp [uT]) (by simp [uA])]; rfl, ?_⟩
  have H10 := H9.rx (c := 1) (p := 0) (t := (7, 5)) (x := x1) (c' := 3) (p' := 0) (t' := (22, 61)) (y := x3) (by simp [uT]) (by simp [uA]) (by simp [uT]) (by simp [uA]) 0
  have g10 := H10.tagx (c := 1) (p := 0) (t := (7, 5)) (x := x1) (by simp [uT]) (by simp [uA])
  have hs : ∀ h' : gHp, gtag h' x1 = some (7, 5) → f_Tree_setScreen n h' x1 w0 v0 = some (gsetI (gsetI h' x1 3 (if w0 < 4 then (4 : Int32) else if 60 < w0 then 60 else w0)) x1 4 (if v0 < 2 then (2 : Int32) else if 24 < v0 then 24 else v0)) := by
    intro h' hg
    unfold f_Tree_setScreen
    rw [cl_eq w0 4 60 (by decide), cl_eq v0 2 24 (by decide)]
    simp only [gtag_setI, hg, g77', cond_true]
  have H11 := (H10.ix (c := 1) (p := 0) (t := (7, 5)) (x := x1) (by simp [uT]) (by simp [uA]) 3 (if w0 < 4 then (4 : Int32) else if 60 < w0 then 60 else w0)).ix (c := 1) (p := 0) (t := (7, 5)) (x := x1) (by simp [uT]) (by simp [uA]) 4 (if v0 < 2 then (2 : Int32) else if 24 < v0 then 24 else v0)
  refine ⟨_, by rw [g10, g77, cond_true]; exact hs _ g10, rfl, by rw [H11.tagx (c := 0) (p := 0) (t := (9, 2)) (x := x0) (by simp [uT, N2T, hT0]) (by simp [uA, N2A, hx])]; rfl, ?_⟩
  have H12 := H11.rx (c := 0) (p := 0) (t := (9, 2)) (x := x0) (c' := 1) (p' := 0) (t' := (7, 5)) (y := x1) (by simp [uT, N2T, hT0]) (by simp [uA, N2A, hx]) (by simp [uT]) (by simp [uA]) 0
  refine hQ _ _ _ _ (H12.congT (fun c p => ?_)) (fun c p hc => ?_) (fun c p i hc => ?_) ?_
  · match c with
    | 0 => simp [GT, uT, N2T]
    | 1 => simp [GT, uT, N2T]
    | 2 => simp [GT, uT, N2T]
    | 3 => simp [GT, uT, N2T]
    | 4 => simp [GT, uT, N2T]
    | 5 => simp [GT, uT, N2T]
    | 6 => simp [GT, uT, N2T]
    | c + 7 => simp [GT, uT, N2T]
  · rw [uA_ne (by omega), uA_ne (by omega), uA_ne (by omega)]
    unfold N2A
    rw [if_neg (by omega), if_neg (by omega), uA_ne (by omega)]
  · rw [KS.r_1, KS.i_1, if_neg (by omega), KS.i_1, if_neg (by omega), KS.r_1, KS.z_1, if_neg (by omega), KS.z_1, if_neg (by omega), KS.r_1, KS.r_1, KS.z_1, if_neg (by omega), KS.r_1, N2K_1, if_neg (by omega), if_neg (by omega), KS.z_1, if_neg (by omega)]
  · refine ⟨?_, ?_, ?_, ?_, ?_, fun i hi => ?_, ?_, ?_, ?_, ?_, fun i => ?_, fun i => ?_, fun i => ?_⟩
    all_goals simp [KS.r_2, KS.r_1, KS.i_1, KS.i_2, KS.z_1, KS.z_2, N2K_1, N2K_2]
    exact hi
theorem cell_ok {n b L i : Nat} {h : gHp} {y : Int32} {Q : Option gv → gHp → Prop} (hb : gtag h b = some (24, L)) (hL : L ≤ 2562) (hi : i < 10) (hy : gint h b i = y) (hQ : Q (some (.inl (if L ≤ i then 0 else y))) h) : w_Law_cell n h (some b) (nI i) Q := by
  unfold w_Law_cell
  refine ⟨b, rfl, (24, L), hb, rfl, fun c => ?_, fun c => ⟨b, rfl, ?_, ?_⟩⟩
  · have c' : L ≤ i := (nI_lei (by omega) (by omega)).mp c
    rw [if_pos c'] at hQ; exact hQ
  · have c' : ¬ L ≤ i := fun q => c ((nI_lei (by omega) (by omega)).mpr q)
    rw [hb]
    exact inn (show i < L by omega) (by omega)
  · have c' : ¬ L ≤ i := fun q => c ((nI_lei (by omega) (by omega)).mpr q)
    rw [if_neg c'] at hQ
    rw [ixn (by omega), hy]; exact hQ
