/-! ===== the constructors ===== -/
theorem nr_eq (x lo hi : Int32) : (if lo ≤ x then (if x ≤ hi then x else hi) else lo) = (if x < lo then lo else if hi < x then hi else x) := by
  by_cases c : x < lo
  · rw [if_pos c, if_neg (Int32.not_le.mpr c)]
  · rw [if_neg c, if_pos (Int32.not_lt.mp c)]
    by_cases d : hi < x
    · rw [if_pos d, if_neg (Int32.not_le.mpr d)]
    · rw [if_neg d, if_pos (Int32.not_lt.mp d)]
theorem e_nearH (n : Nat) (h : gHp) (x lo hi : Int32) : fH_nearest n h x lo hi = some (if x < lo then lo else if hi < x then hi else x, h) := by
  rw [← nr_eq]
  unfold fH_nearest
  split
  · split <;> rfl
  · rfl
def N2A (A : Nat → Nat → Nat) (q c p : Nat) : Nat := if c = 4 ∧ p = 0 then q else if c = 6 ∧ p < 20 then q + 1 + p else A c p
def N2R (ρ : Nat → Nat × Nat) (q y : Nat) : Nat × Nat := if y = q then (4, 0) else if q < y ∧ y ≤ q + 20 then (6, y - q - 1) else ρ y
def N2T (T : Nat → Nat → Option (Nat × Nat)) (c p : Nat) : Option (Nat × Nat) := if c = 4 ∧ p = 0 then some (23, 20) else if c = 6 ∧ p < 20 then some (20, 44) else T c p
def N2K (K : KS) : KS := (fun c p k => if c = 4 ∧ p = 0 then 0 else if c = 6 ∧ p < 20 then 0 else K.1 c p k, fun c p k => if c = 4 ∧ p = 0 then (if k < 20 then some (6, k) else none) else if c = 6 ∧ p < 20 then none else K.2 c p k)
theorem gtag_new2 (h : gHp) (q n k y : Nat) : gtag (gnew2 h q n k) y = if y = q then some (23, n) else if q < y ∧ y ≤ q + n then some (20, k) else gtag h y := rfl
theorem gint_new2 (h : gHp) (q n k y j : Nat) : gint (gnew2 h q n k) y j = if q ≤ y ∧ y ≤ q + n then 0 else gint h y j := rfl
theorem gref_new2 (h : gHp) (q n k y j : Nat) : gref (gnew2 h q n k) y j = if y = q then (if j < n then some (q + 1 + j) else none) else if q < y ∧ y ≤ q + n then none else gref h y j := rfl
theorem N2K_1 (K : KS) (c p k : Nat) : (N2K K).1 c p k = if c = 4 ∧ p = 0 then 0 else if c = 6 ∧ p < 20 then 0 else K.1 c p k := rfl
theorem N2K_2 (K : KS) (c p k : Nat) : (N2K K).2 c p k = if c = 4 ∧ p = 0 then (if k < 20 then some (6, k) else none) else if c = 6 ∧ p < 20 then none else K.2 c p k := rfl
theorem Hrep.new2 {h : gHp} {A : Nat → Nat → Nat} {ρ : Nat → Nat × Nat} {T : Nat → Nat → Option (Nat × Nat)} {K : KS} {q : Nat} (H : Hrep h A ρ T K) (hq : ∀ i, i ≤ 20 → gtag h (q + i) = none) (t4 : T 4 0 = none) (t6 : ∀ i, T 6 i = none) : Hrep (gnew2 h q 20 44) (N2A A q) (N2R ρ q) (N2T T) (N2K K) := by
  intro c p t ht
  by_cases e4 : c = 4 ∧ p = 0
  · obtain ⟨rfl, rfl⟩ := e4
    have ea : N2A A q 4 0 = q := rfl
    have ht : some (23, 20) = some t := ht
    rw [ea]
    refine ⟨by rw [gtag_new2, if_pos rfl, ht], if_pos rfl, fun k => ?_, fun k => ?_, fun k => ?_⟩
    · rw [gint_new2, if_pos (by omega)]; rfl
    · rw [gref_new2, if_pos rfl, N2K_2, if_pos (show 4 = 4 ∧ 0 = 0 from ⟨rfl, rfl⟩)]
      by_cases w : k < 20
      · rw [if_pos w, if_pos w]
        show some (q + 1 + k) = some (N2A A q 6 k)
        rw [show N2A A q 6 k = q + 1 + k from by unfold N2A; rw [if_neg (by omega), if_pos ⟨rfl, w⟩]]
      · rw [if_neg w, if_neg w]; rfl
    · rw [N2K_2, if_pos (show 4 = 4 ∧ 0 = 0 from ⟨rfl, rfl⟩)]
      by_cases w : k < 20
      · rw [if_pos w]
        intro y hy
        cases hy
        exact ⟨(20, 44), by unfold N2T; rw [if_neg (by omega), if_pos ⟨rfl, w⟩]⟩
      · rw [if_neg w]; intro y hy; cases hy
  · by_cases e6 : c = 6 ∧ p < 20
    · have ht : N2T T c p = some t := ht
      unfold N2T at ht
      rw [if_neg e4, if_pos e6] at ht
      have ea : N2A A q c p = q + 1 + p := by unfold N2A; rw [if_neg e4, if_pos e6]
      rw [ea]
      refine ⟨by rw [gtag_new2, if_neg (by omega), if_pos (by omega), ht], ?_, fun k => ?_, fun k => ?_, fun k => ?_⟩
      · unfold N2R; rw [if_neg (by omega), if_pos (by omega), e6.1, show q + 1 + p - q - 1 = p by omega]
      · rw [gint_new2, if_pos (by omega), N2K_1, if_neg e4, if_pos e6]
      · rw [gref_new2, if_neg (by omega), if_pos (by omega), N2K_2, if_neg e4, if_pos e6]; rfl
      · rw [N2K_2, if_neg e4, if_pos e6]; intro y hy; cases hy
    · have ht : N2T T c p = some t := ht
      unfold N2T at ht
      rw [if_neg e4, if_neg e6] at ht
      have ea : N2A A q c p = A c p := by unfold N2A; rw [if_neg e4, if_neg e6]
      rw [ea]
      have ne : ¬ (q ≤ A c p ∧ A c p ≤ q + 20) := fun w => by
        have h1 := H.tag ht
        have h2 := hq (A c p - q) (by omega)
        rw [show q + (A c p - q) = A c p by omega, h1] at h2
        cases h2
      have nk : ∀ y, K.2 c p y = none ∨ ∃ o, K.2 c p y = some o ∧ ¬ (o.1 = 4 ∧ o.2 = 0) ∧ ¬ (o.1 = 6 ∧ o.2 < 20) ∧ ∃ t, T o.1 o.2 = some t := fun y => by
        cases w : K.2 c p y with
        | none => exact Or.inl rfl
        | some o =>
          obtain ⟨t', ht'⟩ := (H c p t ht).2.2.2.2 y o w
          refine Or.inr ⟨o, rfl, fun w' => ?_, fun w' => ?_, t', ht'⟩
          · rw [w'.1, w'.2, t4] at ht'; cases ht'
          · rw [w'.1, t6] at ht'; cases ht'
      refine ⟨by rw [gtag_new2, if_neg (by omega), if_neg (by omega)]; exact H.tag ht, ?_, fun k => ?_, fun k => ?_, fun k => ?_⟩
      · unfold N2R; rw [if_neg (by omega), if_neg (by omega)]; exact (H c p t ht).2.1
      · rw [gint_new2, if_neg ne, N2K_1, if_neg e4, if_neg e6]; exact H.int ht k
      · rw [gref_new2, if_neg (by omega), if_neg (by omega), N2K_2, if_neg e4, if_neg e6, H.ref ht k]
        rcases nk k with w | ⟨o, w, w1, w2, -⟩
        · rw [w]; rfl
        · rw [w]
          show some (A o.1 o.2) = some (N2A A q o.1 o.2)
          rw [show N2A A q o.1 o.2 = A o.1 o.2 from by unfold N2A; rw [if_neg w1, if_neg w2]]
      · rw [N2K_2, if_neg e4, if_neg e6]
        rcases nk k with w | ⟨o, w, w1, w2, t', w3⟩
        · rw [w]; intro y hy; cases hy
        · rw [w]
          intro y hy
          cases hy
          exact ⟨t', by unfold N2T; rw [if_neg w1, if_neg w2]; exact w3⟩
/-! the reference's rows -/
def mNs : List Nat := [4, 5, 6, 7, 8, 9, 10, 11, 12, 13, 14, 15, 16, 17, 18, 19, 20, 21, 22, 23, 24, 25, 26, 27, 28, 29, 30, 31, 32, 33, 34, 35, 36, 37, 39, 40, 43]
def wMs : List Nat → gHp → Nat → (gHp → Prop) → Prop
  | [], h, _, R => R h
  | k :: l, h, a0, R => ∀ x, gtag h x = none → gtin (gtag (gnew h x (mTg k) (mLn k)) a0) [10] = true ∧ wMs l (gsetR (gnew h x (mTg k) (mLn k)) a0 k (some x)) a0 R
theorem wMs_of {R : gHp → Prop} : ∀ (l : List Nat) (h : gHp) (A : Nat → Nat → Nat) (ρ : Nat → Nat × Nat) (T : Nat → Nat → Option (Nat × Nat)) (K : KS), Hrep h A ρ T K → T 15 0 = some (10, 44) → l.Nodup → (∀ k, k ∈ l → T 16 k = none) → (∀ h' A' ρ' K', Hrep h' A' ρ' (fun c p => if c = 16 ∧ p ∈ l then some (mTg p, mLn p) else T c p) K' → (∀ c p, ¬ c = 16 → A' c p = A c p) → (∀ c p i, ¬ (c = 16 ∧ p ∈ l) → K'.1 c p i = K.1 c p i) → (∀ c p i, ¬ c = 16 → ¬ (c = 15 ∧ p = 0 ∧ i ∈ l) → K'.2 c p i = K.2 c p i) → (∀ p i, p ∈ l → K'.1 16 p i = 0) → (∀ k, k ∈ l → K'.2 15 0 k = some (16, k)) → R h') → wMs l h (A 15 0) R := by
  intro l
  induction l with
  | nil =>
    intro h A ρ T K H _ _ _ hR
    exact hR h A ρ K (H.congT (fun c p => by rw [if_neg (fun w => List.not_mem_nil w.2)])) (fun _ _ _ => rfl) (fun _ _ _ _ => rfl) (fun _ _ _ _ _ => rfl) (fun _ _ w => absurd w List.not_mem_nil) (fun _ w => absurd w List.not_mem_nil)
  | cons k l ih =>
    intro h A ρ T K H hT hnd hN hR x hx
    obtain ⟨nd1, nd2⟩ := List.nodup_cons.mp hnd
    have H1 := H.new hx 16 k (hN k List.mem_cons_self) (mTg k) (mLn k)
    have T15 : uT T 16 k (mTg k, mLn k) 15 0 = some (10, 44) := by rw [uT_ne (by omega)]; exact hT
    have A15 : uA A 16 k x 15 0 = A 15 0 := uA_ne (by omega)
    have H2 := H1.rx T15 A15 uT_of uA_of k
    refine ⟨by rw [H1.tagx T15 A15]; rfl, ?_⟩
    have := ih _ (uA A 16 k x) _ _ _ H2 T15 nd2 (fun k' hk' => by
      rw [uT_ne (fun w => nd1 (by rw [← w.2]; exact hk'))]; exact hN k' (List.mem_cons_of_mem _ hk')) (fun h' A' ρ' K' G1 G2 G3 G4 G5 G6 => ?_)
    · rw [A15] at this; exact this
    · refine hR h' A' ρ' K' (G1.congT (fun c p => ?_)) (fun c p hc => by rw [G2 c p hc, uA_ne (fun w => hc w.1)]) (fun c p i hc => ?_) (fun c p i hc hc' => ?_) (fun p i hp => ?_) (fun k' hk' => ?_)
      · by_cases w : c = 16 ∧ p ∈ l
        · rw [if_pos w, if_pos ⟨w.1, List.mem_cons_of_mem _ w.2⟩]
        · rw [if_neg w]
          by_cases w' : c = 16 ∧ p = k
          · rw [if_pos ⟨w'.1, by rw [w'.2]; exact List.mem_cons_self⟩, w'.1, w'.2, uT_of]
          · rw [uT_ne w', if_neg (fun w'' => (List.mem_cons.mp w''.2).elim (fun e => w' ⟨w''.1, e⟩) (fun e => w ⟨w''.1, e⟩))]
      · rw [G3 c p i (fun w => hc ⟨w.1, List.mem_cons_of_mem _ w.2⟩), KS.r_1, KS.z_1, if_neg (fun w => hc ⟨w.1, by rw [w.2]; exact List.mem_cons_self⟩)]
      · rw [G4 c p i hc (fun w => hc' ⟨w.1, w.2.1, List.mem_cons_of_mem _ w.2.2⟩), KS.r_2, if_neg (fun w => hc' ⟨w.1, w.2.1, by rw [w.2.2]; exact List.mem_cons_self⟩), KS.z_2, if_neg (fun w => hc w.1)]
      · by_cases w : p ∈ l
        · exact G5 p i w
        · have e : p = k := (List.mem_cons.mp hp).resolve_right w
          rw [G3 16 p i (fun w' => w w'.2), KS.r_1, KS.z_1, if_pos ⟨rfl, e⟩]
      · by_cases w : k' ∈ l
        · exact G6 k' w
        · have e : k' = k := (List.mem_cons.mp hk').resolve_right w
          rw [G4 15 0 k' (by omega) (fun w' => w w'.2.2), KS.r_2, if_pos ⟨rfl, rfl, e⟩, e]
theorem M_new_of {n a0 : Nat} {h : gHp} {x1 x2 : Int32} {Q : Option gv → gHp → Prop} (H : wMs mNs h a0 (fun h => ∃ q38, fH_nearest n h x1 4 60 = some q38 ∧ (gtin (gtag (q38.2) a0) [10] = true ∧ (∃ q39, fH_nearest n (gsetI (q38.2) a0 0 (q38.1)) (x2) ((2 : Int32)) ((24 : Int32)) = some q39 ∧ (gtin (gtag (q39.2) a0) [10] = true ∧ Q none (gsetI (q39.2) a0 1 (q39.1))))))) : w_M_new n h a0 x1 x2 Q := H
