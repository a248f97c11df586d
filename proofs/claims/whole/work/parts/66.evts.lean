/-! ===== rows as a whole; events ===== -/
def MS.g (S : MS) (r : Nat) (φ : Nat → Int32) : MS := (S.1, fun k' j' => if k' = r then φ j' else S.2 k' j')
theorem MS.g_2 (S : MS) (r : Nat) (φ : Nat → Int32) (k j : Nat) : (S.g r φ).2 k j = if k = r then φ j else S.2 k j := rfl
theorem MS.f_2 (S : MS) (k : Nat) (x : Int32) : (S.f k x).2 = S.2 := rfl
theorem MS.g_0 (S : MS) (r : Nat) (φ : Nat → Int32) : (S.g r φ).1 = S.1 := rfl
theorem MS.ext {S T : MS} (h1 : ∀ k, S.1 k = T.1 k) (h2 : ∀ k j, S.2 k j = T.2 k j) : S = T := Prod.ext (funext h1) (funext fun k => funext fun j => h2 k j)
def KS.g (K : KS) (c p : Nat) (φ : Nat → Int32) : KS := (fun c' p' k' => bif Nat.beq c' c && Nat.beq p' p then φ k' else K.1 c' p' k', K.2)
theorem KS.g_1 (K : KS) (c p : Nat) (φ : Nat → Int32) (c' p' k' : Nat) : (K.g c p φ).1 c' p' k' = if c' = c ∧ p' = p then φ k' else K.1 c' p' k' := by
  show (bif Nat.beq c' c && Nat.beq p' p then φ k' else K.1 c' p' k') = _
  by_cases h1 : c' = c
  · by_cases h2 : p' = p
    · rw [if_pos ⟨h1, h2⟩, nbq.mpr h1, nbq.mpr h2]; rfl
    · rw [if_neg (fun q => h2 q.2), nbq_ne h2]; simp
  · rw [if_neg (fun q => h1 q.1), nbq_ne h1]; simp
theorem Hrep.g {h h' : gHp} {A : Nat → Nat → Nat} {ρ : Nat → Nat × Nat} {T : Nat → Nat → Option (Nat × Nat)} {K : KS} {c p : Nat} {t : Nat × Nat} {φ : Nat → Int32} (H : Hrep h A ρ T K) (ht : T c p = some t) (h1 : ∀ b, gtag h' b = gtag h b) (h2 : ∀ b k, gref h' b k = gref h b k) (h3 : ∀ b k, b ≠ A c p → gint h' b k = gint h b k) (h4 : ∀ k, gint h' (A c p) k = φ k) : Hrep h' A ρ T (K.g c p φ) := by
  intro c1 p1 t1 q1
  refine ⟨by rw [h1]; exact H.tag q1, (H c1 p1 t1 q1).2.1, fun k => ?_, fun k => by rw [h2]; exact H.ref q1 k, (H c1 p1 t1 q1).2.2.2.2⟩
  rw [KS.g_1]
  by_cases e : c1 = c ∧ p1 = p
  · rw [if_pos e, e.1, e.2]; exact h4 k
  · rw [if_neg e, h3 _ _ (H.ne q1 ht e)]; exact H.int q1 k
def gfil (h : gHp) (b : Nat) (v : Int32) (i N : Nat) : gHp := (h.1, fun b' j => if b' = b ∧ i ≤ j ∧ j < N then v else h.2.1 b' j, h.2.2)
theorem gHp.ext {h h' : gHp} (h1 : ∀ b, gtag h b = gtag h' b) (h2 : ∀ b j, gint h b j = gint h' b j) (h3 : ∀ b j, gref h b j = gref h' b j) : h = h' :=
  Prod.ext (funext h1) (Prod.ext (funext fun b => funext fun j => h2 b j) (funext fun b => funext fun j => h3 b j))
theorem gint_fil (h : gHp) (b : Nat) (v : Int32) (i N b' j : Nat) : gint (gfil h b v i N) b' j = if b' = b ∧ i ≤ j ∧ j < N then v else gint h b' j := rfl
theorem gArr_n {c M i : Nat} (h : i < M) (hM : M < 2 ^ 31) : gArr (some (c, M)) c (nI i) = true := by
  show (Nat.beq c c && inB (nI i) M) = true
  rw [nbq.mpr rfl, inn h hM]; rfl
theorem e_fill2 : ∀ (n : Nat) (h : gHp) (b M N i : Nat) (v : Int32), gtag h b = some (20, M) → N ≤ M → M < 2 ^ 31 → i ≤ N → N - i < n → f_Arrays_fill_2_B5 n h (some b) v (nI i) (nI N) = some (gfil h b v i N) := by
  intro n
  induction n with
  | zero => intro h b M N i v h1 h2 h3 h4 h5; omega
  | succ n ih =>
    intro h b M N i v h1 h2 h3 h4 h5
    unfold f_Arrays_fill_2_B5
    by_cases c : N ≤ i
    · rw [if_pos (nI_le c (by omega))]
      refine congrArg some (gHp.ext (fun _ => rfl) (fun b' j => ?_) (fun _ _ => rfl))
      rw [gint_fil, if_neg (by omega)]
    · rw [if_neg (nI_ge (by omega) (by omega))]
      simp only [Option.bind_some, h1, gArr_n (show i < M by omega) h3, cond_true, ixn (show i < 2 ^ 31 by omega), nI_1]
      rw [ih (gsetI h b i v) b M N (i + 1) v h1 h2 h3 (by omega) (by omega)]
      refine congrArg some (gHp.ext (fun _ => rfl) (fun b' j => ?_) (fun _ _ => rfl))
      rw [gint_fil, gint_fil, gint_setI]
      by_cases e1 : b' = b ∧ i ≤ j ∧ j < N
      · rw [if_pos e1]
        by_cases e2 : b' = b ∧ i + 1 ≤ j ∧ j < N
        · rw [if_pos e2]
        · rw [if_neg e2, if_pos ⟨e1.1, by omega⟩]
      · rw [if_neg e1, if_neg (by omega), if_neg (by omega)]
/-- the reference's events -/
theorem e_moveB : ∀ (n : Nat) (S : MS) (f t i : Nat), f ≤ 20 → t ≤ 20 → ¬ f = t → i ≤ 44 → 44 - i < n → f_M_move_B2 n S (nI f) (nI t) (nI i) = some (S.g 43 (fun q => if 44 * t + i ≤ q ∧ q < 44 * t + 44 then S.2 43 (44 * f + (q - 44 * t)) else S.2 43 q)) := by
  intro n
  induction n with
  | zero => intro S f t i h1 h2 h3 h4 h5; omega
  | succ n ih =>
    intro S f t i h1 h2 h3 h4 h5
    unfold f_M_move_B2
    by_cases c : 44 ≤ i
    · rw [if_pos (show (44 : Int32) ≤ nI i from nI_le (a := 44) c (by omega))]
      refine congrArg some (MS.ext (fun _ => rfl) (fun k q => ?_))
      rw [MS.g_2]
      split
      · rename_i e; rw [e, if_neg (by omega)]
      · rfl
    · rw [if_neg (show ¬ (44 : Int32) ≤ nI i from nI_ge (a := i) (b := 44) (by omega) (by omega))]
      have e1 : (44 : Int32) * nI f + nI i = nI (44 * f + i) := by rw [show (44 : Int32) = nI 44 from rfl, pk_mul, nI_add]
      have e2 : (44 : Int32) * nI t + nI i = nI (44 * t + i) := by rw [show (44 : Int32) = nI 44 from rfl, pk_mul, nI_add]
      rw [e1, e2, inn (show 44 * f + i < 924 by omega) (by decide), inn (show 44 * t + i < 924 by omega) (by decide), ixn (show 44 * f + i < 2 ^ 31 by omega), ixn (show 44 * t + i < 2 ^ 31 by omega), nI_1]
      simp only [cond_true]
      rw [ih _ f t (i + 1) h1 h2 h3 (by omega) (by omega)]
      refine congrArg some (MS.ext (fun _ => rfl) (fun k q => ?_))
      rw [MS.g_2, MS.g_2]
      by_cases e3 : k = 43
      · rw [if_pos e3, if_pos e3]
        by_cases e4 : 44 * t + (i + 1) ≤ q ∧ q < 44 * t + 44
        · rw [if_pos e4, if_pos (by omega), MS.a_2, if_neg (by omega)]
        · rw [if_neg e4, MS.a_2]
          by_cases e5 : q = 44 * t + i
          · rw [if_pos ⟨rfl, e5⟩, if_pos (by omega), show q - 44 * t = i by omega]
          · rw [if_neg (by omega), if_neg (by omega)]
      · rw [if_neg e3, if_neg e3, MS.a_2, if_neg (by omega)]
def mvS (S : MS) (f t : Nat) : MS := S.g 43 (fun q => if 44 * t ≤ q ∧ q < 44 * t + 44 then S.2 43 (44 * f + (q - 44 * t)) else S.2 43 q)
theorem e_move {n : Nat} (hn : 45 ≤ n) (S : MS) {f t : Nat} (h1 : f ≤ 20) (h2 : t ≤ 20) (h3 : ¬ f = t) : f_M_move n S (nI f) (nI t) = some (mvS S f t) :=
  e_moveB n S f t 0 h1 h2 h3 (by omega) (by omega)
theorem e_dropB : ∀ (n : Nat) (S : MS) (m k : Nat), S.1 41 = nI m → 1 ≤ k → k ≤ m → m ≤ 20 → m - k + 46 ≤ n → f_M_drop_B2 n S (nI k) = some ((S.g 43 (fun q => if 44 * (k - 1) ≤ q ∧ q < 44 * (m - 1) then S.2 43 (q + 44) else S.2 43 q)).f 41 (nI (m - 1))) := by
  intro n
  induction n with
  | zero => intro S m k h1 h2 h3 h4 h5; omega
  | succ n ih =>
    intro S m k h1 h2 h3 h4 h5
    unfold f_M_drop_B2
    rw [h1]
    have em : nI m - 1 = nI (m - 1) := pk_sub (a := m) (b := 1) (by omega)
    by_cases c : m ≤ k
    · rw [if_pos (nI_le c (by omega)), em]
      refine congrArg some (MS.ext (fun _ => rfl) (fun r q => ?_))
      rw [MS.f_2, MS.f_2, MS.g_2]
      split
      · rename_i e; rw [e, if_neg (by omega)]
      · rfl
    · rw [if_neg (nI_ge (by omega) (by omega)), show nI k - 1 = nI (k - 1) from pk_sub (a := k) (b := 1) (by omega), e_move (by omega) S (by omega) (by omega) (by omega), Option.bind_some, nI_1, ih (mvS S k (k - 1)) m (k + 1) h1 (by omega) (by omega) h4 (by omega)]
      refine congrArg some (MS.ext (fun _ => rfl) (fun r q => ?_))
      rw [MS.f_2, MS.f_2, MS.g_2, MS.g_2]
      by_cases e3 : r = 43
      · rw [if_pos e3, if_pos e3]
        unfold mvS
        rw [MS.g_2, if_pos rfl, MS.g_2, if_pos rfl]
        by_cases e4 : 44 * (k + 1 - 1) ≤ q ∧ q < 44 * (m - 1)
        · rw [if_pos e4, if_neg (by omega), if_pos (by omega)]
        · rw [if_neg e4]
          by_cases e5 : 44 * (k - 1) ≤ q ∧ q < 44 * (k - 1) + 44
          · rw [if_pos e5, if_pos (by omega), show 44 * k + (q - 44 * (k - 1)) = q + 44 by omega]
          · rw [if_neg e5, if_neg (by omega)]
      · rw [if_neg e3, if_neg e3]
        unfold mvS
        rw [MS.g_2, if_neg e3]
def dpS (S : MS) (m : Nat) : MS := (S.g 43 (fun q => if q < 44 * (m - 1) then S.2 43 (q + 44) else S.2 43 q)).f 41 (nI (m - 1))
theorem e_drop {n : Nat} (hn : 70 ≤ n) (S : MS) {m : Nat} (h1 : S.1 41 = nI m) (h2 : 1 ≤ m) (h3 : m ≤ 20) : f_M_drop n S = some (dpS S m) := by
  unfold f_M_drop
  rw [show (1 : Int32) = nI 1 from rfl, e_dropB n S m 1 h1 (by omega) h2 h3 (by omega)]
  simp [dpS]
/-- the facts of an event, from the fifth -/
def fcS (S : MS) (x1 x3 : Int32) (P k : Nat) : Int32 := if x1 = 1 ∧ k < ix x3 then S.2 24 (40 * P + k) else 0
theorem e_evB : ∀ (n : Nat) (S : MS) (x1 x2 x3 : Int32) (E i P : Nat), E + 44 ≤ 924 → i ≤ 40 → 40 - i < n → (x1 = 1 → x2 = nI P ∧ P ≤ 60 ∧ bd x3 40) → f_M_event_4_B64 n S x1 x2 x3 (nI E) (nI i) = some ((S.g 43 (fun q => if E + 4 + i ≤ q ∧ q < E + 44 then fcS S x1 x3 P (q - (E + 4)) else S.2 43 q)).f 41 (S.1 41 + 1)) := by
  intro n
  induction n with
  | zero => intro S x1 x2 x3 E i P h1 h2 h3 h4; omega
  | succ n ih =>
    intro S x1 x2 x3 E i P h1 h2 h3 h4
    unfold f_M_event_4_B64
    by_cases c : 40 ≤ i
    · rw [if_pos (show (40 : Int32) ≤ nI i from nI_le (a := 40) c (by omega))]
      refine congrArg some (MS.ext (fun _ => rfl) (fun r q => ?_))
      rw [MS.f_2, MS.f_2, MS.g_2]
      split
      · rename_i e; rw [e, if_neg (by omega)]
      · rfl
    · rw [if_neg (show ¬ (40 : Int32) ≤ nI i from nI_ge (a := i) (b := 40) (by omega) (by omega))]
      have e1 : nI E + 4 + nI i = nI (E + 4 + i) := by rw [show (4 : Int32) = nI 4 from rfl, nI_add, nI_add]
      have e2 := inn (show E + 4 + i < 924 by omega) (by decide)
      have e3 := ixn (show E + 4 + i < 2 ^ 31 by omega)
      have key : ∀ v, v = fcS S x1 x3 P i → f_M_event_4_B64 n (S.a 43 (E + 4 + i) v) x1 x2 x3 (nI E) (nI (i + 1)) = some ((S.g 43 (fun q => if E + 4 + i ≤ q ∧ q < E + 44 then fcS S x1 x3 P (q - (E + 4)) else S.2 43 q)).f 41 (S.1 41 + 1)) := by
        intro v hv
        rw [ih (S.a 43 (E + 4 + i) v) x1 x2 x3 E (i + 1) P h1 (by omega) (by omega) h4]
        refine congrArg some (MS.ext (fun _ => rfl) (fun r q => ?_))
        rw [MS.f_2, MS.f_2, MS.g_2, MS.g_2]
        by_cases e4 : r = 43
        · rw [if_pos e4, if_pos e4]
          by_cases e5 : E + 4 + (i + 1) ≤ q ∧ q < E + 44
          · rw [if_pos e5, if_pos (by omega)]
            rfl
          · rw [if_neg e5, MS.a_2]
            by_cases e6 : q = E + 4 + i
            · rw [if_pos ⟨rfl, e6⟩, if_pos (by omega), hv]
              rw [show q - (E + 4) = i by omega]
            · rw [if_neg (by omega), if_neg (by omega)]
        · rw [if_neg e4, if_neg e4, MS.a_2, if_neg (by omega)]
      rw [e1, e2, e3, nI_1]
      simp only [cond_true]
      by_cases c1 : x1 = 1
      · rw [if_pos c1]
        obtain ⟨q1, q2, q3⟩ := h4 c1
        have hx := ixn' q3.1
        have hx2 := i32_ix q3.1
        have := q3.2
        by_cases c2 : ix x3 ≤ i
        · rw [if_pos (by rw [← hx]; exact nI_le c2 (by omega))]
          exact key 0 (by rw [fcS, if_neg (by omega)])
        · rw [if_neg (by rw [← hx]; exact nI_ge (by omega) (by omega)), q1]
          have e7 : (40 : Int32) * nI P + nI i = nI (40 * P + i) := by rw [show (40 : Int32) = nI 40 from rfl, pk_mul, nI_add]
          rw [e7, inn (show 40 * P + i < 2440 by omega) (by decide), ixn (show 40 * P + i < 2 ^ 31 by omega), cond_true]
          have := key (S.2 24 (40 * P + i)) (by rw [fcS, if_pos ⟨c1, by omega⟩])
          rw [q1] at this
          exact this
      · rw [if_neg c1]
        exact key 0 (by rw [fcS, if_neg (fun q => c1 q.1)])
