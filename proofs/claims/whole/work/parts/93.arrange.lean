section NOT
variable {op kd ab fi se : Nat → Int32}
/-- from a pane that is not below P, up: the reference -/
theorem wi_not {S : MS} {P du upu : Nat} {lu : List Nat} (hab : S.2 6 = ab) (hu : TP op kd ab fi se du upu P lu) : ∀ {d up r : Nat} {l : List Nat} {x n : Nat}, TP op kd ab fi se d up r l → x ∈ l → ¬ x ∈ lu → d < n → ∃ n', n ≤ n' + d ∧ f_M_isWithin_B2 n S (nI P) (nI x) = f_M_isWithin_B2 n' S (nI P) (nI up) := by
  intro d
  induction d with
  | zero => intro up r l x n h; cases h
  | succ d ih =>
    intro up r l x n h hx hxu hn
    have h0 := h
    by_cases hP : P ∈ l
    case neg => exact wi_out hu.here.2.1 hab h0 hx hP hn
    obtain ⟨h1, h2, h3, h4, h5⟩ := h
    have nr : ¬ r = P := fun q => by subst q; rw [h0.uniq hu] at hx; exact hxu hx
    have step : ∀ n, 0 < n → ∃ n', n = n' + 1 ∧ f_M_isWithin_B2 n S (nI P) (nI r) = f_M_isWithin_B2 n' S (nI P) (nI up) := by
      intro n hn
      cases n with
      | zero => omega
      | succ n =>
        refine ⟨n, rfl, ?_⟩
        have ne : ¬ nI r = nI P := by rw [nI_eq (by omega) (by have := hu.here.2.1; omega)]; exact nr
        rw [f_M_isWithin_B2, if_neg (show ¬ nI r ≤ 0 from nI_ge (a := 0) (b := r) (by omega) (by omega)), if_neg ne, inn (show r < 61 by omega) (by decide), cond_true, ixn (show r < 2 ^ 31 by omega), hab, h4]
    rcases h5 with ⟨h5, h6⟩ | ⟨h5, f, s, ll, lr, h6, h7, h8, h9, h10⟩
    · subst h6
      rw [List.mem_singleton.mp hx]
      obtain ⟨n', q1, q2⟩ := step n (by omega)
      exact ⟨n', by omega, q2⟩
    · subst h8
      rcases List.mem_cons.mp hx with e | e
      · rw [e]
        obtain ⟨n', q1, q2⟩ := step n (by omega)
        exact ⟨n', by omega, q2⟩
      · rcases List.mem_append.mp e with e | e
        · obtain ⟨n1, q1, q2⟩ := ih h9 e hxu (show d < n by omega)
          obtain ⟨n', q3, q4⟩ := step n1 (by omega)
          exact ⟨n', by omega, by rw [q2, q4]⟩
        · obtain ⟨n1, q1, q2⟩ := ih h10 e hxu (show d < n by omega)
          obtain ⟨n', q3, q4⟩ := step n1 (by omega)
          exact ⟨n', by omega, by rw [q2, q4]⟩
variable {h : gHp} {A : Nat → Nat → Nat} {ρ : Nat → Nat × Nat} {L a : Nat} {K : KS} {kc : Nat → Int32}
/-- the same: the class; P is no pane's parent on the way -/
theorem be_not {P du upu : Nat} {lu : List Nat} (ha : a ≤ 60) (H : Hrep h A ρ (cT L a kc) K) (hPa : pnN a P = true) (hu : TP op kd ab fi se du upu P lu) : ∀ {d up r : Nat} {l : List Nat} {x n i : Nat}, TP op kd ab fi se d up r l → (∀ y, y ∈ l → pnN a y = true ∧ K.2 7 y 2 = nz (ab y)) → (up = 0 ∨ pnN a up = true) → ¬ P = up → x ∈ l → ¬ x ∈ lu → i + d ≤ 59 → d < n → ∃ n' i', n ≤ n' + d ∧ i' ≤ i + d ∧ f_G_isBelow_B4 n h (some (A 7 P)) (some (A 7 x)) (nI i) = f_G_isBelow_B4 n' h (some (A 7 P)) (aM A (nz (nI up))) (nI i') := by
  intro d
  induction d with
  | zero => intro up r l x n i h; cases h
  | succ d ih =>
    intro up r l x n i hT hK hup hPu hx hxu hi hn
    have h0 := hT
    by_cases hP : P ∈ l
    case neg =>
      obtain ⟨n', i', q1, q2, q3⟩ := be_out (i := i) ha H hPa h0 hK hup hx hP hi hn
      rw [if_neg hPu] at q3
      exact ⟨n', i', q1, q2, q3⟩
    obtain ⟨h1, h2, h3, h4, h5⟩ := hT
    obtain ⟨kr, kr2⟩ := hK r h0.here.2.2.2.2
    have nr : ¬ P = r := fun q => by subst q; rw [h0.uniq hu] at hx; exact hxu hx
    have step : ∀ n i, 0 < n → i < 60 → ∃ n' i', n = n' + 1 ∧ i' = i + 1 ∧ f_G_isBelow_B4 n h (some (A 7 P)) (some (A 7 r)) (nI i) = f_G_isBelow_B4 n' h (some (A 7 P)) (aM A (nz (nI up))) (nI i') := by
      intro n i hn hi
      cases n with
      | zero => omega
      | succ n =>
        refine ⟨n, i + 1, rfl, rfl, ?_⟩
        have r2 : gref h (A 7 r) 2 = aM A (nz (nI up)) := by rw [H.ref (cT7 kr), kr2, h4]
        rw [f_G_isBelow_B4, if_neg (show ¬ (60 : Int32) ≤ nI i from nI_ge (a := i) (b := 60) (by omega) (by decide)), if_neg (by simp), Option.bind_some, H.tag (cT7 kr), cTag_pane, cond_true, r2, nI_1]
        rcases hup with e | e
        · rw [e]
          have e0 : aM A (nz (nI 0)) = none := rfl
          rw [e0, if_neg (by simp)]
        · obtain ⟨u1, u2⟩ := pnN_le e
          rw [aM_nz u1 (by omega), if_neg]
          intro q'
          exact hPu ((H.inj (cT7 hPa) (cT7 e)).mp (Option.some.inj q').symm).2
    rcases h5 with ⟨h5, h6⟩ | ⟨h5, f, s, ll, lr, h6, h7, h8, h9, h10⟩
    · subst h6
      rw [List.mem_singleton.mp hx]
      obtain ⟨n', i', q1, q2, q3⟩ := step n i (by omega) (by omega)
      exact ⟨n', i', by omega, by omega, q3⟩
    · subst h8
      rcases List.mem_cons.mp hx with e | e
      · rw [e]
        obtain ⟨n', i', q1, q2, q3⟩ := step n i (by omega) (by omega)
        exact ⟨n', i', by omega, by omega, q3⟩
      · rcases List.mem_append.mp e with e | e
        · obtain ⟨n1, i1, q1, q2, q3⟩ := ih (i := i) h9 (fun y hy => hK y (List.mem_cons_of_mem _ (List.mem_append_left _ hy))) (Or.inr kr) nr e hxu (by omega) (show d < n by omega)
          rw [aM_nz h1 h2] at q3
          obtain ⟨n', i', q4, q5, q6⟩ := step n1 i1 (by omega) (by omega)
          exact ⟨n', i', by omega, by omega, by rw [q3, q6]⟩
        · obtain ⟨n1, i1, q1, q2, q3⟩ := ih (i := i) h10 (fun y hy => hK y (List.mem_cons_of_mem _ (List.mem_append_right _ hy))) (Or.inr kr) nr e hxu (by omega) (show d < n by omega)
          rw [aM_nz h1 h2] at q3
          obtain ⟨n', i', q4, q5, q6⟩ := step n1 i1 (by omega) (by omega)
          exact ⟨n', i', by omega, by omega, by rw [q3, q6]⟩
end NOT
theorem lvs_cO {kd : Nat → Int32} {l : List Nat} (hn : l.Nodup) (hr : ∀ q, q ∈ l → 1 ≤ q ∧ q ≤ 60) : lvs kd l = cO (fun p => decide (p ∈ l) && !decide (kd p = 4)) 1 60 := cO_list l hn hr
theorem KS.r_self (K : KS) (c p k : Nat) : K.r c p k (K.2 c p k) = K := by
  refine Prod.ext rfl (funext fun c' => funext fun p' => funext fun k' => ?_)
  show (K.r c p k (K.2 c p k)).2 c' p' k' = K.2 c' p' k'
  rw [KS.r_2]
  split
  · rename_i e; rw [e.1, e.2.1, e.2.2]
  · rfl
def msB (x y : Int32) : Bool := rgB x 0 15 && rgB y 0 (if x &&& 4 = 0 then 999 else 100)
theorem e_isMethod (n : Nat) (S : MS) (x y : Int32) : f_M_isMethod n S x y = some (b32 (msB x y), S) := by
  unfold f_M_isMethod msB
  rw [e_in, Option.bind_some]
  cases rgB x 0 15 with
  | false => rfl
  | true =>
    rw [if_neg (show ¬ b32 true = 0 by decide), Bool.true_and]
    by_cases c : x &&& 4 = 0
    · rw [if_pos c, if_pos c, e_in, Option.bind_some]
      cases rgB y 0 999 <;> rfl
    · rw [if_neg c, if_neg c, e_in, Option.bind_some]
      cases rgB y 0 100 <;> rfl
theorem rg_ite (y hi : Int32) {X : Type} (A B : X) : (if y < 0 then A else if hi < y then A else B) = if rgB y 0 hi = true then B else A := by
  by_cases c : rgB y 0 hi = true
  · obtain ⟨c1, c2⟩ := rgB_t.mp c
    rw [if_pos c, if_neg c1, if_neg (Int32.not_lt.mpr c2)]
  · rw [if_neg c]
    rcases rgB_f c with c1 | ⟨c1, c2⟩
    · rw [if_pos c1]
    · rw [if_neg c1, if_pos (Int32.not_le.mp c2)]
theorem e_isMeasure (n : Nat) (h : gHp) (x y : Int32) : f_G_isMeasure n h x y = some (b32 (msB x y), h) := by
  unfold f_G_isMeasure f_G_isFixed msB
  by_cases c : rgB x 0 15 = true
  · obtain ⟨c1, c2⟩ := rgB_t.mp c
    rw [if_neg c1, if_pos c2, c, Bool.true_and]
    by_cases c3 : x &&& 4 = 0
    · rw [if_pos c3, if_pos c3, Option.bind_some]
      simp only [show ¬ (1 : Int32) = 0 from by decide, if_false, reduceIte]
      rw [rg_ite]
      cases rgB y 0 999 <;> rfl
    · rw [if_neg c3, if_neg c3, Option.bind_some]
      simp only [if_true, reduceIte]
      rw [rg_ite]
      cases rgB y 0 100 <;> rfl
  · rw [Bool.not_eq_true] at c
    rw [c]
    rcases rgB_f (by rw [c]; decide) with c1 | ⟨c1, c2⟩
    · rw [if_pos c1]; rfl
    · rw [if_neg c1, if_neg c2]; rfl
theorem msB_n {x y : Int32} (h : msB x y = true) : ∃ m z, x = nI m ∧ y = nI z ∧ m < 16 ∧ z ≤ 999 ∧ (¬ m / 4 % 2 = 0 → z ≤ 100) := by
  unfold msB at h
  rw [Bool.and_eq_true] at h
  obtain ⟨m, m1, m2⟩ := bd_n (rgB_bd (n := 15) (N := 15) (by decide) h.1)
  subst m2
  have b3 := (bits m (by omega)).2.2.1
  by_cases c : nI m &&& 4 = 0
  · rw [if_pos c] at h
    obtain ⟨z, z1, z2⟩ := bd_n (rgB_bd (n := 999) (N := 999) (by decide) h.2)
    exact ⟨m, z, rfl, z2, by omega, z1, fun q => absurd (b3.mp c) q⟩
  · rw [if_neg c] at h
    obtain ⟨z, z1, z2⟩ := bd_n (rgB_bd (n := 100) (N := 100) (by decide) h.2)
    exact ⟨m, z, rfl, z2, by omega, by omega, fun _ => z1⟩
theorem bits2 : ∀ m, m < 16 → ∀ k, k < 16 → ((nI m &&& 2 = nI k &&& 2) ↔ m / 2 % 2 = k / 2 % 2) ∧ ((nI m &&& 1 = nI k &&& 1) ↔ m % 2 = k % 2) ∧ (((nI k ^^^ nI m) &&& 1 = 0) ↔ m % 2 = k % 2) := by decide
/-- what a pane's tree is, in the state as it stands -/
theorem sub_of {S : MS} {a P : Nat} (hWa : WFa S a) (hWt : WFt S) (hp : P ≤ 60) (ho : ¬ S.2 4 P = 0) : ∃ r l du upu lu, S.1 3 = nI r ∧ TPS S 12 0 r l ∧ l.Nodup ∧ lvs (S.2 5) l ≤ 12 ∧ (∀ p, p ≤ 60 → (¬ S.2 4 p = 0 ↔ p ∈ l)) ∧ du ≤ 12 ∧ TPS S du upu P lu ∧ lu.Nodup ∧ (∀ x, x ∈ lu → x ∈ l) ∧ ((upu ∈ l ∧ S.2 5 upu = 4 ∧ ¬ upu ∈ lu) ∨ (P = r ∧ upu = 0)) ∧ upu ≤ 60 ∧ (∀ x, x ∈ l → x ≤ 60 ∧ pnN a x = true ∧ ¬ S.2 4 x = 0) := by
  rcases hWt with ht | ⟨d, r, l, t1, t2, t3, t4, t5⟩
  · exact absurd (ht.2 P hp) ho
  · have t6 := (t2.lv).1.mono t4
    obtain ⟨du, upu, lu, q1, q2, q3, q4, q5⟩ := t6.sub_nd t3 P ((t5 P hp).mp ho)
    have lm : ∀ q, q ∈ l → q ≤ 60 ∧ pnN a q = true ∧ ¬ S.2 4 q = 0 := fun q hq => by
      obtain ⟨m1, m2, m3⟩ := t2.mem hq
      exact ⟨m2, pnN_of m1 (hWa.2.2.2.2.1 q m2 m3), m3⟩
    refine ⟨r, l, du, upu, lu, t1, t6, t3, t4, t5, q1, q2, q3, q4, q5, ?_, lm⟩
    rcases q5 with q5 | q5
    · exact (lm upu q5.1).1
    · omega
