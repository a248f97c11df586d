/-! ===== a text's signs ===== -/
/-- K' is K, S' is S, but for the signs of the text P -/
def KXF (K K' : KS) (P : Nat) : Prop := K'.2 = K.2 ∧ ∀ c p k, ¬ (c = 7 ∧ p = P ∧ k = 14) → ¬ (c = 11 ∧ p = P) → K'.1 c p k = K.1 c p k
def SXF (S S' : MS) (P : Nat) : Prop := S'.1 = S.1 ∧ ∀ k q, ¬ (k = 25 ∧ q = P) → ¬ ((k = 26 ∨ k = 27 ∨ k = 28) ∧ 400 * P ≤ q ∧ q < 400 * P + 400) → S'.2 k q = S.2 k q
theorem KXF.rf {K : KS} {P : Nat} : KXF K K P := ⟨rfl, fun _ _ _ _ _ => rfl⟩
theorem SXF.rf {S : MS} {P : Nat} : SXF S S P := ⟨rfl, fun _ _ _ _ => rfl⟩
theorem KXF.tr {K K' K'' : KS} {P : Nat} (H : KXF K K' P) (H' : KXF K' K'' P) : KXF K K'' P :=
  ⟨H'.1.trans H.1, fun c p k h1 h2 => (H'.2 c p k h1 h2).trans (H.2 c p k h1 h2)⟩
theorem SXF.tr {S S' S'' : MS} {P : Nat} (H : SXF S S' P) (H' : SXF S' S'' P) : SXF S S'' P :=
  ⟨H'.1.trans H.1, fun k q h1 h2 => (H'.2 k q h1 h2).trans (H.2 k q h1 h2)⟩
def okc (c : Int32) : Prop := c = 10 ∨ sgn c
theorem okc_bd {c : Int32} (h : okc c) : bd c 127 := by
  rcases h with rfl | h
  · decide
  · exact sgn_bd h
/-- the text P of t signs -/
def TXt (K : KS) (S : MS) (P t : Nat) : Prop := K.1 7 P 14 = nI t ∧ S.2 25 P = nI t ∧ t ≤ 400 ∧ ∀ k, k < t → K.1 11 P k = cellv (S.2 26 (400 * P + k)) (S.2 27 (400 * P + k)) (S.2 28 (400 * P + k)) ∧ okc (S.2 26 (400 * P + k)) ∧ bd (S.2 27 (400 * P + k)) 10 ∧ bd (S.2 28 (400 * P + k)) 999
section TX
variable {A : Nat → Nat → Nat} {ρ : Nat → Nat × Nat} {L a P : Nat} {kd : Nat → Int32}
theorem gtx : gtin (some (6, 16)) [6] = true := rfl
theorem gtx' : gtis (some (6, 16)) 6 = true := rfl
theorem wr1 {k : Int32} (h : k = 1) : wrK k = true := by rw [h]; rfl
theorem wr2 {k : Int32} (h : k = 2) : wrK k = true := by rw [h]; rfl
theorem tx_facts {h : gHp} {K : KS} (H : Hrep h A ρ (cT L a kd) K) (hS : RKs K a kd) (hp : pnN a P = true) (hk : kd P = 1) : gtag h (A 7 P) = some (6, 16) ∧ gref h (A 7 P) 13 = some (A 11 P) ∧ gtag h (A 11 P) = some (20, 400) ∧ gint h (A 7 P) 14 = K.1 7 P 14 ∧ ∀ k, gint h (A 11 P) k = K.1 11 P k := by
  obtain ⟨r1, r2, r3, r4⟩ := hS.2.2.2.2.2.2.1 P hp (wr1 hk)
  exact ⟨by rw [H.tag (cT7 hp), hk]; rfl, by rw [H.ref (cT7 hp), r3]; rfl, H.tag (cT11x hp hk), H.int (cT7 hp) 14, fun k => H.int (cT11x hp hk) k⟩
/-- one sign more, where there is room -/
theorem put_room {h : gHp} {K : KS} {S : MS} {t : Nat} (H : Hrep h A ρ (cT L a kd) K) (hS : RKs K a kd) (hp : pnN a P = true) (hk : kd P = 1) (hP : P ≤ 60) (hX : TXt K S P t) (ht : t < 400) {c s l : Int32} (hc : okc c) (hs : bd s 10) (hl : bd l 999) (n n' : Nat) : ∃ h' K' S', f_Text_put_B16 (A 7 P) n h (cellv c s l) = some h' ∧ f_M_add_B181 n' S (nI P) c s l = some S' ∧ Hrep h' A ρ (cT L a kd) K' ∧ TXt K' S' P (t + 1) ∧ KXF K K' P ∧ SXF S S' P := by
  obtain ⟨f1, f2, f3, f4, f5⟩ := tx_facts H hS hp hk
  obtain ⟨x1, x2, x3, x4⟩ := hX
  have iP := ixn (show P < 2 ^ 31 by omega)
  have bP : inB (nI P) 61 = true := inn (by omega) (by decide)
  have n7 : ¬ A 7 P = A 11 P := H.ne (cT7 hp) (cT11x hp hk) (by omega)
  have e1 : ¬ Int32.ofNat 400 ≤ nI t := nI_ge (a := t) (b := 400) ht (by decide)
  have e2 : gArr (some (20, 400)) 20 (nI t) = true := gArr_n ht (by decide)
  have e3 : (400 : Int32) * nI P + nI t = nI (400 * P + t) := by rw [show (400 : Int32) = nI 400 from rfl, pk_mul, nI_add]
  have e4 := inn (show 400 * P + t < 24400 by omega) (by decide)
  have e5 := ixn (show 400 * P + t < 2 ^ 31 by omega)
  have e6 := ixn (show t < 2 ^ 31 by omega)
  refine ⟨gsetI (gsetI h (A 11 P) t (cellv c s l)) (A 7 P) 14 (nI (t + 1)), (K.i 11 P t (cellv c s l)).i 7 P 14 (nI (t + 1)), (((S.a 26 (400 * P + t) c).a 27 (400 * P + t) s).a 28 (400 * P + t) l).a 25 P (nI (t + 1)), ?_, ?_, (H.i (cT11x hp hk) t _).i (cT7 hp) 14 _, ⟨?_, ?_, by omega, fun k hk' => ?_⟩, ⟨rfl, fun c' p' k' h1 h2 => ?_⟩, ⟨rfl, fun k' q' h1 h2 => ?_⟩⟩
  · unfold f_Text_put_B16
    simp only [f1, gtx, cond_true, f2, Option.bind_some, f3, blk20 400, f4, x1, e1, if_false, reduceIte, e2, gtag_setI, gint_setI, n7, false_and, e6, nI_1]
  · unfold f_M_add_B181
    simp only [bP, cond_true, iP, x2, e3, e4, e5, MS.a_2, show ¬ 25 = 28 from by decide, show ¬ 25 = 27 from by decide, show ¬ 25 = 26 from by decide, false_and, if_false, reduceIte, nI_1]
  · rw [KS.i_1, if_pos ⟨rfl, rfl, rfl⟩]
  · rw [MS.a_2, if_pos ⟨rfl, rfl⟩]
  · rw [KS.i_1, if_neg (by omega), KS.i_1]
    simp only [MS.a_2, show ¬ 26 = 25 from by decide, show ¬ 26 = 28 from by decide, show ¬ 26 = 27 from by decide, show ¬ 27 = 25 from by decide, show ¬ 27 = 28 from by decide, show ¬ 27 = 26 from by decide, show ¬ 28 = 25 from by decide, show ¬ 28 = 26 from by decide, show ¬ 28 = 27 from by decide, false_and, true_and, if_false, reduceIte]
    by_cases e : k = t
    · subst e
      simp only [if_true, and_self, reduceIte]
      exact ⟨trivial, hc, hs, hl⟩
    · have e' : ¬ 400 * P + k = 400 * P + t := by omega
      simp only [e, e', if_false, and_false, reduceIte]
      exact x4 k (by omega)
  · rw [KS.i_1, if_neg h1, KS.i_1, if_neg (fun q => h2 ⟨q.1, q.2.1⟩)]
  · rw [MS.a_2, if_neg h1, MS.a_2, if_neg (by omega), MS.a_2, if_neg (by omega), MS.a_2, if_neg (by omega)]
/-- the first END's place, or the first sign's -/
theorem drop_find {h : gHp} {K : KS} {S : MS} (H : Hrep h A ρ (cT L a kd) K) (hS : RKs K a kd) (hp : pnN a P = true) (hk : kd P = 1) (hP : P ≤ 60) (hX : TXt K S P 400) (c s l : Int32) : ∀ (d i : Nat), i + d = 400 → ∃ g, 1 ≤ g ∧ g ≤ 400 ∧ (∀ n, d < n → ∃ n', n ≤ n' + d + 1 ∧ f_Text_dropOldest_B4 (A 7 P) n h 1 (nI i) = f_Text_dropOldest_B39 (A 7 P) n' h (nI g)) ∧ ∀ n, d < n → ∃ n', n ≤ n' + d + 1 ∧ f_M_add_B15 n S (nI P) c s l (nI i) = f_M_add_B69 n' S (nI P) c s l (nI g) (nI g) := by
  obtain ⟨f1, f2, f3, f4, f5⟩ := tx_facts H hS hp hk
  obtain ⟨x1, x2, x3, x4⟩ := hX
  intro d
  induction d with
  | zero =>
    intro i hi
    have e : i = 400 := by omega
    subst e
    refine ⟨1, by omega, by omega, fun n hn => ?_, fun n hn => ?_⟩
    · cases n with
      | zero => omega
      | succ n =>
        refine ⟨n, by omega, ?_⟩
        rw [f_Text_dropOldest_B4]
        simp only [f1, gtx, cond_true, f4, x1, if_pos (show nI 400 ≤ nI 400 from nI_le (by omega) (by omega))]
        rfl
    · cases n with
      | zero => omega
      | succ n =>
        refine ⟨n, by omega, ?_⟩
        rw [f_M_add_B15, if_pos (show (400 : Int32) ≤ nI 400 by decide), f_M_add_B47, if_pos (show nI 400 = 400 from rfl), f_M_add_B63]
        rfl
  | succ d ih =>
    intro i hi
    have e1 : ¬ nI 400 ≤ nI i := nI_ge (by omega) (by omega)
    have e1' : ¬ (400 : Int32) ≤ nI i := e1
    have e2 : gArr (some (20, 400)) 20 (nI i) = true := gArr_n (by omega) (by decide)
    have e3 : (400 : Int32) * nI P + nI i = nI (400 * P + i) := by rw [show (400 : Int32) = nI 400 from rfl, pk_mul, nI_add]
    have e4 := inn (show 400 * P + i < 24400 by omega) (by decide)
    have e5 := ixn (show 400 * P + i < 2 ^ 31 by omega)
    have e6 := ixn (show i < 2 ^ 31 by omega)
    obtain ⟨y1, y2, y3, y4⟩ := x4 i (by omega)
    by_cases c1 : S.2 26 (400 * P + i) = 10
    · refine ⟨i + 1, by omega, by omega, fun n hn => ?_, fun n hn => ?_⟩
      · cases n with
        | zero => omega
        | succ n =>
          refine ⟨n, by omega, ?_⟩
          rw [f_Text_dropOldest_B4]
          have e7 := e_signOf n h (okc_bd y2) y3 y4
          rw [c1] at e7
          simp only [f1, gtx, cond_true, f4, x1, e1, if_false, reduceIte, f2, Option.bind_some, f3, e2, f5, e6, y1, c1, e7, if_true, nI_1]
      · cases n with
        | zero => omega
        | succ n =>
          refine ⟨n, by omega, ?_⟩
          rw [f_M_add_B15, if_neg e1', e3, e4, cond_true, e5, if_pos c1, f_M_add_B47, if_neg (by rw [show (400 : Int32) = nI 400 from rfl, nI_eq (by omega) (by omega)]; omega), f_M_add_B63, nI_1]
    · obtain ⟨g, g1, g2, g3, g4⟩ := ih (i + 1) (by omega)
      refine ⟨g, g1, g2, fun n hn => ?_, fun n hn => ?_⟩
      · cases n with
        | zero => omega
        | succ n =>
          obtain ⟨n', q1, q2⟩ := g3 n (by omega)
          refine ⟨n', by omega, ?_⟩
          rw [f_Text_dropOldest_B4]
          have e7 := e_signOf n h (okc_bd y2) y3 y4
          simp only [f1, gtx, cond_true, f4, x1, e1, if_false, reduceIte, f2, Option.bind_some, f3, e2, f5, e6, y1, e7, c1, nI_1, q2]
      · cases n with
        | zero => omega
        | succ n =>
          obtain ⟨n', q1, q2⟩ := g4 n (by omega)
          refine ⟨n', by omega, ?_⟩
          rw [f_M_add_B15, if_neg e1', e3, e4, cond_true, e5, if_neg c1, nI_1, q2]
/-- the class's signs move down by g -/
theorem drop_move {g t : Nat} (hp : pnN a P = true) (hk : kd P = 1) (hg : t + g ≤ 400) (hg1 : 1 ≤ g) : ∀ (n : Nat) (h : gHp) (K : KS) (i : Nat), Hrep h A ρ (cT L a kd) K → RKs K a kd → K.1 7 P 14 = nI t → i ≤ t → t - i < n → ∃ h', f_Text_dropOldest_B55 (A 7 P) n h (nI g) (nI i) = some h' ∧ Hrep h' A ρ (cT L a kd) (K.g 11 P (fun k => if i ≤ k ∧ k < t then K.1 11 P (k + g) else K.1 11 P k)) := by
  intro n
  induction n with
  | zero => intro h K i H hS k14 h1 h2; omega
  | succ n ih =>
    intro h K i H hS k14 h1 h2
    obtain ⟨f1, f2, f3, f4, f5⟩ := tx_facts H hS hp hk
    unfold f_Text_dropOldest_B55
    by_cases c : t ≤ i
    · refine ⟨h, ?_, ?_⟩
      · simp only [f1, gtx, cond_true, f4, k14, if_pos (nI_le c (by omega))]
      · have e1 : K.g 11 P (fun k => if i ≤ k ∧ k < t then K.1 11 P (k + g) else K.1 11 P k) = K := by
          refine KS.ext' (fun c' p' k' => ?_) rfl
          rw [KS.g_1]
          split
          · rename_i q; rw [if_neg (by omega), q.1, q.2]
          · rfl
        rw [e1]; exact H
    · have e1 : ¬ nI t ≤ nI i := nI_ge (by omega) (by omega)
      have e2 : gArr (some (20, 400)) 20 (nI i) = true := gArr_n (by omega) (by decide)
      have e3 : gArr (some (20, 400)) 20 (nI (i + g)) = true := gArr_n (by omega) (by decide)
      obtain ⟨h', g1, g2⟩ := ih (gsetI h (A 11 P) i (K.1 11 P (i + g))) (K.i 11 P i (K.1 11 P (i + g))) (i + 1) (H.i (cT11x hp hk) i _) hS k14 (by omega) (by omega)
      refine ⟨h', ?_, ?_⟩
      · simp only [f1, gtx, cond_true, f4, k14, e1, if_false, reduceIte, f2, Option.bind_some, f3, nI_add, e2, e3, f5, ixn (show i < 2 ^ 31 by omega), ixn (show i + g < 2 ^ 31 by omega), nI_1, g1]
      · have e7 : (K.i 11 P i (K.1 11 P (i + g))).g 11 P (fun k => if i + 1 ≤ k ∧ k < t then (K.i 11 P i (K.1 11 P (i + g))).1 11 P (k + g) else (K.i 11 P i (K.1 11 P (i + g))).1 11 P k) = K.g 11 P (fun k => if i ≤ k ∧ k < t then K.1 11 P (k + g) else K.1 11 P k) := by
          refine KS.ext' (fun c' p' k' => ?_) rfl
          rw [KS.g_1, KS.g_1]
          split
          · by_cases q1 : i + 1 ≤ k' ∧ k' < t
            · rw [if_pos q1, if_pos (by omega), KS.i_1, if_neg (by omega)]
            · rw [if_neg q1, KS.i_1]
              by_cases q2 : k' = i
              · rw [if_pos ⟨rfl, rfl, q2⟩, if_pos (by omega), q2]
              · rw [if_neg (fun q => q2 q.2.2), if_neg (by omega)]
          · rename_i q
            rw [KS.i_1, if_neg (fun q' => q ⟨q'.1, q'.2.1⟩)]
        rw [e7] at g2
        exact g2
end TX
def mv3 (S : MS) (P g lo : Nat) : MS := ((S.g 26 (fun q => if 400 * P + lo ≤ q ∧ q < 400 * P + (400 - g) then S.2 26 (q + g) else S.2 26 q)).g 27 (fun q => if 400 * P + lo ≤ q ∧ q < 400 * P + (400 - g) then S.2 27 (q + g) else S.2 27 q)).g 28 (fun q => if 400 * P + lo ≤ q ∧ q < 400 * P + (400 - g) then S.2 28 (q + g) else S.2 28 q)
theorem mv3_2 (S : MS) (P g lo k q : Nat) : (mv3 S P g lo).2 k q = if (k = 26 ∨ k = 27 ∨ k = 28) ∧ 400 * P + lo ≤ q ∧ q < 400 * P + (400 - g) then S.2 k (q + g) else S.2 k q := by
  unfold mv3
  rw [MS.g_2, MS.g_2, MS.g_2]
  by_cases c1 : k = 28
  · subst c1; simp
  by_cases c2 : k = 27
  · subst c2; simp
  by_cases c3 : k = 26
  · subst c3; simp
  simp [c1, c2, c3]
theorem add_move {P g : Nat} (hP : P ≤ 60) (hg : g ≤ 400) (hg1 : 1 ≤ g) (c s l : Int32) : ∀ (d : Nat) (S : MS) (k n : Nat), k + d = 400 → g ≤ k → d < n → ∃ n', n ≤ n' + d + 1 ∧ f_M_add_B69 n S (nI P) c s l (nI g) (nI k) = f_M_add_B181 n' ((mv3 S P g (k - g)).a 25 P (S.2 25 P - nI g)) (nI P) c s l := by
  have iP := ixn (show P < 2 ^ 31 by omega)
  have bP : inB (nI P) 61 = true := inn (by omega) (by decide)
  intro d
  induction d with
  | zero =>
    intro S k n h1 h2 h3
    have e : k = 400 := by omega
    subst e
    cases n with
    | zero => omega
    | succ n =>
      refine ⟨n, by omega, ?_⟩
      rw [f_M_add_B69, if_pos (show (400 : Int32) ≤ nI 400 by decide), bP, cond_true, cond_true, iP]
      congr 1
      refine MS.ext (fun _ => rfl) (fun r q => ?_)
      rw [MS.a_2, MS.a_2, mv3_2, if_neg (show ¬ ((r = 26 ∨ r = 27 ∨ r = 28) ∧ 400 * P + (400 - g) ≤ q ∧ q < 400 * P + (400 - g)) from fun q => by omega)]
  | succ d ih =>
    intro S k n h1 h2 h3
    cases n with
    | zero => omega
    | succ n =>
      have e1 : ¬ (400 : Int32) ≤ nI k := nI_ge (a := k) (b := 400) (by omega) (by decide)
      have e3 : (400 : Int32) * nI P + nI k = nI (400 * P + k) := by rw [show (400 : Int32) = nI 400 from rfl, pk_mul, nI_add]
      have e4 := inn (show 400 * P + k < 24400 by omega) (by decide)
      have e5 := ixn (show 400 * P + k < 2 ^ 31 by omega)
      have e6 : nI (400 * P + k) - nI g = nI (400 * P + k - g) := pk_sub (by omega)
      have e7 := inn (show 400 * P + k - g < 24400 by omega) (by decide)
      have e8 := ixn (show 400 * P + k - g < 2 ^ 31 by omega)
      rw [f_M_add_B69, if_neg e1]
      simp only [e3, e6, e4, e7, cond_true, e5, e8, nI_1, MS.a_2, show ¬ 27 = 26 from by decide, show ¬ 28 = 26 from by decide, show ¬ 28 = 27 from by decide, false_and, if_false, reduceIte]
      obtain ⟨n', q1, q2⟩ := ih (((S.a 26 (400 * P + k - g) (S.2 26 (400 * P + k))).a 27 (400 * P + k - g) (S.2 27 (400 * P + k))).a 28 (400 * P + k - g) (S.2 28 (400 * P + k))) (k + 1) n (by omega) (by omega) (by omega)
      refine ⟨n', by omega, ?_⟩
      rw [q2]
      congr 1
      refine MS.ext (fun _ => rfl) (fun r q => ?_)
      simp only [MS.a_2, mv3_2]
      by_cases c0 : r = 25 ∧ q = P
      · rw [if_pos c0, if_pos c0]
        simp
      · rw [if_neg c0, if_neg c0]
        by_cases c1 : (r = 26 ∨ r = 27 ∨ r = 28) ∧ 400 * P + (k + 1 - g) ≤ q ∧ q < 400 * P + (400 - g)
        · rw [if_pos c1, if_pos (show (r = 26 ∨ r = 27 ∨ r = 28) ∧ 400 * P + (k - g) ≤ q ∧ q < 400 * P + (400 - g) from ⟨c1.1, by omega, by omega⟩), if_neg (show ¬ (r = 28 ∧ q + g = 400 * P + k - g) by omega), if_neg (show ¬ (r = 27 ∧ q + g = 400 * P + k - g) by omega), if_neg (show ¬ (r = 26 ∧ q + g = 400 * P + k - g) by omega)]
        · rw [if_neg c1]
          by_cases c2 : (r = 26 ∨ r = 27 ∨ r = 28) ∧ q = 400 * P + k - g
          · rw [if_pos (show (r = 26 ∨ r = 27 ∨ r = 28) ∧ 400 * P + (k - g) ≤ q ∧ q < 400 * P + (400 - g) from ⟨c2.1, by omega, by omega⟩)]
            obtain ⟨c3, c4⟩ := c2
            rw [show q + g = 400 * P + k by omega]
            rcases c3 with c3 | c3 | c3 <;> subst c3 <;> simp [c4]
          · rw [if_neg (show ¬ (r = 28 ∧ q = 400 * P + k - g) by omega), if_neg (show ¬ (r = 27 ∧ q = 400 * P + k - g) by omega), if_neg (show ¬ (r = 26 ∧ q = 400 * P + k - g) by omega), if_neg (show ¬ ((r = 26 ∨ r = 27 ∨ r = 28) ∧ 400 * P + (k - g) ≤ q ∧ q < 400 * P + (400 - g)) by omega)]
section TX2
variable {A : Nat → Nat → Nat} {ρ : Nat → Nat × Nat} {L a P : Nat} {kd : Nat → Int32}
/-- a sign is put to a text -/
theorem put_text {h : gHp} {K : KS} {S : MS} {t : Nat} (H : Hrep h A ρ (cT L a kd) K) (hS : RKs K a kd) (hp : pnN a P = true) (hk : kd P = 1) (hP : P ≤ 60) (hX : TXt K S P t) {c s l : Int32} (hc : okc c) (hs : bd s 10) (hl : bd l 999) {n n' : Nat} (hn : 2000 ≤ n) (hn' : 2000 ≤ n') : ∃ h' K' S' t', f_Text_put n h (A 7 P) (cellv c s l) = some h' ∧ f_M_add n' S (nI P) c s l = some S' ∧ Hrep h' A ρ (cT L a kd) K' ∧ TXt K' S' P t' ∧ KXF K K' P ∧ SXF S S' P := by
  obtain ⟨f1, f2, f3, f4, f5⟩ := tx_facts H hS hp hk
  have iP := ixn (show P < 2 ^ 31 by omega)
  have bP : inB (nI P) 61 = true := inn (by omega) (by decide)
  obtain ⟨x1, x2, x3, x4⟩ := id hX
  by_cases ct : t < 400
  · obtain ⟨h', K', S', q1, q2, q3, q4, q5, q6⟩ := put_room H hS hp hk hP hX ct hc hs hl n n'
    refine ⟨h', K', S', t + 1, ?_, ?_, q3, q4, q5, q6⟩
    · unfold f_Text_put
      have e1 : nI t < Int32.ofNat 400 := nI_lt (a := t) (b := 400) ct (by decide)
      simp only [f1, gtx, cond_true, f2, Option.bind_some, f3, blk20 400, f4, x1, e1, if_true, reduceIte, q1]
    · unfold f_M_add
      rw [bP, cond_true, iP, x2, if_neg (by rw [show (400 : Int32) = nI 400 from rfl, nI_eq (by omega) (by omega)]; omega), q2]
  · have e : t = 400 := by omega
    subst e
    obtain ⟨g, g1, g2, g3, g4⟩ := drop_find H hS hp hk hP hX c s l 400 0 (by omega)
    obtain ⟨n1, u1, u2⟩ := g3 n (by omega)
    obtain ⟨n2, v1, v2⟩ := g4 n' (by omega)
    obtain ⟨n3, w1, w2⟩ := add_move hP g2 g1 c s l (400 - g) S g n2 (by omega) (by omega) (by omega)
    have eg : nI 400 - nI g = nI (400 - g) := pk_sub g2
    have em : (if (0 : Int32) < nI (400 - g) then nI (400 - g) else 0) = nI (400 - g) := by
      by_cases z : 400 - g = 0
      · rw [z]; rfl
      · rw [if_pos (show (0 : Int32) < nI (400 - g) from nI_lt (a := 0) (by omega) (by omega))]
    have H1 := H.i (cT7 hp) 14 (nI (400 - g))
    obtain ⟨h1, d1, d2⟩ := drop_move (t := 400 - g) hp hk (by omega) g1 n1 _ _ 0 H1 hS (by rw [KS.i_1, if_pos ⟨rfl, rfl, rfl⟩]) (by omega) (by omega)
    have X1 : TXt ((K.i 7 P 14 (nI (400 - g))).g 11 P (fun k => if 0 ≤ k ∧ k < 400 - g then (K.i 7 P 14 (nI (400 - g))).1 11 P (k + g) else (K.i 7 P 14 (nI (400 - g))).1 11 P k)) ((mv3 S P g 0).a 25 P (nI (400 - g))) P (400 - g) := by
      refine ⟨?_, ?_, by omega, fun k hk' => ?_⟩
      · rw [KS.g_1, if_neg (by omega), KS.i_1, if_pos ⟨rfl, rfl, rfl⟩]
      · rw [MS.a_2, if_pos ⟨rfl, rfl⟩]
      · rw [KS.g_1, if_pos ⟨rfl, rfl⟩, if_pos ⟨by omega, hk'⟩, KS.i_1, if_neg (by omega)]
        simp only [MS.a_2, mv3_2, show ¬ 26 = 25 from by decide, show ¬ 27 = 25 from by decide, show ¬ 28 = 25 from by decide, false_and, if_false, reduceIte, true_or, or_true, true_and, show 400 * P + 0 ≤ 400 * P + k from by omega, show 400 * P + k < 400 * P + (400 - g) from by omega, if_true, show 400 * P + k + g = 400 * P + (k + g) from by omega]
        exact x4 (k + g) (by omega)
    obtain ⟨h', K', S', q1, q2, q3, q4, q5, q6⟩ := put_room d2 hS hp hk hP X1 (by omega) hc hs hl n n3
    refine ⟨h', K', S', 400 - g + 1, ?_, ?_, q3, q4, KXF.tr ?_ q5, SXF.tr ?_ q6⟩
    · unfold f_Text_put f_Text_dropOldest
      have e1 : ¬ nI 400 < Int32.ofNat 400 := by decide
      have u2' : f_Text_dropOldest_B4 (A 7 P) n h 1 0 = f_Text_dropOldest_B39 (A 7 P) n1 h (nI g) := u2
      have d1' : f_Text_dropOldest_B55 (A 7 P) n1 (gsetI h (A 7 P) 14 (nI (400 - g))) (nI g) 0 = some h1 := d1
      simp only [f1, gtx, gtx', cond_true, f2, Option.bind_some, f3, blk20 400, f4, x1, e1, if_false, reduceIte, u2', f_Text_dropOldest_B39, eg, em, d1', q1]
    · unfold f_M_add
      rw [bP, cond_true, iP, x2, if_pos (show nI 400 = 400 from rfl)]
      rw [show (0 : Int32) = nI 0 from rfl, v2, w2, x2, eg, Nat.sub_self, q2]
    · refine ⟨rfl, fun c' p' k' z1 z2 => ?_⟩
      rw [KS.g_1, if_neg z2, KS.i_1, if_neg z1]
    · refine ⟨rfl, fun k' q' z1 z2 => ?_⟩
      rw [MS.a_2, if_neg z1, mv3_2, if_neg (by omega)]
end TX2
