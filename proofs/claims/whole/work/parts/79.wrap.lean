/-! ===== the lines of a text ===== -/
def KWF (K K' : KS) : Prop := K'.2 = K.2 ∧ ∀ c, ¬ (c = 12 ∨ c = 13 ∨ c = 14) → K'.1 c = K.1 c
def SWF (S S' : MS) : Prop := (∀ k, ¬ k = 38 → S'.1 k = S.1 k) ∧ ∀ k, ¬ (k = 39 ∨ k = 40) → S'.2 k = S.2 k
theorem KWF.rf {K : KS} : KWF K K := ⟨rfl, fun _ _ => rfl⟩
theorem SWF.rf {S : MS} : SWF S S := ⟨fun _ _ => rfl, fun _ _ => rfl⟩
theorem KWF.tr {K K' K'' : KS} (H : KWF K K') (H' : KWF K' K'') : KWF K K'' := ⟨H'.1.trans H.1, fun c h => (H'.2 c h).trans (H.2 c h)⟩
theorem SWF.tr {S S' S'' : MS} (H : SWF S S') (H' : SWF S' S'') : SWF S S'' := ⟨fun k h => (H'.1 k h).trans (H.1 k h), fun k h => (H'.2 k h).trans (H.2 k h)⟩
theorem KWF.keep {K K' : KS} (H : KWF K K') : KEEP K K' := ⟨H.2 15 (by decide), H.2 16 (by decide), H.2 17 (by decide), by rw [H.1]⟩
/-- a text of t signs and a line of T signs at a width w -/
def TW (K : KS) (S : MS) (P t T w : Nat) : Prop := TXt K S P t ∧ K.1 9 P 2 = nI T ∧ T ≤ 40 ∧ (∀ k, k < T → K.1 10 P k = cellv (S.2 24 (40 * P + k)) 8 0 ∧ sgn (S.2 24 (40 * P + k))) ∧ S.2 14 P = nI w ∧ w ≤ 60
theorem TW.fr {K K' : KS} {S S' : MS} {P t T w : Nat} (H : TW K S P t T w) (hK : KWF K K') (hS : SWF S S') : TW K' S' P t T w := by
  unfold TW TXt at H ⊢
  rw [hK.2 7 (by decide), hK.2 9 (by decide), hK.2 10 (by decide), hK.2 11 (by decide), hS.2 14 (by decide), hS.2 24 (by decide), hS.2 25 (by decide), hS.2 26 (by decide), hS.2 27 (by decide), hS.2 28 (by decide)]
  exact H
def sg (S : MS) (P t k : Nat) : Int32 := if k < t then S.2 26 (400 * P + k) else S.2 24 (40 * P + (k - t))
def stl (S : MS) (P t k : Nat) : Int32 := if k < t then S.2 27 (400 * P + k) else 8
def lnk (S : MS) (P t k : Nat) : Int32 := if k < t then S.2 28 (400 * P + k) else 0
theorem sg_fr {S S' : MS} {P t k : Nat} (hS : SWF S S') : sg S' P t k = sg S P t k := by
  unfold sg; rw [hS.2 24 (by decide), hS.2 26 (by decide)]
/-- m lines are known -/
def WR (K : KS) (S : MS) (P m E : Nat) : Prop := K.1 12 P 2 = nI m ∧ S.1 38 = nI m ∧ m ≤ 441 ∧ ∀ i, i < m → ∃ f s, K.1 13 P i = nI f ∧ K.1 14 P i = nI (f + s) ∧ S.2 39 i = nI f ∧ S.2 40 i = nI s ∧ f + s ≤ E
section WRP
variable {A : Nat → Nat → Nat} {ρ : Nat → Nat × Nat} {L a P t T w : Nat} {kd : Nat → Int32}
theorem gwr : gtin (some (8, 3)) [8] = true := rfl
theorem gwr' : gtis (some (8, 3)) 8 = true := rfl
theorem wp_facts {h : gHp} {K : KS} (H : Hrep h A ρ (cT L a kd) K) (hS : RKs K a kd) (hp : pnN a P = true) (hk : kd P = 1) : gref h (A 7 P) 15 = some (A 12 P) ∧ gtag h (A 12 P) = some (8, 3) ∧ gref h (A 12 P) 0 = some (A 13 P) ∧ gref h (A 12 P) 1 = some (A 14 P) ∧ gtag h (A 13 P) = some (20, 441) ∧ gtag h (A 14 P) = some (20, 441) ∧ gint h (A 12 P) 2 = K.1 12 P 2 := by
  obtain ⟨r1, r2, r3⟩ := hS.2.2.2.2.2.2.2 P hp hk
  exact ⟨by rw [H.ref (cT7 hp), r1]; rfl, H.tag (cT12 hp hk), by rw [H.ref (cT12 hp hk), r2]; rfl, by rw [H.ref (cT12 hp hk), r3]; rfl, H.tag (cT13 hp hk), H.tag (cT14 hp hk), H.int (cT12 hp hk) 2⟩
/-- a line more -/
theorem ad_line {h : gHp} {K : KS} {S : MS} {m f s E : Nat} (H : Hrep h A ρ (cT L a kd) K) (hS : RKs K a kd) (hp : pnN a P = true) (hk : kd P = 1) (hR : WR K S P m E) (hm : m < 441) (hf : f + s ≤ E) (n n' : Nat) : ∃ h' K' S', f_Wrap_addLine n h (A 12 P) (nI f) (nI (f + s)) = some h' ∧ f_M_line n' S (nI f) (nI s) = some S' ∧ Hrep h' A ρ (cT L a kd) K' ∧ WR K' S' P (m + 1) E ∧ KWF K K' ∧ SWF S S' := by
  obtain ⟨f0, f1, f2, f3, f4, f5, f6⟩ := wp_facts H hS hp hk
  obtain ⟨x1, x2, x3, x4⟩ := hR
  have n1 : ¬ A 12 P = A 13 P := H.ne (cT12 hp hk) (cT13 hp hk) (by omega)
  have n2 : ¬ A 12 P = A 14 P := H.ne (cT12 hp hk) (cT14 hp hk) (by omega)
  have e1 : ¬ Int32.ofNat 441 ≤ nI m := nI_ge (a := m) (b := 441) hm (by decide)
  have e2 : gArr (some (20, 441)) 20 (nI m) = true := gArr_n hm (by decide)
  have e3 := ixn (show m < 2 ^ 31 by omega)
  have e4 := inn (show m < 900 by omega) (by decide)
  refine ⟨gsetI (gsetI (gsetI h (A 13 P) m (nI f)) (A 14 P) m (nI (f + s))) (A 12 P) 2 (nI (m + 1)), ((K.i 13 P m (nI f)).i 14 P m (nI (f + s))).i 12 P 2 (nI (m + 1)), ((S.a 39 m (nI f)).a 40 m (nI s)).f 38 (nI (m + 1)), ?_, ?_, ((H.i (cT13 hp hk) m _).i (cT14 hp hk) m _).i (cT12 hp hk) 2 _, ⟨?_, rfl, by omega, fun i hi => ?_⟩, ⟨rfl, fun c hc => ?_⟩, ⟨fun k hk' => ?_, fun k hk' => ?_⟩⟩
  · unfold f_Wrap_addLine
    simp only [f1, gwr, cond_true, f2, f3, Option.bind_some, f4, f5, blk20 441, f6, x1, e1, if_false, reduceIte, e2, e3, gtag_setI, gref_setI, gint_setI, n1, n2, false_and, nI_1]
  · unfold f_M_line
    have s1 : (S.a 39 m (nI f)).1 38 = nI m := x2
    have s2 : ((S.a 39 m (nI f)).a 40 m (nI s)).1 38 = nI m := x2
    simp only [x2, e4, cond_true, e3, s1, s2, nI_1]
  · rw [KS.i_1, if_pos ⟨rfl, rfl, rfl⟩]
  · by_cases e : i = m
    · subst e
      refine ⟨f, s, ?_, ?_, ?_, ?_, hf⟩
      · rw [KS.i_1, if_neg (by omega), KS.i_1, if_neg (by omega), KS.i_1, if_pos ⟨rfl, rfl, rfl⟩]
      · rw [KS.i_1, if_neg (by omega), KS.i_1, if_pos ⟨rfl, rfl, rfl⟩]
      · show ((S.a 39 i (nI f)).a 40 i (nI s)).2 39 i = _
        rw [MS.a_2, if_neg (by omega), MS.a_2, if_pos ⟨rfl, rfl⟩]
      · show ((S.a 39 i (nI f)).a 40 i (nI s)).2 40 i = _
        rw [MS.a_2, if_pos ⟨rfl, rfl⟩]
    · obtain ⟨f', s', y1, y2, y3, y4, y5⟩ := x4 i (by omega)
      refine ⟨f', s', ?_, ?_, ?_, ?_, y5⟩
      · rw [KS.i_1, if_neg (by omega), KS.i_1, if_neg (by omega), KS.i_1, if_neg (by omega)]; exact y1
      · rw [KS.i_1, if_neg (by omega), KS.i_1, if_neg (by omega), KS.i_1, if_neg (by omega)]; exact y2
      · show ((S.a 39 m (nI f)).a 40 m (nI s)).2 39 i = _
        rw [MS.a_2, if_neg (by omega), MS.a_2, if_neg (by omega)]; exact y3
      · show ((S.a 39 m (nI f)).a 40 m (nI s)).2 40 i = _
        rw [MS.a_2, if_neg (by omega), MS.a_2, if_neg (by omega)]; exact y4
  · funext p k
    rw [KS.i_1, if_neg (by omega), KS.i_1, if_neg (by omega), KS.i_1, if_neg (by omega)]
  · show (if k = 38 then nI (m + 1) else S.1 k) = S.1 k
    rw [if_neg hk']
  · funext q
    show ((S.a 39 m (nI f)).a 40 m (nI s)).2 k q = _
    rw [MS.a_2, if_neg (by omega), MS.a_2, if_neg (by omega)]
/-- a sign of the text and its line -/
theorem e_tcell {h : gHp} {K : KS} {S : MS} (H : Hrep h A ρ (cT L a kd) K) (hS : RKs K a kd) (hp : pnN a P = true) (hk : kd P = 1) (hX : TW K S P t T w) (n : Nat) {k : Nat} (hk' : k < t + T) : f_Text_cellOf n h (A 7 P) (nI k) = some (cellv (sg S P t k) (stl S P t k) (lnk S P t k), h) ∧ okc (sg S P t k) ∧ bd (stl S P t k) 10 ∧ bd (lnk S P t k) 999 := by
  obtain ⟨⟨x1, x2, x3, x4⟩, x5, x6, x7, x8, x9⟩ := hX
  obtain ⟨f1, f2, f3, f4, f5⟩ := tx_facts H hS hp hk
  obtain ⟨l1, l2, l3, l4⟩ := ln_facts H hS hp (wr1 hk)
  unfold f_Text_cellOf sg stl lnk
  rw [if_neg (nI_pos (show k < 2 ^ 31 by omega))]
  by_cases c : k < t
  · have e1 : ¬ nI t ≤ nI k := nI_ge c (by omega)
    have e2 : gArr (some (20, 400)) 20 (nI k) = true := gArr_n (by omega) (by decide)
    obtain ⟨y1, y2, y3, y4⟩ := x4 k c
    simp only [if_pos c]
    refine ⟨?_, y2, y3, y4⟩
    simp only [f1, gtx, cond_true, f4, x1, e1, if_false, reduceIte, f2, Option.bind_some, f3, e2, f5, ixn (show k < 2 ^ 31 by omega), y1]
  · have e1 : nI t ≤ nI k := nI_le (by omega) (by omega)
    have e2 : nI k - nI t = nI (k - t) := pk_sub (by omega)
    have e3 := e_cellOf H hS hp (wr1 hk) n x5 x6 (show k - t < 2 ^ 31 by omega)
    obtain ⟨y1, y2⟩ := x7 (k - t) (by omega)
    rw [if_pos (by omega), y1] at e3
    simp only [if_neg c]
    refine ⟨?_, Or.inr y2, by decide, by decide⟩
    simp only [f1, gtx, cond_true, f4, x1, e1, if_true, reduceIte, l1, Option.bind_some, l2, gtl', e2, e3]
theorem e_tsign {S : MS} (hP : P ≤ 60) (x2 : S.2 25 P = nI t) (ht : t ≤ 400) (hT : T ≤ 40) (n : Nat) {k : Nat} (hk' : k < t + T) : f_M_signAt n S (nI P) (nI k) = some (sg S P t k, S) := by
  have iP := ixn (show P < 2 ^ 31 by omega)
  have bP : inB (nI P) 61 = true := inn (by omega) (by decide)
  unfold f_M_signAt sg
  rw [bP, cond_true, iP, x2]
  by_cases c : k < t
  · have e3 : (400 : Int32) * nI P + nI k = nI (400 * P + k) := by rw [show (400 : Int32) = nI 400 from rfl, pk_mul, nI_add]
    rw [if_neg (nI_ge c (by omega)), if_pos c, e3, inn (show 400 * P + k < 24400 by omega) (by decide), ixn (show 400 * P + k < 2 ^ 31 by omega), cond_true]
  · have e3 : (40 : Int32) * nI P + nI k - nI t = nI (40 * P + (k - t)) := by rw [show (40 : Int32) = nI 40 from rfl, pk_mul, nI_add, pk_sub (by omega), show 40 * P + k - t = 40 * P + (k - t) by omega]
    rw [if_pos (nI_le (by omega) (by omega)), if_neg c, e3, inn (show 40 * P + (k - t) < 2440 by omega) (by decide), ixn (show 40 * P + (k - t) < 2 ^ 31 by omega), cond_true, cond_true]
theorem nI_m1 (x : Nat) : nI (x + 1) + (-1) = nI x := by
  rw [← nI_1 x, show (-1 : Int32) = -(1 : Int32) from rfl, ← Int32.sub_eq_add_neg]
  exact Int32.add_sub_cancel (nI x) 1
theorem nI_m1lt {x : Nat} (h : x < 2 ^ 31) : nI x + (-1) < nI x := by
  rcases Nat.eq_zero_or_pos x with e | e
  · subst e; decide
  · obtain ⟨y, rfl⟩ : ∃ y, x = y + 1 := ⟨x - 1, by omega⟩
    rw [nI_m1]
    exact nI_lt (by omega) h
/-- the last space within a line's reach -/
theorem gap_find {h : gHp} {K : KS} {S : MS} (H : Hrep h A ρ (cT L a kd) K) (hS : RKs K a kd) (hp : pnN a P = true) (hk : kd P = 1) (hP : P ≤ 60) (hX : TW K S P t T w) {fr en : Nat} (hw1 : 1 ≤ w) (hen : fr + w < en) (hen2 : en ≤ t + T) (rec3 : MS → Int32 → Int32 → Int32 → Option MS) : ∀ (d n n' : Nat), d ≤ w + 1 → d < n → d < n' → (∃ g n1, fr ≤ g ∧ g < fr + d ∧ sg S P t g = 32 ∧ n' ≤ n1 + d ∧ f_Wrap_lastSpace_B2 n h (some (A 7 P)) (nI fr) (nI (fr + d) + (-1)) = some (nI g, h) ∧ f_M_findParts_B49 rec3 n' S (nI P) (nI en) (nI fr) (nI (fr + d) + (-1)) = (f_M_line n1 S (nI fr) (nI (g - fr))).bind (fun q => f_M_findParts_B122 rec3 n1 q (nI P) (nI en) (nI g))) ∨ (∃ n1, f_Wrap_lastSpace_B2 n h (some (A 7 P)) (nI fr) (nI (fr + d) + (-1)) = some (-1, h) ∧ f_M_findParts_B49 rec3 n' S (nI P) (nI en) (nI fr) (nI (fr + d) + (-1)) = (f_M_line n1 S (nI fr) (nI w)).bind (fun q => bif inB (nI P) 61 then rec3 q (nI P) (nI en) (nI fr + q.2 14 P) else none)) := by
  obtain ⟨⟨x1, x2, x3, x4⟩, x5, x6, x7, x8, x9⟩ := id hX
  have f1 := (tx_facts H hS hp hk).1
  have iP := ixn (show P < 2 ^ 31 by omega)
  have bP : inB (nI P) 61 = true := inn (by omega) (by decide)
  intro d
  induction d with
  | zero =>
    intro n n' h1 h2 h3
    cases n with
    | zero => omega
    | succ n =>
    cases n' with
    | zero => omega
    | succ n' =>
    have lt := nI_m1lt (show fr < 2 ^ 31 by omega)
    have nle : ¬ nI fr ≤ nI fr + (-1) := Int32.not_le.mpr lt
    refine Or.inr ⟨n', ?_, ?_⟩
    · rw [f_Wrap_lastSpace_B2, Nat.add_zero, if_pos lt]
    · rw [f_M_findParts_B49, Nat.add_zero, if_pos lt, if_neg nle, bP, cond_true, iP, x8]
  | succ d ih =>
    intro n n' h1 h2 h3
    cases n with
    | zero => omega
    | succ n =>
    cases n' with
    | zero => omega
    | succ n' =>
    obtain ⟨y1, y2, y3, y4⟩ := e_tcell H hS hp hk hX n (show fr + d < t + T by omega)
    have y5 := e_tsign (S := S) hP x2 x3 x6 n' (show fr + d < t + T by omega)
    have y6 := e_signOf n h (okc_bd y2) y3 y4
    have nlt : ¬ nI (fr + d) < nI fr := nI_nlt (by omega) (by omega)
    have le : nI fr ≤ nI (fr + d) := nI_le (by omega) (by omega)
    have eq : nI (fr + (d + 1)) + (-1) = nI (fr + d) := nI_m1 (fr + d)
    rw [eq]
    by_cases c : sg S P t (fr + d) = 32
    · refine Or.inl ⟨fr + d, n', by omega, by omega, c, by omega, ?_, ?_⟩
      · rw [f_Wrap_lastSpace_B2, if_neg nlt]
        rw [c] at y6
        simp only [Option.bind_some, f1, gtx', cond_true, y1, c, y6, if_true, reduceIte]
      · rw [f_M_findParts_B49, if_neg nlt, y5]
        simp only [Option.bind_some, c, if_true, reduceIte, le, show nI (fr + d) - nI fr = nI (fr + d - fr) from pk_sub (by omega)]
    · have q1 : f_Wrap_lastSpace_B2 (n + 1) h (some (A 7 P)) (nI fr) (nI (fr + d)) = f_Wrap_lastSpace_B2 n h (some (A 7 P)) (nI fr) (nI (fr + d) + (-1)) := by
        rw [f_Wrap_lastSpace_B2, if_neg nlt]
        simp only [Option.bind_some, f1, gtx', cond_true, y1, y6, c, if_false, reduceIte]
      have q2 : f_M_findParts_B49 rec3 (n' + 1) S (nI P) (nI en) (nI fr) (nI (fr + d)) = f_M_findParts_B49 rec3 n' S (nI P) (nI en) (nI fr) (nI (fr + d) + (-1)) := by
        rw [f_M_findParts_B49, if_neg nlt, y5]
        simp only [Option.bind_some, c, if_false, reduceIte]
      rw [q1, q2]
      rcases ih n n' (by omega) (by omega) (by omega) with ⟨g, n1, g1, g2, g3, g4, g5, g6⟩ | ⟨n1, g5, g6⟩
      · exact Or.inl ⟨g, n1, g1, by omega, g3, by omega, g5, g6⟩
      · exact Or.inr ⟨n1, g5, g6⟩
/-- behind the spaces -/
theorem aft_find {h : gHp} {K : KS} {S : MS} (H : Hrep h A ρ (cT L a kd) K) (hS : RKs K a kd) (hp : pnN a P = true) (hk : kd P = 1) (hP : P ≤ 60) (hX : TW K S P t T w) {en : Nat} (hen2 : en ≤ t + T) (rec3 : MS → Int32 → Int32 → Int32 → Option MS) : ∀ (d g n n' : Nat), g + d = en → d < n → d < n' → ∃ f, g ≤ f ∧ f ≤ en ∧ (g < en → sg S P t g = 32 → g < f) ∧ f_Wrap_afterSpaces_B2 n h (some (A 7 P)) (nI en) (nI g) = some (nI f, h) ∧ f_M_findParts_B122 rec3 n' S (nI P) (nI en) (nI g) = rec3 S (nI P) (nI en) (nI f) := by
  obtain ⟨⟨x1, x2, x3, x4⟩, x5, x6, x7, x8, x9⟩ := id hX
  have f1 := (tx_facts H hS hp hk).1
  intro d
  induction d with
  | zero =>
    intro g n n' h1 h2 h3
    cases n with
    | zero => omega
    | succ n =>
    cases n' with
    | zero => omega
    | succ n' =>
    have e : g = en := by omega
    subst e
    have le : nI g ≤ nI g := nI_le (by omega) (by omega)
    refine ⟨g, by omega, by omega, fun q => by omega, ?_, ?_⟩
    · rw [f_Wrap_afterSpaces_B2, if_pos le]
    · rw [f_M_findParts_B122, if_pos le]
  | succ d ih =>
    intro g n n' h1 h2 h3
    cases n with
    | zero => omega
    | succ n =>
    cases n' with
    | zero => omega
    | succ n' =>
    obtain ⟨y1, y2, y3, y4⟩ := e_tcell H hS hp hk hX n (show g < t + T by omega)
    have y5 := e_tsign (S := S) hP x2 x3 x6 n' (show g < t + T by omega)
    have y6 := e_signOf n h (okc_bd y2) y3 y4
    have nle : ¬ nI en ≤ nI g := nI_ge (by omega) (by omega)
    by_cases c : sg S P t g = 32
    · obtain ⟨f, g1, g2, g3, g4, g5⟩ := ih (g + 1) n n' (by omega) (by omega) (by omega)
      refine ⟨f, by omega, g2, fun _ _ => by omega, ?_, ?_⟩
      · rw [f_Wrap_afterSpaces_B2, if_neg nle]
        rw [c] at y6
        simp only [Option.bind_some, f1, gtx', cond_true, y1, c, y6, if_true, reduceIte, nI_1, g4]
      · rw [f_M_findParts_B122, if_neg nle, y5]
        simp only [Option.bind_some, c, if_true, reduceIte, nI_1, g5]
    · refine ⟨g, by omega, by omega, fun _ q => absurd q c, ?_, ?_⟩
      · rw [f_Wrap_afterSpaces_B2, if_neg nle]
        simp only [Option.bind_some, f1, gtx', cond_true, y1, y6, c, if_false, reduceIte]
      · rw [f_M_findParts_B122, if_neg nle, y5]
        simp only [Option.bind_some, c, if_false, reduceIte]
/-- a paragraph -/
theorem par_lines (hp : pnN a P = true) (hk : kd P = 1) (hP : P ≤ 60) {en : Nat} (hw1 : 1 ≤ w) (hen2 : en ≤ t + T) (hen3 : en ≤ 440) : ∀ (d : Nat) (le i m n n' : Nat) (h : gHp) (K : KS) (S : MS), le + d = en → m ≤ le → i ≤ le → d + 700 < n → d + 700 < n' → Hrep h A ρ (cT L a kd) K → RKs K a kd → TW K S P t T w → WR K S P m (t + T) → ∃ h' K' S' m', f_Wrap_foldParagraph_B19 (A 12 P) n h (some (A 7 P)) (nI w) (nI en) (nI le) (nI i) = some h' ∧ f_M_findParts_B3 n' S (nI P) (nI en) (nI le) = some S' ∧ Hrep h' A ρ (cT L a kd) K' ∧ WR K' S' P m' (t + T) ∧ m' ≤ en + 1 ∧ KWF K K' ∧ SWF S S' := by
  have iP := ixn (show P < 2 ^ 31 by omega)
  have bP : inB (nI P) 61 = true := inn (by omega) (by decide)
  intro d
  induction d using Nat.strongRecOn with
  | ind d ih =>
    intro le i m n n' h K S h1 h2 h3 h4 h5 H hS hX hR
    obtain ⟨f0, f1, f2, f3, f4, f5, f6⟩ := wp_facts H hS hp hk
    obtain ⟨⟨x1, x2, x3, x4⟩, x5, x6, x7, x8, x9⟩ := id hX
    have ng : ¬ Int32.ofNat 441 ≤ nI i := nI_ge (a := i) (b := 441) (by omega) (by decide)
    cases n with
    | zero => omega
    | succ n =>
    cases n' with
    | zero => omega
    | succ n' =>
    by_cases c0 : d = 0
    · have e : le = en := by omega
      subst e
      have l1 : nI le ≤ nI le := nI_le (by omega) (by omega)
      refine ⟨h, K, S, m, ?_, ?_, H, hR, by omega, KWF.rf, SWF.rf⟩
      · rw [f_Wrap_foldParagraph_B19]
        simp only [f1, gwr, cond_true, f2, Option.bind_some, f4, blk20 441, ng, if_false, l1, if_true, reduceIte]
      · rw [f_M_findParts_B3, if_pos l1]
    · have l1 : ¬ nI en ≤ nI le := nI_ge (by omega) (by omega)
      have sb : nI en - nI le = nI (en - le) := pk_sub (by omega)
      by_cases c1 : d ≤ w
      · have l2 : ¬ nI w < nI (en - le) := nI_nlt (by omega) (by omega)
        obtain ⟨h', K', S', q1, q2, q3, q4, q5, q6⟩ := ad_line (f := le) (s := en - le) H hS hp hk hR (by omega) (by omega) n n'
        rw [show le + (en - le) = en by omega] at q1
        refine ⟨h', K', S', m + 1, ?_, ?_, q3, q4, by omega, q5, q6⟩
        · rw [f_Wrap_foldParagraph_B19]
          simp only [f1, gwr, gwr', cond_true, f2, Option.bind_some, f4, blk20 441, ng, if_false, l1, sb, l2, reduceIte, q1]
        · rw [f_M_findParts_B3, if_neg l1, bP, cond_true, iP, x8, sb, if_neg l2, q2, Option.bind_some]
          cases n' with
          | zero => omega
          | succ n' => rw [f_M_findParts_B3, if_pos (nI_le (Nat.le_refl en) (by omega))]
      · have l2 : nI w < nI (en - le) := nI_lt (by omega) (by omega)
        have ew : nI le + nI w = nI (le + (w + 1)) + (-1) := by rw [nI_add, ← Nat.add_assoc, nI_m1]
        have hC : f_Wrap_foldParagraph_B19 (A 12 P) (n + 1) h (some (A 7 P)) (nI w) (nI en) (nI le) (nI i) = (f_Wrap_lastSpace_B2 n h (some (A 7 P)) (nI le) (nI (le + (w + 1)) + (-1))).bind (fun q6 => (if (0 : Int32) ≤ q6.1 then (((bif gtis (gtag (q6.2) (A 12 P)) 8 then f_Wrap_addLine n (q6.2) (A 12 P) (nI le) (q6.1) else none)).bind (fun q8 => ((f_Wrap_afterSpaces n (q8) (some (A 7 P)) (q6.1) (nI en)).bind (fun q9 => f_Wrap_foldParagraph_B19 (A 12 P) n (q9.2) (some (A 7 P)) (nI w) (nI en) (q9.1) (nI i + (1 : Int32)))))) else (((bif gtis (gtag (q6.2) (A 12 P)) 8 then f_Wrap_addLine n (q6.2) (A 12 P) (nI le) (nI le + nI w) else none)).bind (fun q8 => f_Wrap_foldParagraph_B19 (A 12 P) n (q8) (some (A 7 P)) (nI w) (nI en) (nI le + nI w) (nI i + (1 : Int32)))))) := by
          rw [f_Wrap_foldParagraph_B19]
          simp only [f1, gwr, cond_true, f2, Option.bind_some, f4, blk20 441, ng, if_false, l1, sb, l2, if_true, reduceIte, f_Wrap_lastSpace, ← ew]
        have hM : f_M_findParts_B3 (n' + 1) S (nI P) (nI en) (nI le) = f_M_findParts_B49 (f_M_findParts_B3 n') n' S (nI P) (nI en) (nI le) (nI (le + (w + 1)) + (-1)) := by
          rw [f_M_findParts_B3, if_neg l1, bP, cond_true, iP, x8, sb, if_pos l2, cond_true, ew]
        rw [hC, hM]
        rcases gap_find H hS hp hk hP hX (fr := le) (en := en) hw1 (by omega) hen2 (f_M_findParts_B3 n') (w + 1) n n' (by omega) (by omega) (by omega) with ⟨g, n1, g1, g2, g3, g4, g5, g6⟩ | ⟨n1, g5, g6⟩
        · obtain ⟨h1', K1, S1, q1, q2, q3, q4, q5, q6⟩ := ad_line (f := le) (s := g - le) H hS hp hk hR (by omega) (by omega) n n1
          rw [show le + (g - le) = g by omega] at q1
          have hS1 := hS.eq q5.1
          have hX1 := hX.fr q5 q6
          obtain ⟨f, u1, u2, u3, u4, u5⟩ := aft_find q3 hS1 hp hk hP hX1 hen2 (f_M_findParts_B3 n') (en - g) g n n1 (by omega) (by omega) (by omega)
          have u6 := u3 (by omega) (by rw [sg_fr q6]; exact g3)
          obtain ⟨h', K', S', m', r1, r2, r3, r4, r5, r6, r7⟩ := ih (en - f) (by omega) f (i + 1) (m + 1) n n' h1' K1 S1 (by omega) (by omega) (by omega) (by omega) (by omega) q3 hS1 hX1 q4
          refine ⟨h', K', S', m', ?_, ?_, r3, r4, r5, q5.tr r6, q6.tr r7⟩
          · rw [g5]
            simp only [Option.bind_some, if_pos (show (0 : Int32) ≤ nI g from nI_le (a := 0) (by omega) (by omega)), f1, gwr', cond_true, q1, f_Wrap_afterSpaces, u4, nI_1, r1]
          · rw [g6, q2, Option.bind_some, u5, r2]
        · obtain ⟨h1', K1, S1, q1, q2, q3, q4, q5, q6⟩ := ad_line (f := le) (s := w) H hS hp hk hR (by omega) (by omega) n n1
          have hS1 := hS.eq q5.1
          have hX1 := hX.fr q5 q6
          obtain ⟨h', K', S', m', r1, r2, r3, r4, r5, r6, r7⟩ := ih (en - (le + w)) (by omega) (le + w) (i + 1) (m + 1) n n' h1' K1 S1 (by omega) (by omega) (by omega) (by omega) (by omega) q3 hS1 hX1 q4
          refine ⟨h', K', S', m', ?_, ?_, r3, r4, r5, q5.tr r6, q6.tr r7⟩
          · rw [g5]
            simp only [Option.bind_some, show ¬ (0 : Int32) ≤ -1 from by decide, if_false, reduceIte, f1, gwr', cond_true, nI_add, q1, nI_1, r1]
          · rw [g6, q2, Option.bind_some, bP, cond_true, q6.2 14 (by decide), x8, nI_add, r2]
/-- one paragraph, with its line when it is empty -/
theorem par_one (hp : pnN a P = true) (hk : kd P = 1) (hP : P ≤ 60) {en b : Nat} (hw1 : 1 ≤ w) (hb : b ≤ en) (hen2 : en ≤ t + T) (hen3 : en ≤ 440) (m n n' : Nat) (h : gHp) (K : KS) (S : MS) (hm : m ≤ b) (h4 : 1200 < n) (h5 : 1200 < n') (H : Hrep h A ρ (cT L a kd) K) (hS : RKs K a kd) (hX : TW K S P t T w) (hR : WR K S P m (t + T)) : ∃ h' K' S' m', f_Wrap_foldParagraph n h (A 12 P) (some (A 7 P)) (nI w) (nI b) (nI en) = some h' ∧ (if nI en = nI b then (f_M_line n' S (nI b) 0).bind (fun q => f_M_findParts n' q (nI P) (nI b) (nI en)) else f_M_findParts n' S (nI P) (nI b) (nI en)) = some S' ∧ Hrep h' A ρ (cT L a kd) K' ∧ WR K' S' P m' (t + T) ∧ m' ≤ en + 1 ∧ KWF K K' ∧ SWF S S' := by
  obtain ⟨f0, f1, f2, f3, f4, f5, f6⟩ := wp_facts H hS hp hk
  unfold f_Wrap_foldParagraph f_M_findParts
  by_cases c : b = en
  · subst c
    obtain ⟨h1', K1, S1, q1, q2, q3, q4, q5, q6⟩ := ad_line (f := b) (s := 0) H hS hp hk hR (by omega) (by omega) n n'
    rw [Nat.add_zero] at q1
    have q2' : f_M_line n' S (nI b) 0 = some S1 := q2
    rw [if_pos rfl, if_pos rfl, f1, gwr', cond_true, q1, q2', Option.bind_some, Option.bind_some, f_Wrap_foldParagraph_B13]
    have hS1 := hS.eq q5.1
    obtain ⟨g0, g1, g2, g3, g4, g5, g6⟩ := wp_facts q3 hS1 hp hk
    refine ⟨h1', K1, S1, m + 1, ?_, ?_, q3, q4, by omega, q5, q6⟩
    · cases n with
      | zero => omega
      | succ n =>
        rw [f_Wrap_foldParagraph_B19]
        simp only [g1, gwr, cond_true, g2, Option.bind_some, g4, blk20 441, show ¬ Int32.ofNat 441 ≤ 0 from by decide, if_false, if_pos (nI_le (Nat.le_refl b) (show b < 2 ^ 31 by omega)), reduceIte]
    · cases n' with
      | zero => omega
      | succ n' => rw [f_M_findParts_B3, if_pos (nI_le (Nat.le_refl b) (by omega))]
  · have ne : ¬ nI b = nI en := by rw [nI_eq (by omega) (by omega)]; exact c
    have ne' : ¬ nI en = nI b := fun q => ne q.symm
    rw [if_neg ne, if_neg ne', f_Wrap_foldParagraph_B13]
    exact par_lines hp hk hP hw1 hen2 hen3 (en - b) b 0 m n n' h K S (by omega) hm (by omega) (by omega) (by omega) H hS hX hR
/-- all paragraphs -/
theorem all_lines (hp : pnN a P = true) (hk : kd P = 1) (hP : P ≤ 60) {en : Nat} (hw1 : 1 ≤ w) (hen2 : en = t + T) (hen3 : en ≤ 440) : ∀ (d b i m n n0 n' : Nat) (h : gHp) (K : KS) (S : MS), i + d = en → b ≤ i → m ≤ b → d + 1300 < n → d + 1300 < n0 → d + 1300 < n' → Hrep h A ρ (cT L a kd) K → RKs K a kd → TW K S P t T w → WR K S P m (t + T) → ∃ h' K' S' m', f_Wrap_fold_B25 (A 12 P) n h (some (A 7 P)) (nI w) (nI en) (nI b) (nI i) = some h' ∧ f_M_findLines_B60 (f_M_findLines_B52 n0) n' S (nI P) (nI en) (nI b) (nI i) = some S' ∧ Hrep h' A ρ (cT L a kd) K' ∧ WR K' S' P m' (t + T) ∧ KWF K K' ∧ SWF S S' := by
  intro d
  induction d with
  | zero =>
    intro b i m n n0 n' h K S h1 h2 h3 h4 h5 h6 H hS hX hR
    have e : i = en := by omega
    subst e
    cases n with
    | zero => omega
    | succ n =>
    cases n' with
    | zero => omega
    | succ n' =>
    cases n0 with
    | zero => omega
    | succ n0 =>
    obtain ⟨f0, f1, f2, f3, f4, f5, f6⟩ := wp_facts H hS hp hk
    obtain ⟨h', K', S', m', q1, q2, q3, q4, q5, q6, q7⟩ := par_one hp hk hP hw1 h2 (by omega) hen3 m n n' h K S h3 (by omega) (by omega) H hS hX hR
    have lt : nI i < nI (i + 1) := nI_lt (by omega) (by omega)
    refine ⟨h', K', S', m', ?_, ?_, q3, q4, q6, q7⟩
    · rw [f_Wrap_fold_B25, if_neg (nI_nlt (Nat.le_refl i) (by omega)), if_pos rfl, f1, gwr', cond_true, q1, Option.bind_some, nI_1]
      cases n with
      | zero => omega
      | succ n => rw [f_Wrap_fold_B25, if_pos lt]
    · rw [f_M_findLines_B60, if_pos (nI_le (Nat.le_refl i) (by omega))]
      by_cases c : nI i = nI b
      · rw [if_pos c] at q2 ⊢
        cases e1 : f_M_line n' S (nI b) 0 with
        | none => rw [e1] at q2; simp at q2
        | some S1 =>
          rw [e1, Option.bind_some] at q2
          rw [Option.bind_some, q2, Option.bind_some, nI_1, f_M_findLines_B52, if_pos lt]
      · rw [if_neg c] at q2 ⊢
        rw [q2, Option.bind_some, nI_1, f_M_findLines_B52, if_pos lt]
  | succ d ih =>
    intro b i m n n0 n' h K S h1 h2 h3 h4 h5 h6 H hS hX hR
    cases n with
    | zero => omega
    | succ n =>
    cases n' with
    | zero => omega
    | succ n' =>
    cases n0 with
    | zero => omega
    | succ n0 =>
    obtain ⟨f0, f1, f2, f3, f4, f5, f6⟩ := wp_facts H hS hp hk
    have g1 := (tx_facts H hS hp hk).1
    obtain ⟨y1, y2, y3, y4⟩ := e_tcell H hS hp hk hX n (show i < t + T by omega)
    have y5 := e_tsign (S := S) hP hX.1.2.1 hX.1.2.2.1 hX.2.2.1 n' (show i < t + T by omega)
    have y6 := e_signOf n h (okc_bd y2) y3 y4
    have nlt : ¬ nI en < nI i := nI_nlt (by omega) (by omega)
    have nle : ¬ nI en ≤ nI i := nI_ge (by omega) (by omega)
    have ne : ¬ nI i = nI en := by rw [nI_eq (by omega) (by omega)]; omega
    by_cases c : sg S P t i = 10
    · obtain ⟨h1', K1, S1, m1, q1, q2, q3, q4, q5, q6, q7⟩ := par_one hp hk hP hw1 h2 (by omega) (by omega) m n n' h K S h3 (by omega) (by omega) H hS hX hR
      obtain ⟨h', K', S', m', r1, r2, r3, r4, r5, r6⟩ := ih (i + 1) (i + 1) m1 n n0 n0 h1' K1 S1 (by omega) (by omega) (by omega) (by omega) (by omega) (by omega) q3 (hS.eq q6.1) (hX.fr q6 q7) q4
      have nlt2 : ¬ nI en < nI (i + 1) := nI_nlt (by omega) (by omega)
      have rr : f_M_findLines_B52 (n0 + 1) S1 (nI P) (nI en) (nI (i + 1)) = some S' := by rw [f_M_findLines_B52, if_neg nlt2, r2]
      refine ⟨h', K', S', m', ?_, ?_, r3, r4, q6.tr r5, q7.tr r6⟩
      · rw [f_Wrap_fold_B25, if_neg nlt, if_neg ne]
        rw [c] at y6
        simp only [Option.bind_some, g1, gtx', cond_true, y1, c, y6, if_true, reduceIte, f1, gwr', q1, nI_1, r1]
      · rw [f_M_findLines_B60, if_neg nle, y5, Option.bind_some, if_pos c]
        by_cases c2 : nI i = nI b
        · rw [if_pos c2] at q2 ⊢
          cases e1 : f_M_line n' S (nI b) 0 with
          | none => rw [e1] at q2; simp at q2
          | some S1' =>
            rw [e1, Option.bind_some] at q2
            rw [Option.bind_some, q2, Option.bind_some, nI_1, rr]
        · rw [if_neg c2] at q2 ⊢
          rw [q2, Option.bind_some, nI_1, rr]
    · obtain ⟨h', K', S', m', r1, r2, r3, r4, r5, r6⟩ := ih b (i + 1) m n (n0 + 1) n' h K S (by omega) (by omega) h3 (by omega) (by omega) (by omega) H hS hX hR
      refine ⟨h', K', S', m', ?_, ?_, r3, r4, r5, r6⟩
      · rw [f_Wrap_fold_B25, if_neg nlt, if_neg ne]
        simp only [Option.bind_some, g1, gtx', cond_true, y1, y6, c, if_false, reduceIte, nI_1, r1]
      · rw [f_M_findLines_B60, if_neg nle, y5, Option.bind_some, if_neg c, nI_1, r2]
end WRP
