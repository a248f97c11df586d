/-! ===== a grid's cells ===== -/
def KGF (K K' : KS) (P : Nat) : Prop := K'.2 = K.2 ∧ ∀ c p k, ¬ (c = 7 ∧ p = P ∧ (k = 14 ∨ k = 15)) → ¬ (c = 11 ∧ p = P) → K'.1 c p k = K.1 c p k
def SGF (S S' : MS) (P : Nat) : Prop := S'.1 = S.1 ∧ ∀ k q, ¬ ((k = 34 ∨ k = 35) ∧ q = P) → ¬ ((k = 29 ∨ k = 30 ∨ k = 31) ∧ 1440 * P ≤ q ∧ q < 1440 * P + 1440) → S'.2 k q = S.2 k q
theorem KGF.rf {K : KS} {P : Nat} : KGF K K P := ⟨rfl, fun _ _ _ _ _ => rfl⟩
theorem SGF.rf {S : MS} {P : Nat} : SGF S S P := ⟨rfl, fun _ _ _ _ => rfl⟩
theorem KGF.tr {K K' K'' : KS} {P : Nat} (H : KGF K K' P) (H' : KGF K' K'' P) : KGF K K'' P :=
  ⟨H'.1.trans H.1, fun c p k h1 h2 => (H'.2 c p k h1 h2).trans (H.2 c p k h1 h2)⟩
theorem SGF.tr {S S' S'' : MS} {P : Nat} (H : SGF S S' P) (H' : SGF S' S'' P) : SGF S S'' P :=
  ⟨H'.1.trans H.1, fun k q h1 h2 => (H'.2 k q h1 h2).trans (H.2 k q h1 h2)⟩
def GRc (K : KS) (S : MS) (P w v : Nat) : Prop := K.1 7 P 5 = nI w ∧ K.1 7 P 6 = nI v ∧ S.2 14 P = nI w ∧ S.2 15 P = nI v ∧ w ≤ 60 ∧ v ≤ 24 ∧ (∀ k, k < 1440 → K.1 11 P k = cellv (S.2 29 (1440 * P + k)) (S.2 30 (1440 * P + k)) (S.2 31 (1440 * P + k)) ∧ sgn (S.2 29 (1440 * P + k)) ∧ bd (S.2 30 (1440 * P + k)) 10 ∧ bd (S.2 31 (1440 * P + k)) 999) ∧ ∀ x y : Nat, x < 60 → y < 24 → (w ≤ x ∨ v ≤ y) → S.2 29 (1440 * P + (60 * y + x)) = 32 ∧ S.2 30 (1440 * P + (60 * y + x)) = 0 ∧ S.2 31 (1440 * P + (60 * y + x)) = 0
def GRt (K : KS) (S : MS) (P w v cx cy : Nat) : Prop := GRc K S P w v ∧ K.1 7 P 14 = nI cx ∧ S.2 34 P = nI cx ∧ K.1 7 P 15 = nI cy ∧ S.2 35 P = nI cy
section GR
variable {A : Nat → Nat → Nat} {ρ : Nat → Nat × Nat} {L a P w v : Nat} {kd : Nat → Int32}
theorem ggr : gtin (some (1, 16)) [1] = true := rfl
theorem ggr' : gtis (some (1, 16)) 1 = true := rfl
theorem gr_facts {h : gHp} {K : KS} (H : Hrep h A ρ (cT L a kd) K) (hS : RKs K a kd) (hp : pnN a P = true) (hk : kd P = 2) : gtag h (A 7 P) = some (1, 16) ∧ gref h (A 7 P) 13 = some (A 11 P) ∧ gtag h (A 11 P) = some (20, 1440) ∧ (∀ k, gint h (A 7 P) k = K.1 7 P k) ∧ ∀ k, gint h (A 11 P) k = K.1 11 P k := by
  obtain ⟨r1, r2, r3, r4⟩ := hS.2.2.2.2.2.2.1 P hp (wr2 hk)
  exact ⟨by rw [H.tag (cT7 hp), hk]; rfl, by rw [H.ref (cT7 hp), r3]; rfl, H.tag (cT11g hp hk), fun k => H.int (cT7 hp) k, fun k => H.int (cT11g hp hk) k⟩
theorem e_hasK {h : gHp} {K : KS} (H : Hrep h A ρ (cT L a kd) K) (hp : pnN a P = true) (n : Nat) (k5 : K.1 7 P 5 = nI w) (k6 : K.1 7 P 6 = nI v) (hw : w ≤ 60) (hv : v ≤ 24) {x y : Nat} (hx : x < 2 ^ 31) (hy : y < 2 ^ 31) : f_Pane_has n h (A 7 P) (nI x) (nI y) = some (b32 (decide (x < w ∧ y < v)), h) := by
  have tg := H.tag (cT7 hp)
  have i5 : gint h (A 7 P) 5 = nI w := by rw [H.int (cT7 hp), k5]
  have i6 : gint h (A 7 P) 6 = nI v := by rw [H.int (cT7 hp), k6]
  unfold f_Pane_has
  rw [if_neg (nI_pos hx), tg, cTag_pane, cond_true, i5]
  by_cases c1 : x < w
  · rw [if_neg (nI_ge c1 (by omega)), if_neg (nI_pos hy), cond_true, i6]
    by_cases c2 : y < v
    · rw [if_neg (nI_ge c2 (by omega)), decide_eq_true (show x < w ∧ y < v from ⟨c1, c2⟩)]; rfl
    · rw [if_pos (nI_le (by omega) hy), decide_eq_false (show ¬ (x < w ∧ y < v) from fun q => c2 q.2)]; rfl
  · rw [if_pos (nI_le (by omega) hx), decide_eq_false (show ¬ (x < w ∧ y < v) from fun q => c1 q.1)]; rfl
theorem e_indexOf {h : gHp} {K : KS} (H : Hrep h A ρ (cT L a kd) K) (hS : RKs K a kd) (hp : pnN a P = true) (hk : kd P = 2) (n : Nat) (k5 : K.1 7 P 5 = nI w) (k6 : K.1 7 P 6 = nI v) (hw : w ≤ 60) (hv : v ≤ 24) {x y : Nat} (hx : x < 2 ^ 31) (hy : y < 2 ^ 31) : f_Grid_indexOf n h (A 7 P) (nI x) (nI y) = some (if x < w ∧ y < v then nI (60 * y + x) else -1, h) := by
  obtain ⟨f1, f2, f3, f4, f5⟩ := gr_facts H hS hp hk
  have q := e_hasK H hp n k5 k6 hw hv hx hy
  unfold f_Grid_indexOf
  rw [f1, ggr', cond_true, q, Option.bind_some]
  by_cases c : x < w ∧ y < v
  · have e1 : nI y * (60 : Int32) + nI x = nI (60 * y + x) := by rw [show (60 : Int32) = nI 60 from rfl, pk_mul, nI_add, Nat.mul_comm]
    have e2 : ¬ Int32.ofNat 1440 ≤ nI (60 * y + x) := nI_ge (a := 60 * y + x) (b := 1440) (by omega) (by decide)
    rw [decide_eq_true c, if_neg (show ¬ b32 true = 0 by decide), if_pos c]
    simp only [f1, ggr, cond_true, f2, Option.bind_some, f3, blk20 1440, e1, e2, if_false, reduceIte]
  · rw [decide_eq_false c, if_pos (show b32 false = 0 by decide), if_neg c]
theorem e_isCellN (n : Nat) (S : MS) (hP : P ≤ 60) (s14 : S.2 14 P = nI w) (s15 : S.2 15 P = nI v) (hw : w ≤ 60) (hv : v ≤ 24) {x y : Nat} (hx : x < 2 ^ 31) (hy : y < 2 ^ 31) : f_M_isCell n S (nI P) (nI x) (nI y) = some (b32 (decide (x < w ∧ y < v)), S) := by
  rw [e_isCell n S hP, s14, s15]
  by_cases c1 : x < w
  · by_cases c2 : y < v
    · rw [decide_eq_false (nI_ge c1 (by omega)), decide_eq_false (nI_ge c2 (by omega)), decide_eq_true (show x < w ∧ y < v from ⟨c1, c2⟩)]; rfl
    · rw [decide_eq_true (nI_le (show v ≤ y by omega) hy), decide_eq_false (show ¬ (x < w ∧ y < v) from fun q => c2 q.2)]; simp
  · rw [decide_eq_true (nI_le (show w ≤ x by omega) hx), decide_eq_false (show ¬ (x < w ∧ y < v) from fun q => c1 q.1)]; simp
/-- a cell is written -/
theorem wr_cell {h : gHp} {K : KS} {S : MS} {cx cy : Nat} (H : Hrep h A ρ (cT L a kd) K) (hS : RKs K a kd) (hp : pnN a P = true) (hk : kd P = 2) (hP : P ≤ 60) (hX : GRt K S P w v cx cy) {x y : Nat} (hx : x < 2 ^ 31) (hy : y < 2 ^ 31) {c s l : Int32} (hc : sgn c) (hs : bd s 10) (hl : bd l 999) (n n' : Nat) : ∃ h' K' S', f_Grid_write n h (A 7 P) (nI x) (nI y) (cellv c s l) = some h' ∧ f_M_lay n' S (nI P) (nI x) (nI y) c s l = some S' ∧ Hrep h' A ρ (cT L a kd) K' ∧ GRt K' S' P w v cx cy ∧ KGF K K' P ∧ SGF S S' P := by
  obtain ⟨f1, f2, f3, f4, f5⟩ := gr_facts H hS hp hk
  obtain ⟨⟨x1, x2, x3, x4, x5, x6, x7, x8⟩, x9, x10, x11, x12⟩ := id hX
  have q1 := e_indexOf H hS hp hk n x1 x2 x5 x6 hx hy
  have q2 := e_isCellN n' S hP x3 x4 x5 x6 hx hy
  by_cases d : x < w ∧ y < v
  · rw [if_pos d] at q1
    rw [decide_eq_true d] at q2
    have e0 : ¬ nI (60 * y + x) < 0 := nI_pos (by omega)
    have e1 : gArr (some (20, 1440)) 20 (nI (60 * y + x)) = true := gArr_n (by omega) (by decide)
    have e2 := ixn (show 60 * y + x < 2 ^ 31 by omega)
    have e3 : (1440 : Int32) * nI P + (60 : Int32) * nI y + nI x = nI (1440 * P + (60 * y + x)) := by rw [show (1440 : Int32) = nI 1440 from rfl, show (60 : Int32) = nI 60 from rfl, pk_mul, pk_mul, nI_add, nI_add, Nat.add_assoc]
    have e4 := inn (show 1440 * P + (60 * y + x) < 87840 by omega) (by decide)
    have e5 := ixn (show 1440 * P + (60 * y + x) < 2 ^ 31 by omega)
    refine ⟨gsetI h (A 11 P) (60 * y + x) (cellv c s l), K.i 11 P (60 * y + x) (cellv c s l), ((S.a 29 (1440 * P + (60 * y + x)) c).a 30 (1440 * P + (60 * y + x)) s).a 31 (1440 * P + (60 * y + x)) l, ?_, ?_, H.i (cT11g hp hk) _ _, ⟨⟨x1, x2, x3, x4, x5, x6, fun k hk' => ?_, fun x' y' d1 d2 d3 => ?_⟩, x9, x10, x11, x12⟩, ⟨rfl, fun c' p' k' h1 h2 => ?_⟩, ⟨rfl, fun k' q' h1 h2 => ?_⟩⟩
    · unfold f_Grid_write
      simp only [f1, ggr, ggr', cond_true, q1, Option.bind_some, e0, if_false, reduceIte, f2, f3, e1, e2]
    · unfold f_M_lay
      rw [q2, Option.bind_some, if_neg (show ¬ b32 true = 0 by decide)]
      simp only [e3, e4, e5, cond_true]
    · rw [KS.i_1]
      simp only [MS.a_2, show ¬ 29 = 31 from by decide, show ¬ 29 = 30 from by decide, show ¬ 30 = 31 from by decide, show ¬ 30 = 29 from by decide, show ¬ 31 = 30 from by decide, show ¬ 31 = 29 from by decide, false_and, true_and, if_false, reduceIte]
      by_cases e : k = 60 * y + x
      · subst e
        simp only [if_true, and_self, reduceIte]
        exact ⟨trivial, hc, hs, hl⟩
      · have e' : ¬ 1440 * P + k = 1440 * P + (60 * y + x) := by omega
        simp only [e, e', if_false, and_false, reduceIte]
        exact x7 k hk'
    · have e' : ¬ 1440 * P + (60 * y' + x') = 1440 * P + (60 * y + x) := by omega
      simp only [MS.a_2, e', and_false, if_false, reduceIte]
      exact x8 x' y' d1 d2 d3
    · rw [KS.i_1, if_neg (fun q => h2 ⟨q.1, q.2.1⟩)]
    · rw [MS.a_2, if_neg (by omega), MS.a_2, if_neg (by omega), MS.a_2, if_neg (by omega)]
  · rw [if_neg d] at q1
    rw [decide_eq_false d] at q2
    refine ⟨h, K, S, ?_, ?_, H, hX, KGF.rf, SGF.rf⟩
    · unfold f_Grid_write
      simp only [f1, ggr', cond_true, q1, Option.bind_some, show (-1 : Int32) < 0 from by decide, if_true, reduceIte]
    · unfold f_M_lay
      rw [q2, Option.bind_some, if_pos (show b32 false = 0 by decide)]
/-- the next row -/
theorem nx_row {h : gHp} {K : KS} {S : MS} {cx cy : Nat} (H : Hrep h A ρ (cT L a kd) K) (hS : RKs K a kd) (hp : pnN a P = true) (hk : kd P = 2) (hP : P ≤ 60) (hX : GRt K S P w v cx cy) (n n' : Nat) : ∃ h' K' S', f_Grid_goToNextRow n h (A 7 P) = some h' ∧ f_M_nextRow n' S (nI P) = some S' ∧ Hrep h' A ρ (cT L a kd) K' ∧ GRt K' S' P w v 0 (cy + 1) ∧ KGF K K' P ∧ SGF S S' P := by
  obtain ⟨f1, f2, f3, f4, f5⟩ := gr_facts H hS hp hk
  obtain ⟨⟨x1, x2, x3, x4, x5, x6, x7, x8⟩, x9, x10, x11, x12⟩ := id hX
  have iP := ixn (show P < 2 ^ 31 by omega)
  have bP : inB (nI P) 61 = true := inn (by omega) (by decide)
  have i15 : gint h (A 7 P) 15 = nI cy := by rw [f4, x11]
  refine ⟨gsetI (gsetI h (A 7 P) 14 0) (A 7 P) 15 (nI (cy + 1)), (K.i 7 P 14 0).i 7 P 15 (nI (cy + 1)), (S.a 34 P 0).a 35 P (nI (cy + 1)), ?_, ?_, (H.i (cT7 hp) 14 0).i (cT7 hp) 15 _, ⟨⟨x1, x2, x3, x4, x5, x6, x7, x8⟩, ?_, ?_, ?_, ?_⟩, ⟨rfl, fun c' p' k' h1 h2 => ?_⟩, ⟨rfl, fun k' q' h1 h2 => ?_⟩⟩
  · unfold f_Grid_goToNextRow
    simp only [gtag_setI, f1, ggr, cond_true, gint_setI, show ¬ 15 = 14 from by decide, and_false, if_false, reduceIte, i15, nI_1]
  · unfold f_M_nextRow
    simp only [bP, cond_true, iP, MS.a_2, show ¬ 35 = 34 from by decide, false_and, if_false, reduceIte, x12, nI_1]
  · rw [KS.i_1, if_neg (by omega), KS.i_1, if_pos ⟨rfl, rfl, rfl⟩]; rfl
  · rw [MS.a_2, if_neg (by omega), MS.a_2, if_pos ⟨rfl, rfl⟩]; rfl
  · rw [KS.i_1, if_pos ⟨rfl, rfl, rfl⟩]
  · rw [MS.a_2, if_pos ⟨rfl, rfl⟩]
  · rw [KS.i_1, if_neg (by omega), KS.i_1, if_neg (by omega)]
  · rw [MS.a_2, if_neg (by omega), MS.a_2, if_neg (by omega)]
/-- a sign is put to a grid -/
theorem put_grid {h : gHp} {K : KS} {S : MS} {cx cy : Nat} (H : Hrep h A ρ (cT L a kd) K) (hS : RKs K a kd) (hp : pnN a P = true) (hk : kd P = 2) (hP : P ≤ 60) (hX : GRt K S P w v cx cy) (hx : cx ≤ 99) (hy : cy < 100000) {c s l : Int32} (hc : okc c) (hs : bd s 10) (hl : bd l 999) (s16 : S.2 16 P = s) (s17 : S.2 17 P = l) (n n' : Nat) : ∃ h' K' S' cx' cy', f_Grid_put n h (A 7 P) (cellv c s l) = some h' ∧ (if c = 10 then (f_M_nextRow n' S (nI P)).bind (fun q => some ((1 : Int32), q)) else if S.2 34 (ix (nI P)) < S.2 14 (ix (nI P)) then f_M_sign_B126 n' S (nI P) c else (f_M_nextRow n' S (nI P)).bind (fun q => f_M_sign_B126 n' q (nI P) c)) = some (1, S') ∧ Hrep h' A ρ (cT L a kd) K' ∧ GRt K' S' P w v cx' cy' ∧ cx' ≤ 99 ∧ cy' ≤ cy + 1 ∧ KGF K K' P ∧ SGF S S' P := by
  have iP := ixn (show P < 2 ^ 31 by omega)
  have bP : inB (nI P) 61 = true := inn (by omega) (by decide)
  have sO := e_signOf n h (okc_bd hc) hs hl
  have f1 := (gr_facts H hS hp hk).1
  have f4 := (gr_facts H hS hp hk).2.2.2.1
  -- the sign itself, at a place within
  have step : ∀ (h : gHp) (K : KS) (S : MS) (cx cy : Nat), Hrep h A ρ (cT L a kd) K → RKs K a kd → GRt K S P w v cx cy → cx ≤ 98 → cy < 100001 → sgn c → S.2 16 P = s → S.2 17 P = l → ∃ h' K' S' hm, f_Grid_write n h (A 7 P) (nI cx) (nI cy) (cellv c s l) = some hm ∧ gtag hm (A 7 P) = some (1, 16) ∧ gsetI hm (A 7 P) 14 (gint hm (A 7 P) 14 + 1) = h' ∧ f_M_sign_B126 n' S (nI P) c = some (1, S') ∧ Hrep h' A ρ (cT L a kd) K' ∧ GRt K' S' P w v (cx + 1) cy ∧ KGF K K' P ∧ SGF S S' P := by
    intro h K S cx cy H hS hX hx hy hc s16 s17
    obtain ⟨hm, Km, Sm, q1, q2, q3, q4, q5, q6⟩ := wr_cell H hS hp hk hP hX (show cx < 2 ^ 31 by omega) (show cy < 2 ^ 31 by omega) hc hs hl n n'
    have hS' : RKs Km a kd := by unfold RKs at hS ⊢; rw [q5.1]; exact hS
    obtain ⟨g1, g2, g3, g4, g5⟩ := gr_facts q3 hS' hp hk
    obtain ⟨⟨y1, y2, y3, y4, y5, y6, y7, y8⟩, y9, y10, y11, y12⟩ := q4
    have i14 : gint hm (A 7 P) 14 = nI cx := by rw [g4, y9]
    refine ⟨gsetI hm (A 7 P) 14 (nI (cx + 1)), Km.i 7 P 14 (nI (cx + 1)), Sm.a 34 P (nI (cx + 1)), hm, q1, g1, by rw [i14, nI_1], ?_, q3.i (cT7 hp) 14 _, ⟨⟨y1, y2, y3, y4, y5, y6, y7, y8⟩, ?_, ?_, y11, y12⟩, q5.tr ⟨rfl, fun c' p' k' h1 h2 => ?_⟩, q6.tr ⟨rfl, fun k' q' h1 h2 => ?_⟩⟩
    · unfold f_M_sign_B126
      simp only [bP, cond_true, iP, hX.2.2.1, hX.2.2.2.2, s16, s17, q2, Option.bind_some, y10, nI_1]
    · rw [KS.i_1, if_pos ⟨rfl, rfl, rfl⟩]
    · rw [MS.a_2, if_pos ⟨rfl, rfl⟩]
    · rw [KS.i_1, if_neg (by omega)]
    · rw [MS.a_2, if_neg (by omega)]
  obtain ⟨⟨x1, x2, x3, x4, x5, x6, x7, x8⟩, x9, x10, x11, x12⟩ := id hX
  by_cases c1 : c = 10
  · obtain ⟨h', K', S', q1, q2, q3, q4, q5, q6⟩ := nx_row H hS hp hk hP hX n n'
    refine ⟨h', K', S', 0, cy + 1, ?_, by rw [if_pos c1, q2]; rfl, q3, q4, by omega, by omega, q5, q6⟩
    unfold f_Grid_put
    rw [sO]
    simp only [Option.bind_some, c1, if_true, reduceIte, f1, ggr', cond_true, q1]
  · have hc' : sgn c := by rcases hc with q | q; exact absurd q c1; exact q
    rw [if_neg c1, iP, x10, x3]
    have i14 : gint h (A 7 P) 14 = nI cx := by rw [f4, x9]
    have i15 : gint h (A 7 P) 15 = nI cy := by rw [f4, x11]
    have i5 : gint h (A 7 P) 5 = nI w := by rw [f4, x1]
    by_cases c2 : cx < w
    · obtain ⟨h', K', S', hm, q1, q2, q3, q4, q5, q6, q7, q8⟩ := step h K S cx cy H hS hX (by omega) (by omega) hc' s16 s17
      refine ⟨h', K', S', cx + 1, cy, ?_, by rw [if_pos (nI_lt c2 (by omega)), q4], q5, q6, by omega, by omega, q7, q8⟩
      unfold f_Grid_put
      simp only [sO, Option.bind_some, c1, if_false, reduceIte, f1, ggr, ggr', cond_true, i14, i5, i15, if_pos (nI_lt c2 (show w < 2 ^ 31 by omega)), q1, q2, q3]
    · obtain ⟨h1, K1, S1, q1, q2, q3, q4, q5, q6⟩ := nx_row H hS hp hk hP hX n n'
      have hS' : RKs K1 a kd := by unfold RKs at hS ⊢; rw [q5.1]; exact hS
      have u16 : S1.2 16 P = s := by rw [q6.2 16 P (by omega) (by omega), s16]
      have u17 : S1.2 17 P = l := by rw [q6.2 17 P (by omega) (by omega), s17]
      obtain ⟨h', K', S', hm, r1, r2, r3, r4, r5, r6, r7, r8⟩ := step h1 K1 S1 0 (cy + 1) q3 hS' q4 (by omega) (by omega) hc' u16 u17
      obtain ⟨g1, g2, g3, g4, g5⟩ := gr_facts q3 hS' hp hk
      have j14 : gint h1 (A 7 P) 14 = nI 0 := by rw [g4, q4.2.1]
      have j15 : gint h1 (A 7 P) 15 = nI (cy + 1) := by rw [g4, q4.2.2.2.1]
      refine ⟨h', K', S', 0 + 1, cy + 1, ?_, ?_, r5, r6, by omega, by omega, q5.tr r7, q6.tr r8⟩
      · unfold f_Grid_put
        simp only [sO, Option.bind_some, c1, if_false, reduceIte, f1, ggr, ggr', cond_true, i14, i5, nI_nlt (show w ≤ cx by omega) (show cx < 2 ^ 31 by omega), q1, g1, j14, j15, r1, r2, r3]
      · rw [if_neg (nI_nlt (by omega) (by omega)), q2, Option.bind_some, r4]
end GR
