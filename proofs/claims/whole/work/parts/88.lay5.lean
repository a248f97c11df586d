section LAYS
variable {A : Nat → Nat → Nat} {ρ : Nat → Nat × Nat} {L a : Nat} {kd : Nat → Int32}
theorem gpr : gtin (some (3, 16)) [3] = true := rfl
theorem gpr' : gtis (some (3, 16)) 3 = true := rfl
theorem pd_facts {h : gHp} {K : KS} {p f s m z kk : Nat} (H : Hrep h A ρ (cT L a kd) K) (hp : pnN a p = true) (hk : kd p = 4) (hD : PDk K a kd p f s m z kk) : gtag h (A 7 p) = some (3, 16) ∧ gref h (A 7 p) 14 = some (A 7 f) ∧ gref h (A 7 p) 15 = some (A 7 s) ∧ gint h (A 7 p) 11 = nI m ∧ gint h (A 7 p) 12 = nI z :=
  ⟨by rw [H.tag (cT7 hp), hk]; rfl, by rw [H.ref (cT7 hp), hD.1]; rfl, by rw [H.ref (cT7 hp), hD.2.1]; rfl, by rw [H.int (cT7 hp), hD.2.2.1], by rw [H.int (cT7 hp), hD.2.2.2.1]⟩
theorem e_borderIn {h : gHp} {p m R : Nat} (tg : gtag h (A 7 p) = some (3, 16)) (i11 : gint h (A 7 p) 11 = nI m) (hm : m < 16) (hR : R < 2 ^ 31) (n : Nat) : f_Pair_borderIn n h (A 7 p) (nI R) = some (nI (brd m R), h) := by
  obtain ⟨b1, b2, b3, b4, b5⟩ := bits m hm
  unfold f_Pair_borderIn brd
  rw [tg, gpr, cond_true, i11]
  simp only [nI_le0 hR, b4]
  by_cases c : R = 0
  · rw [if_pos c, if_neg (by omega)]; rfl
  · rw [if_neg c]
    by_cases c2 : m / 8 % 2 = 0
    · rw [if_pos c2, if_pos ⟨by omega, c2⟩]; rfl
    · rw [if_neg c2, if_neg (fun q => c2 q.2)]; rfl
theorem e_measureIn {h : gHp} {K : KS} {p f s m z kk R : Nat} (H : Hrep h A ρ (cT L a kd) K) (hp : pnN a p = true) (hk : kd p = 4) (hD : PDk K a kd p f s m z kk) (hR : R ≤ 60) (n : Nat) : f_Pair_measureIn n h (A 7 p) (nI R) = some (nI (wnt m z kk R (!decide (m / 2 % 2 = 0))), h) := by
  obtain ⟨g1, g2, g3, g4, g5⟩ := pd_facts H hp hk hD
  obtain ⟨d1, d2, d3, d4, d5, d6, d7⟩ := hD
  obtain ⟨b1, b2, b3, b4, b5⟩ := bits m d5
  have e16 : (nI z + 15) / (16 : Int32) = nI ((z + 15) / 16) := by
    rw [show (16 : Int32) = nI 16 from rfl, show (15 : Int32) = nI 15 from rfl, nI_add, dv (by omega) (by omega) (by omega)]
  have e8 : (nI z + 7) / (8 : Int32) = nI ((z + 7) / 8) := by
    rw [show (8 : Int32) = nI 8 from rfl, show (7 : Int32) = nI 7 from rfl, nI_add, dv (by omega) (by omega) (by omega)]
  unfold f_Pair_measureIn wnt f_G_isFixed
  rw [g1, gpr, cond_true, g4]
  by_cases c : m / 4 % 2 = 0
  · rw [if_pos (b3.mpr c), if_pos c, Option.bind_some]
    simp only [show ¬ (1 : Int32) = 0 from by decide, if_false, reduceIte, g1, gpr, cond_true, g4, g5]
    rcases d7 with ⟨z1, rfl⟩ | ⟨q, q1, q2, q3, q4⟩
    · have r13 : gref h (A 7 p) 13 = none := by rw [H.ref (cT7 hp), z1]; rfl
      rw [r13, if_pos rfl]
      rfl
    · have r13 : gref h (A 7 p) 13 = some (A 7 q) := by rw [H.ref (cT7 hp), q1]; rfl
      have tq := H.tag (cT7 (L := L) (kd := kd) q2)
      rw [q3] at tq
      rw [r13, if_neg (by simp)]
      unfold f_G_isAlongRows f_Writing_wanted f_Pane_wanted f_Picture_wanted
      simp only [Option.bind_some, tq, b2]
      rcases (by omega : kk = 0 ∨ kk = 1 ∨ kk = 2 ∨ kk = 3 ∨ kk = 4) with rfl | rfl | rfl | rfl | rfl
      · by_cases c2 : m / 2 % 2 = 0 <;> simp only [c2, if_true, if_false, reduceIte, Option.bind_some, tq] <;> rfl
      · by_cases c2 : m / 2 % 2 = 0 <;> simp only [c2, if_true, if_false, reduceIte, Option.bind_some, tq] <;> rfl
      · by_cases c2 : m / 2 % 2 = 0 <;> simp only [c2, if_true, if_false, reduceIte, Option.bind_some, tq] <;> rfl
      · by_cases c2 : m / 2 % 2 = 0
        · simp only [c2, if_true, reduceIte, Option.bind_some, tq, show cTag (nI 3) = (5, 12) from rfl, show gtin (some (5, 12)) [1, 6] = false from rfl, show gtin (some (5, 12)) [3, 4] = false from rfl, show gtin (some (5, 12)) [5] = true from rfl, cond_false, cond_true, show decide (¬ (8 : Int32) = 0) = true from rfl, e8, show ¬ (3 = 1 ∨ 3 = 2) from by decide, if_false, decide_true, Bool.not_true, Bool.false_eq_true]
        · simp only [c2, if_true, if_false, reduceIte, Option.bind_some, tq, show cTag (nI 3) = (5, 12) from rfl, show gtin (some (5, 12)) [1, 6] = false from rfl, show gtin (some (5, 12)) [3, 4] = false from rfl, show gtin (some (5, 12)) [5] = true from rfl, cond_false, cond_true, show decide (¬ (16 : Int32) = 0) = true from rfl, e16, show ¬ (3 = 1 ∨ 3 = 2) from by decide, decide_false, Bool.not_false, show ¬ (1 : Int32) = 0 from by decide]
      · by_cases c2 : m / 2 % 2 = 0 <;> simp only [c2, if_true, if_false, reduceIte, Option.bind_some, tq] <;> rfl
  · rw [if_neg (fun q => c (b3.mp q)), if_neg c, Option.bind_some]
    simp only [if_true, reduceIte, g1, gpr, cond_true, show decide (¬ (100 : Int32) = 0) = true from rfl, g5]
    rw [pk_mul, show (100 : Int32) = nI 100 from rfl, dv (by have : R * z ≤ 60 * 999 := Nat.mul_le_mul hR d6
                                                             omega) (by omega) (by omega)]
/-- both sides of a pair -/
theorem e_sides {recF : gHp → Option Nat → Int32 → Int32 → Int32 → Int32 → Int32 → Option (Int32 × gHp)} {h h1 h2 : gHp} {K K1 : KS} {p f s m z kk n : Nat} {r : Rc} {x1 c1 c2 : Int32} (H : Hrep h A ρ (cT L a kd) K) (hp : pnN a p = true) (hk : kd p = 4) (hD : PDk K a kd p f s m z kk) (hr : rb r) (hR : rcK K p r) (H1 : Hrep h1 A ρ (cT L a kd) K1) (hD1 : PDk K1 a kd p f s m z kk) (hR1 : rcK K1 p r) (q1 : recF h (some (A 7 f)) (nI (sp1 m z kk r).1) (nI (sp1 m z kk r).2.1) (nI (sp1 m z kk r).2.2.1) (nI (sp1 m z kk r).2.2.2) x1 = some (c1, h1)) (q2 : recF h1 (some (A 7 s)) (nI (sp2 m z kk r).1) (nI (sp2 m z kk r).2.1) (nI (sp2 m z kk r).2.2.1) (nI (sp2 m z kk r).2.2.2) x1 = some (c2, h2)) : f_Tree_layOutSides recF n h (some (A 7 p)) x1 = some (c1 + c2, h2) := by
  obtain ⟨g1, g2, g3, g4, g5⟩ := pd_facts H hp hk hD
  obtain ⟨g1', g2', g3', g4', g5'⟩ := pd_facts H1 hp hk hD1
  have hm := hD.2.2.2.2.1
  obtain ⟨b1, b2, b3, b4, b5⟩ := bits m hm
  obtain ⟨u1, u2⟩ := hr
  obtain ⟨k3, k4, k5, k6⟩ := hR
  obtain ⟨k3', k4', k5', k6'⟩ := hR1
  have t7 := cT7 (L := L) (kd := kd) hp
  have i3 : gint h (A 7 p) 3 = nI r.1 := by rw [H.int t7, k3]
  have i4 : gint h (A 7 p) 4 = nI r.2.1 := by rw [H.int t7, k4]
  have i5 : gint h (A 7 p) 5 = nI r.2.2.1 := by rw [H.int t7, k5]
  have i6 : gint h (A 7 p) 6 = nI r.2.2.2 := by rw [H.int t7, k6]
  have i3' : gint h1 (A 7 p) 3 = nI r.1 := by rw [H1.int t7, k3']
  have i4' : gint h1 (A 7 p) 4 = nI r.2.1 := by rw [H1.int t7, k4']
  have i5' : gint h1 (A 7 p) 5 = nI r.2.2.1 := by rw [H1.int t7, k5']
  have i6' : gint h1 (A 7 p) 6 = nI r.2.2.2 := by rw [H1.int t7, k6']
  -- down to the two calls
  have h23 : ∀ (fl : Int32) (rows : Bool) (R : Nat), R ≤ 60 → (rows = !decide (m / 2 % 2 = 0)) → f_Tree_layOutSides_B23 recF n h (some (A 7 p)) x1 fl (nI R) = f_Tree_layOutSides_B64 recF n h (some (A 7 p)) x1 fl (nI R) (nI (brd m R)) (nI (ahd m z kk R rows)) := by
    intro fl rows R hR' hrows
    have bl := brd_le m R
    have eB := e_borderIn g1 g4 hm (show R < 2 ^ 31 by omega) n
    have eM := e_measureIn H hp hk hD hR' n
    rw [← hrows] at eM
    have wl : wnt m z kk R rows < 2 ^ 31 := by
      unfold wnt
      have : R * z ≤ 60 * 999 := Nat.mul_le_mul hR' hD.2.2.2.2.2.1
      have := hD.2.2.2.2.2.1
      repeat' split
      all_goals omega
    have mn : (if nI (R - brd m R) < nI (wnt m z kk R rows) then nI (R - brd m R) else nI (wnt m z kk R rows)) = nI (min (wnt m z kk R rows) (R - brd m R)) := by
      by_cases c : R - brd m R < wnt m z kk R rows
      · rw [if_pos (nI_lt c wl), Nat.min_eq_right (by omega)]
      · rw [if_neg (nI_nlt (by omega) (by omega)), Nat.min_eq_left (by omega)]
    unfold f_Tree_layOutSides_B23 f_Pair_measuresFirst ahd
    simp only [Option.bind_some, g1, gpr, gpr', cond_true, eB, eM, g4, b1, pk_sub bl, mn]
    by_cases c : m % 2 = 0
    · simp only [c, if_true, reduceIte, Option.bind_some, show ¬ (1 : Int32) = 0 from by decide, if_false]
    · simp only [c, if_false, reduceIte, Option.bind_some, if_true, pk_sub (show min (wnt m z kk R rows) (R - brd m R) ≤ R - brd m R from Nat.min_le_right _ _)]
  unfold f_Tree_layOutSides f_G_isAlongRows
  simp only [Option.bind_some, g1, gpr, cond_true, g4, b2, i5, i6]
  by_cases c : m / 2 % 2 = 0
  · have al := ahd_le m z kk r.2.2.1 false
    unfold sp1 at q1
    unfold sp2 at q2
    rw [if_pos c] at q1 q2
    simp only at q1 q2
    rw [if_pos c, Option.bind_some]
    simp only [if_true, reduceIte]
    simp only [g1, gpr, cond_true, i5]
    rw [h23 0 false r.2.2.1 (by omega) (by simp [c])]
    unfold f_Tree_layOutSides_B64
    simp only [if_true, reduceIte, Option.bind_some, g1, gpr, cond_true, g2, i3, i4, i6, q1, g1', g3', i3', i4', i6', nI_add, pk_sub al, q2]
  · have al := ahd_le m z kk r.2.2.2 true
    unfold sp1 at q1
    unfold sp2 at q2
    rw [if_neg c] at q1 q2
    simp only at q1 q2
    rw [if_neg c, Option.bind_some]
    simp only [show ¬ (1 : Int32) = 0 from by decide, if_false, reduceIte]
    simp only [g1, gpr, cond_true, i6]
    rw [h23 1 true r.2.2.2 (by omega) (by simp [c])]
    unfold f_Tree_layOutSides_B64
    simp only [show ¬ (1 : Int32) = 0 from by decide, if_false, reduceIte, Option.bind_some, g1, gpr, cond_true, g2, i3, i4, i5, q1, g1', g3', i3', i4', i5', nI_add, pk_sub al, q2]
theorem LKF.rf {K : KS} {l : List Nat} : LKF K K l kd := ⟨rfl, fun _ _ _ _ _ => rfl⟩
theorem PDk.eq {K K' : KS} {p f s m z kk : Nat} (H : PDk K a kd p f s m z kk) (h2 : K'.2 = K.2) (h1 : ∀ k, k = 11 ∨ k = 12 → K'.1 7 p k = K.1 7 p k) : PDk K' a kd p f s m z kk := by
  unfold PDk at H ⊢
  rw [h2, h1 11 (by omega), h1 12 (by omega)]
  exact H
theorem rcK.eq {K K' : KS} {q : Nat} {r : Rc} (H : rcK K q r) (h : ∀ k, 3 ≤ k → k ≤ 6 → K'.1 7 q k = K.1 7 q k) : rcK K' q r := by
  unfold rcK at H ⊢
  rw [h 3 (by omega) (by omega), h 4 (by omega) (by omega), h 5 (by omega) (by omega), h 6 (by omega) (by omega)]
  exact H
theorem chg_eq {K K' : KS} {q : Nat} {r : Rc} (h : ∀ k, 3 ≤ k → k ≤ 6 → K'.1 7 q k = K.1 7 q k) : chg K' r q = chg K r q := by
  unfold chg
  rw [h 3 (by omega) (by omega), h 4 (by omega) (by omega), h 5 (by omega) (by omega), h 6 (by omega) (by omega)]
theorem GBk.eq {K K' : KS} {q : Nat} (H : GBk K q) (h : ∀ k, 3 ≤ k → k ≤ 6 → K'.1 7 q k = K.1 7 q k) (h' : ∀ k, K'.1 11 q k = K.1 11 q k) : GBk K' q := by
  unfold GBk at H ⊢
  rw [h 5 (by omega) (by omega), h 6 (by omega) (by omega)]
  simp only [h']
  exact H
theorem lay_sub {S0 : MS} {N : Nat} (hN : 3000 ≤ N) (hkd : kd = S0.2 5) : ∀ (d : Nat) {up p : Nat} {l : List Nat} {r0 : Rc} {G : Nat → Rc} {dep n : Nat} {h : gHp} {K : KS}, TPS S0 d up p l → l.Nodup → LayR S0 d p (nrm r0) G → rb r0 → dep + d ≤ 13 → d ≤ n → Hrep h A ρ (cT L a kd) K → RKs K a kd → (∀ q, q ∈ l → pnN a q = true ∧ (kd q = 0 ∨ kd q = 1 ∨ kd q = 2 ∨ kd q = 3 ∨ kd q = 4)) → (∀ q, q ∈ l → kd q = 4 → PDk K a kd q (fN S0 q) (sN S0 q) (mN S0 q) (zN S0 q) (kN S0 q)) → (∀ q, q ∈ l → ∃ o, rb o ∧ rcK K q o) → (∀ q, q ∈ l → kd q = 2 → GBk K q) → ∃ h' K', f_Tree_layOutFrom N n h (some (A 7 p)) (nI r0.1) (nI r0.2.1) (nI r0.2.2.1) (nI r0.2.2.2) (nI dep) = some (nI (l.countP (fun q => chg K (G q) q)), h') ∧ Hrep h' A ρ (cT L a kd) K' ∧ (∀ q, q ∈ l → rcK K' q (G q)) ∧ (∀ q, q ∈ l → kd q = 2 → GCk K K' q (G q).2.2.1 (G q).2.2.2) ∧ LKF K K' l kd := by
  intro d
  induction d with
  | zero => intro up p l r0 G dep n h K hT; cases hT
  | succ d ih =>
    intro up p l r0 G dep n h K hT hNd hL hr hdep hnf H hS hpn hD hO hB
    have hT0 := hT
    obtain ⟨h1, h2, h3, h4, h5⟩ := hT
    have pl : p ∈ l := hT0.here.2.2.2.2
    obtain ⟨hp, hkp⟩ := hpn p pl
    obtain ⟨o, o1, o2⟩ := hO p pl
    have gp : G p = nrm r0 := hL.1
    cases n with
    | zero => omega
    | succ n =>
    have hrb := nrm_rb hr
    -- the pane itself
    obtain ⟨h', K', m1, m2, m3, m4, m5, m6⟩ := e_moveTo (n := N) (r := nrm r0) (o := o) H hS hp hkp hrb o1 o2 (hB p pl) (by omega)
    have tg := H.tag (cT7 (L := L) (kd := kd) hp)
    have hF : f_Tree_layOutFrom N (n + 1) h (some (A 7 p)) (nI r0.1) (nI r0.2.1) (nI r0.2.2.1) (nI r0.2.2.2) (nI dep) = f_Tree_layOutFrom_B54 (f_Tree_layOutSides (f_Tree_layOutFrom N n) N) N h' (some (A 7 p)) (nI dep) (b32 (chg K (nrm r0) p)) := by
      rw [f_Tree_layOutFrom, if_neg (by simp), if_pos (show nI dep ≤ (12 : Int32) from nI_le (b := 12) (by omega) (by omega))]
      unfold f_Tree_layOutFrom_B26 f_Tree_layOutFrom_B27
      have u1 := hr.1
      have u2 := hr.2
      simp only [nI_le0 (show r0.2.2.1 < 2 ^ 31 by omega), nI_le0 (show r0.2.2.2 < 2 ^ 31 by omega), Option.bind_some, tg, cTag_pane, cond_true, if_true, if_false, reduceIte, show ¬ (1 : Int32) = 0 from by decide]
      by_cases c1 : r0.2.2.1 = 0
      · have en : nrm r0 = (0, 0, 0, 0) := by unfold nrm; rw [if_neg (show ¬ (0 < r0.2.2.1 ∧ 0 < r0.2.2.2) by omega)]
        rw [en] at m1 ⊢
        have m1' : f_Pane_moveTo N h (A 7 p) 0 0 0 0 = some (b32 (chg K (0, 0, 0, 0) p), h') := m1
        rw [if_pos c1, m1', Option.bind_some]
      · rw [if_neg c1]
        by_cases c2 : r0.2.2.2 = 0
        · have en : nrm r0 = (0, 0, 0, 0) := by unfold nrm; rw [if_neg (show ¬ (0 < r0.2.2.1 ∧ 0 < r0.2.2.2) by omega)]
          rw [en] at m1 ⊢
          have m1' : f_Pane_moveTo N h (A 7 p) 0 0 0 0 = some (b32 (chg K (0, 0, 0, 0) p), h') := m1
          rw [if_pos c2, m1', Option.bind_some]
        · have en : nrm r0 = r0 := by unfold nrm; rw [if_pos (show 0 < r0.2.2.1 ∧ 0 < r0.2.2.2 by omega)]
          rw [en] at m1 ⊢
          rw [if_neg c2, m1, Option.bind_some]
    have hS' := hS.eq m5
    have i4 : gInst h' (some (A 7 p)) "GlkPanes$Pair" = some (b32 (decide (kd p = 4))) := by
      have tg' := m2.tag (cT7 (L := L) (kd := kd) hp)
      rcases hkp with e | e | e | e | e <;> (rw [e] at tg' ⊢; simp [gInst, tg', cTag, b32, io_Pair_4, io_Pair_6, io_Pair_1, io_Pair_5, io_Pair_3])
    rw [hF]
    unfold f_Tree_layOutFrom_B54
    rcases h5 with ⟨h5, h6⟩ | ⟨h5, f, s, ll, lr, h6, h7, h8, h9, h10⟩
    · subst h6
      have k4 : ¬ kd p = 4 := by rw [hkd]; exact h5
      refine ⟨h', K', ?_, m2, fun q hq => ?_, fun q hq k => ?_, m5, fun c q k c1 c2 => ?_⟩
      · rw [i4, decide_eq_false k4, Option.bind_some, if_pos (show b32 false = 0 from rfl)]
        rw [← gp]
        cases e : chg K (G p) p with
        | false => simp [e, b32]; rfl
        | true => simp [e, b32]; rfl
      · rw [List.mem_singleton.mp hq, gp]; exact m3
      · rw [List.mem_singleton.mp hq] at k ⊢; rw [gp]; exact m4 k
      · exact m6 c q k (fun e => c1 ⟨e.1, List.mem_singleton.mpr e.2.1, e.2.2⟩) (fun e => c2 ⟨e.1, List.mem_singleton.mpr e.2.1, by rw [e.2.1]; exact e.2.2⟩)
    · subst h8
      obtain ⟨n1, n2⟩ := List.nodup_cons.mp hNd
      obtain ⟨n3, n4, n5⟩ := List.nodup_append.mp n2
      have hf := h9.here
      have hs := h10.here
      have k4 : kd p = 4 := by rw [hkd]; exact h5
      have ef : fN S0 p = f := by unfold fN; rw [h6, ixn (by have := hf.2.1; omega)]
      have es : sN S0 p = s := by unfold sN; rw [h7, ixn (by have := hs.2.1; omega)]
      obtain ⟨k1, k2⟩ := hL.2 h5
      rw [ef] at k1
      rw [es] at k2
      have il : ∀ q, q ∈ ll → q ∈ p :: (ll ++ lr) := fun q h => List.mem_cons_of_mem _ (List.mem_append_left _ h)
      have ir : ∀ q, q ∈ lr → q ∈ p :: (ll ++ lr) := fun q h => List.mem_cons_of_mem _ (List.mem_append_right _ h)
      have pnl : ∀ q, q ∈ ll → ¬ q = p := fun q hq e => n1 (List.mem_append_left _ (e ▸ hq))
      have pnr : ∀ q, q ∈ lr → ¬ q = p := fun q hq e => n1 (List.mem_append_right _ (e ▸ hq))
      have dj : ∀ q, q ∈ ll → ¬ q ∈ lr := fun q h h' => n5 q h q h' rfl
      have pd0 := hD p List.mem_cons_self k4
      rw [ef, es] at pd0
      have pd1 : PDk K' a kd p f s (mN S0 p) (zN S0 p) (kN S0 p) := pd0.eq m5 (fun k hk => m6 7 p k (by omega) (by omega))
      have g7 : ∀ q k, ¬ q = p → K'.1 7 q k = K.1 7 q k := fun q k hq => m6 7 q k (fun e => hq e.2.1) (fun e => by omega)
      have g11 : ∀ q k, ¬ q = p → K'.1 11 q k = K.1 11 q k := fun q k hq => m6 11 q k (fun e => by omega) (fun e => hq e.2.1)
      -- the first side
      obtain ⟨ha, Ka, a1, a2, a3, a4, a5⟩ := ih (r0 := sp1 (mN S0 p) (zN S0 p) (kN S0 p) (nrm r0)) (dep := dep + 1) (n := n) (h := h') (K := K') h9 n3 k1 (sp1_rb hrb) (by omega) (by omega) m2 hS' (fun q hq => hpn q (il q hq)) (fun q hq k => (hD q (il q hq) k).eq m5 (fun k' _ => g7 q k' (pnl q hq))) (fun q hq => by
        obtain ⟨o', e1, e2⟩ := hO q (il q hq)
        exact ⟨o', e1, e2.eq (fun k _ _ => g7 q k (pnl q hq))⟩) (fun q hq k => (hB q (il q hq) k).eq (fun k' _ _ => g7 q k' (pnl q hq)) (fun k' => g11 q k' (pnl q hq)))
      have b7 : ∀ q k, ¬ q ∈ ll → Ka.1 7 q k = K'.1 7 q k := fun q k hq => a5.2 7 q k (fun e => hq e.2.1) (fun e => by omega)
      have b11 : ∀ q k, ¬ q ∈ ll → Ka.1 11 q k = K'.1 11 q k := fun q k hq => a5.2 11 q k (fun e => by omega) (fun e => hq e.2.1)
      have pnl' : ¬ p ∈ ll := fun e => pnl p e rfl
      have pnr' : ¬ p ∈ lr := fun e => pnr p e rfl
      have rnl : ∀ q, q ∈ lr → ¬ q ∈ ll := fun q h e => dj q e h
      -- the second
      obtain ⟨hb, Kb, c1, c2, c3, c4, c5⟩ := ih (r0 := sp2 (mN S0 p) (zN S0 p) (kN S0 p) (nrm r0)) (dep := dep + 1) (n := n) (h := ha) (K := Ka) h10 n4 k2 (sp2_rb hrb) (by omega) (by omega) a2 (hS'.eq a5.1) (fun q hq => hpn q (ir q hq)) (fun q hq k => ((hD q (ir q hq) k).eq m5 (fun k' _ => g7 q k' (pnr q hq))).eq a5.1 (fun k' _ => b7 q k' (rnl q hq))) (fun q hq => by
        obtain ⟨o', e1, e2⟩ := hO q (ir q hq)
        exact ⟨o', e1, (e2.eq (fun k _ _ => g7 q k (pnr q hq))).eq (fun k _ _ => b7 q k (rnl q hq))⟩) (fun q hq k => ((hB q (ir q hq) k).eq (fun k' _ _ => g7 q k' (pnr q hq)) (fun k' => g11 q k' (pnr q hq))).eq (fun k' _ _ => b7 q k' (rnl q hq)) (fun k' => b11 q k' (rnl q hq)))
      have sd := e_sides (n := N) m2 hp k4 pd1 hrb m3 a2 (pd1.eq a5.1 (fun k hk => b7 p k pnl')) (m3.eq (fun k _ _ => b7 p k pnl')) a1 c1
      have e1 : ll.countP (fun q => chg K' (G q) q) = ll.countP (fun q => chg K (G q) q) := by
        refine List.countP_congr (fun q hq => ?_)
        rw [chg_eq (fun k _ _ => g7 q k (pnl q hq))]
      have e2 : lr.countP (fun q => chg Ka (G q) q) = lr.countP (fun q => chg K (G q) q) := by
        refine List.countP_congr (fun q hq => ?_)
        rw [chg_eq (fun k _ _ => b7 q k (rnl q hq)), chg_eq (fun k _ _ => g7 q k (pnr q hq))]
      rw [e1, e2, nI_add] at sd
      have i4' : gInst h' (some (A 7 p)) "GlkPanes$Pair" = some 1 := by rw [i4, decide_eq_true k4]; rfl
      refine ⟨hb, Kb, ?_, c2, fun q hq => ?_, fun q hq k => ?_, c5.1.trans (a5.1.trans m5), fun c q k d1 d2 => ?_⟩
      · rw [i4', Option.bind_some, if_neg (show ¬ (1 : Int32) = 0 by decide), cas_of i4', cond_true, nI_1, sd, Option.bind_some, List.countP_cons, List.countP_append, gp]
        cases e : chg K (nrm r0) p with
        | false => simp [b32]
        | true => simp [b32, nI_1]
      · rcases List.mem_cons.mp hq with e | e
        · subst e
          rw [gp]
          exact (m3.eq (fun k _ _ => b7 q k pnl')).eq (fun k _ _ => c5.2 7 q k (fun e => pnr' e.2.1) (fun e => by omega))
        · rcases List.mem_append.mp e with e | e
          · exact (a3 q e).eq (fun k _ _ => c5.2 7 q k (fun e' => dj q e e'.2.1) (fun e' => by omega))
          · exact c3 q e
      · rcases List.mem_cons.mp hq with e | e
        · subst e; rw [k4] at k; exact absurd k (by decide)
        · rcases List.mem_append.mp e with e | e
          · intro t ht
            rw [c5.2 11 q t (fun e' => by omega) (fun e' => dj q e e'.2.1), a4 q e k t ht, g11 q t (pnl q e)]
          · intro t ht
            rw [c4 q e k t ht, b11 q t (rnl q e), g11 q t (pnr q e)]
      · rw [c5.2 c q k (fun e => d1 ⟨e.1, ir q e.2.1, e.2.2⟩) (fun e => d2 ⟨e.1, ir q e.2.1, e.2.2⟩), a5.2 c q k (fun e => d1 ⟨e.1, il q e.2.1, e.2.2⟩) (fun e => d2 ⟨e.1, il q e.2.1, e.2.2⟩)]
        exact m6 c q k (fun e => d1 ⟨e.1, by rw [e.2.1]; exact List.mem_cons_self, e.2.2⟩) (fun e => d2 ⟨e.1, by rw [e.2.1]; exact List.mem_cons_self, by rw [e.2.1]; exact e.2.2⟩)
end LAYS
