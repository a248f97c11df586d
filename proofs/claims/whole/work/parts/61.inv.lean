/-! ===== the class's objects by kind and number, apart from where they stand =====
K c p k: 0 the object, 1 tree, 2 events, 3 panes, 4 ring, 5 taken, 6 ring's row p, 7 pane p, 8 its asked, 9 its line, 10 the line's cells, 11 its cells, 12 its wrap, 13 begins, 14 ends, 15 the reference, 16 its rows, 17 the script -/
abbrev KS : Type := (Nat → Nat → Nat → Int32) × (Nat → Nat → Nat → Option (Nat × Nat))
def KS.i (K : KS) (c p k : Nat) (x : Int32) : KS := (fun c' p' k' => bif Nat.beq c' c && (Nat.beq k' k && Nat.beq p' p) then x else K.1 c' p' k', K.2)
def KS.r (K : KS) (c p k : Nat) (o : Option (Nat × Nat)) : KS := (K.1, fun c' p' k' => bif Nat.beq c' c && (Nat.beq k' k && Nat.beq p' p) then o else K.2 c' p' k')
def aM (A : Nat → Nat → Nat) (o : Option (Nat × Nat)) : Option Nat := match o with
  | none => none
  | some q => some (A q.1 q.2)
/-- what is named is there -/
def clo (T : Nat → Nat → Option (Nat × Nat)) (o : Option (Nat × Nat)) : Prop := ∀ q, o = some q → ∃ t, T q.1 q.2 = some t
def Hrep (h : gHp) (A : Nat → Nat → Nat) (ρ : Nat → Nat × Nat) (T : Nat → Nat → Option (Nat × Nat)) (K : KS) : Prop :=
  ∀ c p t, T c p = some t → gtag h (A c p) = some t ∧ ρ (A c p) = (c, p) ∧ (∀ k, gint h (A c p) k = K.1 c p k) ∧ (∀ k, gref h (A c p) k = aM A (K.2 c p k)) ∧ ∀ k, clo T (K.2 c p k)
theorem nbq {a b : Nat} : Nat.beq a b = true ↔ a = b := ⟨Nat.eq_of_beq_eq_true, fun e => by rw [e]; exact Nat.beq_refl b⟩
theorem nbq_ne {a b : Nat} (h : ¬ a = b) : Nat.beq a b = false := by
  cases e : Nat.beq a b with
  | false => rfl
  | true => exact absurd (nbq.mp e) h
theorem KS.i_1 (K : KS) (c p k : Nat) (x : Int32) (c' p' k' : Nat) : (K.i c p k x).1 c' p' k' = if c' = c ∧ p' = p ∧ k' = k then x else K.1 c' p' k' := by
  show (bif Nat.beq c' c && (Nat.beq k' k && Nat.beq p' p) then x else K.1 c' p' k') = _
  by_cases h1 : c' = c
  · by_cases h2 : p' = p
    · by_cases h3 : k' = k
      · rw [if_pos ⟨h1, h2, h3⟩, nbq.mpr h1, nbq.mpr h2, nbq.mpr h3]; rfl
      · rw [if_neg (fun q => h3 q.2.2), nbq_ne h3]; simp
    · rw [if_neg (fun q => h2 q.2.1), nbq_ne h2]; simp
  · rw [if_neg (fun q => h1 q.1), nbq_ne h1]; simp
theorem KS.r_2 (K : KS) (c p k : Nat) (x : Option (Nat × Nat)) (c' p' k' : Nat) : (K.r c p k x).2 c' p' k' = if c' = c ∧ p' = p ∧ k' = k then x else K.2 c' p' k' := by
  show (bif Nat.beq c' c && (Nat.beq k' k && Nat.beq p' p) then x else K.2 c' p' k') = _
  by_cases h1 : c' = c
  · by_cases h2 : p' = p
    · by_cases h3 : k' = k
      · rw [if_pos ⟨h1, h2, h3⟩, nbq.mpr h1, nbq.mpr h2, nbq.mpr h3]; rfl
      · rw [if_neg (fun q => h3 q.2.2), nbq_ne h3]; simp
    · rw [if_neg (fun q => h2 q.2.1), nbq_ne h2]; simp
  · rw [if_neg (fun q => h1 q.1), nbq_ne h1]; simp
section HR
variable {h : gHp} {A : Nat → Nat → Nat} {ρ : Nat → Nat × Nat} {T : Nat → Nat → Option (Nat × Nat)} {K : KS} {c p c' p' : Nat} {t t' : Nat × Nat}
theorem Hrep.tag (H : Hrep h A ρ T K) (ht : T c p = some t) : gtag h (A c p) = some t := (H c p t ht).1
theorem Hrep.int (H : Hrep h A ρ T K) (ht : T c p = some t) (k : Nat) : gint h (A c p) k = K.1 c p k := (H c p t ht).2.2.1 k
theorem Hrep.ref (H : Hrep h A ρ T K) (ht : T c p = some t) (k : Nat) : gref h (A c p) k = aM A (K.2 c p k) := (H c p t ht).2.2.2.1 k
theorem Hrep.ne (H : Hrep h A ρ T K) (ht : T c p = some t) (ht' : T c' p' = some t') (hne : ¬ (c = c' ∧ p = p')) : A c p ≠ A c' p' := by
  intro e
  have h1 := (H c p t ht).2.1
  have h2 := (H c' p' t' ht').2.1
  rw [e, h2] at h1
  exact hne ⟨(congrArg Prod.fst h1).symm, (congrArg Prod.snd h1).symm⟩
theorem Hrep.inj (H : Hrep h A ρ T K) (ht : T c p = some t) (ht' : T c' p' = some t') : A c p = A c' p' ↔ c = c' ∧ p = p' := by
  refine ⟨fun e => ?_, fun e => by rw [e.1, e.2]⟩
  refine Classical.byContradiction (fun q => H.ne ht ht' q e)
theorem Hrep.i (H : Hrep h A ρ T K) (ht : T c p = some t) (k : Nat) (x : Int32) : Hrep (gsetI h (A c p) k x) A ρ T (K.i c p k x) := by
  intro c1 p1 t1 h1
  refine ⟨(H c1 p1 t1 h1).1, (H c1 p1 t1 h1).2.1, fun j => ?_, (H c1 p1 t1 h1).2.2.2⟩
  rw [gint_setI, KS.i_1, (H c1 p1 t1 h1).2.2.1 j]
  simp only [H.inj h1 ht, and_assoc]
theorem Hrep.r (H : Hrep h A ρ T K) (ht : T c p = some t) (k : Nat) (o : Option (Nat × Nat)) (ho : clo T o) : Hrep (gsetR h (A c p) k (aM A o)) A ρ T (K.r c p k o) := by
  intro c1 p1 t1 h1
  refine ⟨(H c1 p1 t1 h1).1, (H c1 p1 t1 h1).2.1, fun j => (H c1 p1 t1 h1).2.2.1 j, fun j => ?_, fun j => ?_⟩
  · rw [gref_setR, KS.r_2, (H c1 p1 t1 h1).2.2.2.1 j]
    simp only [H.inj h1 ht, and_assoc]
    split <;> rfl
  · rw [KS.r_2]
    split
    · exact ho
    · exact (H c1 p1 t1 h1).2.2.2.2 j
end HR
/-! ===== kinds of things that there are: all panes up to a, of the kinds kd ===== -/
def cTag (k : Int32) : Nat × Nat := if k = 0 then (4, 11) else if k = 1 then (6, 16) else if k = 2 then (1, 16) else if k = 3 then (5, 12) else (3, 16)
def pnN (a p : Nat) : Bool := Nat.ble 1 p && Nat.ble p a
def wrK (k : Int32) : Bool := decide (k = 1) || decide (k = 2)
def oIf (b : Bool) (t : Nat × Nat) : Option (Nat × Nat) := bif b then some t else none
def cT (L a : Nat) (kd : Nat → Int32) (c p : Nat) : Option (Nat × Nat) := match c with
  | 0 => oIf (Nat.beq p 0) (9, 2)
  | 1 => oIf (Nat.beq p 0) (7, 5)
  | 2 => oIf (Nat.beq p 0) (0, 5)
  | 3 => oIf (Nat.beq p 0) (22, 61)
  | 4 => oIf (Nat.beq p 0) (23, 20)
  | 5 => oIf (Nat.beq p 0) (20, 44)
  | 6 => oIf (Nat.ble (p + 1) 20) (20, 44)
  | 7 => oIf (pnN a p) (cTag (kd p))
  | 8 => oIf (pnN a p && wrK (kd p)) (21, 4)
  | 9 => oIf (pnN a p && wrK (kd p)) (2, 3)
  | 10 => oIf (pnN a p && wrK (kd p)) (20, 40)
  | 11 => oIf (pnN a p && wrK (kd p)) (20, if kd p = 1 then 400 else 1440)
  | 12 => oIf (pnN a p && decide (kd p = 1)) (8, 3)
  | 13 => oIf (pnN a p && decide (kd p = 1)) (20, 441)
  | 14 => oIf (pnN a p && decide (kd p = 1)) (20, 441)
  | 15 => oIf (Nat.beq p 0) (10, 44)
  | 16 => oIf (Nat.ble (p + 1) 44 && gisR (gTy 10 p)) (mTg p, mLn p)
  | 17 => oIf (Nat.beq p 0) (24, L)
  | _ => none
/-! ===== what holds between K and the reference's state S ===== -/
def nz (x : Int32) : Option (Nat × Nat) := if x = 0 then none else some (7, ix x)
def cellv (s st l : Int32) : Int32 := ((l <<< ((11 : Int32) &&& 31)) ||| (st <<< ((7 : Int32) &&& 31))) ||| s
/-- references that never change -/
def RKs (K : KS) (a : Nat) (kd : Nat → Int32) : Prop :=
  K.2 0 0 0 = some (1, 0) ∧ K.2 0 0 1 = some (2, 0) ∧ K.2 1 0 0 = some (3, 0) ∧ K.2 2 0 0 = some (4, 0) ∧ K.2 2 0 1 = some (5, 0) ∧ (∀ i, i < 20 → K.2 4 0 i = some (6, i)) ∧
  (∀ p, pnN a p = true → wrK (kd p) = true → K.2 7 p 11 = some (8, p) ∧ K.2 7 p 12 = some (9, p) ∧ K.2 7 p 13 = some (11, p) ∧ K.2 9 p 0 = some (10, p)) ∧
  (∀ p, pnN a p = true → kd p = 1 → K.2 7 p 15 = some (12, p) ∧ K.2 12 p 0 = some (13, p) ∧ K.2 12 p 1 = some (14, p))
/-- the tree's own -/
def RKt (K : KS) (S : MS) : Prop :=
  K.1 1 0 1 = S.1 2 ∧ K.1 1 0 3 = S.1 0 ∧ K.1 1 0 4 = S.1 1 ∧ K.2 1 0 2 = nz (S.1 3) ∧ (∀ j, j ≤ 60 → K.2 3 0 j = if S.2 4 j = 0 then none else some (7, j))
/-- numbers of the panes -/
def RKp (K : KS) (S : MS) (a : Nat) : Prop :=
  ∀ p, pnN a p = true → K.1 7 p 0 = nI p ∧ K.1 7 p 1 = S.2 5 p ∧ K.1 7 p 3 = S.2 12 p ∧ K.1 7 p 4 = S.2 13 p ∧ K.1 7 p 5 = S.2 14 p ∧ K.1 7 p 6 = S.2 15 p ∧ K.1 7 p 7 = S.2 16 p ∧ K.1 7 p 8 = S.2 17 p ∧ K.1 7 p 9 = S.2 18 p ∧ K.1 7 p 10 = (if S.2 19 p = 0 then 1 else 0)
/-- numbers of the panes by kind -/
def RKk (K : KS) (S : MS) (a : Nat) : Prop :=
  ∀ p, pnN a p = true → (S.2 5 p = 4 → K.1 7 p 11 = S.2 9 p ∧ K.1 7 p 12 = S.2 10 p) ∧ (S.2 5 p = 3 → K.1 7 p 11 = S.2 20 p) ∧ (S.2 5 p = 2 → K.1 7 p 14 = S.2 34 p ∧ K.1 7 p 15 = S.2 35 p) ∧ (S.2 5 p = 1 → K.1 7 p 14 = S.2 25 p)
/-- asks -/
def RKa (K : KS) (S : MS) (a : Nat) : Prop :=
  ∀ p, pnN a p = true → wrK (S.2 5 p) = true → ∀ k, k < 4 → K.1 8 p k = S.2 21 (4 * p + k)
/-- the lines of the panes in ly -/
def RKl (K : KS) (S : MS) (a : Nat) (ly : Nat → Bool) : Prop :=
  ∀ p, pnN a p = true → wrK (S.2 5 p) = true → K.1 9 p 2 = (bif ly p then S.2 23 p else 0) ∧ (ly p = true → K.1 9 p 1 = S.2 22 p ∧ ∀ k, k < ix (S.2 23 p) → K.1 10 p k = cellv (S.2 24 (40 * p + k)) 8 0)
/-- texts and grids -/
def RKx (K : KS) (S : MS) (a : Nat) : Prop :=
  ∀ p, pnN a p = true → S.2 5 p = 1 → ∀ k, k < ix (S.2 25 p) → K.1 11 p k = cellv (S.2 26 (400 * p + k)) (S.2 27 (400 * p + k)) (S.2 28 (400 * p + k))
def RKg (K : KS) (S : MS) (a : Nat) : Prop :=
  ∀ p, pnN a p = true → S.2 5 p = 2 → ∀ k, k < 1440 → K.1 11 p k = cellv (S.2 29 (1440 * p + k)) (S.2 30 (1440 * p + k)) (S.2 31 (1440 * p + k))
/-- events; e is the oldest one's row -/
def RKe (K : KS) (S : MS) (e : Nat) : Prop :=
  K.1 2 0 4 = S.1 41 ∧ K.1 2 0 2 = S.1 42 ∧ K.1 2 0 3 = nI e ∧ e < 20 ∧ (∀ i k, i < ix (S.1 41) → k < 44 → K.1 6 ((e + i) % 20) k = S.2 43 (44 * i + k)) ∧ (∀ k, k < 44 → K.1 5 0 k = S.2 43 (880 + k))
/-- references of the open panes -/
def RKr (K : KS) (S : MS) (a : Nat) : Prop :=
  ∀ p, pnN a p = true → ¬ S.2 4 p = 0 → K.2 7 p 2 = nz (S.2 6 p) ∧ (S.2 5 p = 4 → K.2 7 p 13 = nz (S.2 11 p) ∧ K.2 7 p 14 = nz (S.2 7 p) ∧ K.2 7 p 15 = nz (S.2 8 p))
def RK (K : KS) (S : MS) (a e : Nat) (ly : Nat → Bool) : Prop :=
  RKs K a (S.2 5) ∧ RKt K S ∧ RKp K S a ∧ RKk K S a ∧ RKa K S a ∧ RKl K S a ly ∧ RKx K S a ∧ RKg K S a ∧ RKe K S e ∧ RKr K S a
/-- the reference's own -/
def RKm (K : KS) (S : MS) : Prop :=
  (∀ k, gisR (gTy 10 k) = false → K.1 15 0 k = S.1 k) ∧ (∀ k, k < 44 → gisR (gTy 10 k) = true → K.2 15 0 k = some (16, k) ∧ ∀ j, K.1 16 k j = S.2 k j)
def KEEP (K K' : KS) : Prop := K'.1 15 = K.1 15 ∧ K'.1 16 = K.1 16 ∧ K'.1 17 = K.1 17 ∧ K'.2 15 = K.2 15
/-! ===== the reference's state as it can be ===== -/
abbrev bd (x : Int32) (n : Nat) : Prop := 0 ≤ x.toInt ∧ x.toInt ≤ (n : Int)
abbrev sgn (x : Int32) : Prop := 32 ≤ x.toInt ∧ x.toInt ≤ 126
/-- which panes there are -/
def WFa (S : MS) (a : Nat) : Prop :=
  a ≤ 60 ∧ S.1 2 = nI a ∧ S.2 4 0 = 0 ∧ (∀ p, p ≤ 60 → S.2 4 p = 0 ∨ S.2 4 p = 1) ∧ (∀ p, p ≤ 60 → ¬ S.2 4 p = 0 → p ≤ a) ∧ (∀ p, pnN a p = true → S.2 5 p = 0 ∨ S.2 5 p = 1 ∨ S.2 5 p = 2 ∨ S.2 5 p = 3 ∨ S.2 5 p = 4)
/-- ranges -/
def WFn (S : MS) (j : Nat) : Prop :=
  (∀ p, p ≤ 60 → bd (S.2 16 p) 10 ∧ bd (S.2 17 p) 999 ∧ bd (S.2 34 p) 99 ∧ bd (S.2 35 p) (99 + j) ∧ bd (S.2 25 p) 400 ∧ bd (S.2 23 p) 40 ∧ bd (S.2 22 p) 40 ∧ (S.2 23 p).toInt ≤ (S.2 22 p).toInt ∧ bd (S.2 20 p) 999) ∧
  (∀ p, p ≤ 60 → (S.2 19 p = 0 ∨ S.2 19 p = 1) ∧ bd (S.2 11 p) 60) ∧ bd (S.1 41) 20 ∧ (S.1 42 = 0 ∨ S.1 42 = 1)
/-- signs that stand somewhere -/
def WFc (S : MS) (a : Nat) : Prop :=
  (∀ p k, p ≤ 60 → k < ix (S.2 25 p) → (S.2 26 (400 * p + k) = 10 ∨ sgn (S.2 26 (400 * p + k))) ∧ bd (S.2 27 (400 * p + k)) 10 ∧ bd (S.2 28 (400 * p + k)) 999) ∧
  (∀ p k, p ≤ 60 → k < ix (S.2 23 p) → sgn (S.2 24 (40 * p + k))) ∧
  (∀ p k, pnN a p = true → S.2 5 p = 2 → k < 1440 → sgn (S.2 29 (1440 * p + k)) ∧ bd (S.2 30 (1440 * p + k)) 10 ∧ bd (S.2 31 (1440 * p + k)) 999)
/-- asks -/
def WFq (S : MS) (a : Nat) : Prop :=
  (∀ i, i < 244 → S.2 21 i = 0 ∨ S.2 21 i = 1) ∧ (∀ p, pnN a p = true → wrK (S.2 5 p) = false → ∀ k, k < 4 → S.2 21 (4 * p + k) = 0)
/-- numbers that no pane has yet -/
def frs : List Nat := [5, 6, 7, 8, 9, 10, 11, 12, 13, 14, 15, 16, 17, 18, 19, 20, 22, 23, 25, 32, 33, 34, 35]
def WFz (S : MS) (a : Nat) : Prop :=
  ∀ p, a < p → p ≤ 60 → (∀ k ∈ frs, S.2 k p = 0) ∧ ∀ k, k < 4 → S.2 21 (4 * p + k) = 0
/-- the pairs -/
def WFk (S : MS) (a : Nat) : Prop :=
  ∀ p, p ≤ 60 → ¬ S.2 4 p = 0 → S.2 5 p = 4 → bd (S.2 9 p) 15 ∧ bd (S.2 10 p) 999 ∧ (¬ S.2 9 p &&& 4 = 0 → bd (S.2 10 p) 100) ∧ (S.2 11 p = 0 ∨ ∃ q, S.2 11 p = nI q ∧ pnN a q = true ∧ ¬ S.2 4 q = 0 ∧ ¬ S.2 5 q = 4)
/-- a tree of depth at most d under up, with the panes l -/
def TP (op kd ab fi se : Nat → Int32) : Nat → Nat → Nat → List Nat → Prop
  | 0, _, _, _ => False
  | d + 1, up, p, l => 1 ≤ p ∧ p ≤ 60 ∧ ¬ op p = 0 ∧ ab p = nI up ∧ ((¬ kd p = 4 ∧ l = [p]) ∨ (kd p = 4 ∧ ∃ f s ll lr, fi p = nI f ∧ se p = nI s ∧ l = p :: (ll ++ lr) ∧ TP op kd ab fi se d p f ll ∧ TP op kd ab fi se d p s lr))
def lvs (kd : Nat → Int32) (l : List Nat) : Nat := l.countP (fun p => !decide (kd p = 4))
def WFt (S : MS) : Prop :=
  (S.1 3 = 0 ∧ ∀ p, p ≤ 60 → S.2 4 p = 0) ∨ ∃ d r l, S.1 3 = nI r ∧ TP (S.2 4) (S.2 5) (S.2 6) (S.2 7) (S.2 8) d 0 r l ∧ l.Nodup ∧ lvs (S.2 5) l ≤ 12 ∧ ∀ p, p ≤ 60 → (¬ S.2 4 p = 0 ↔ p ∈ l)
/-- places: x y lies in the pane -/
def inR (S : MS) (p : Nat) (x y : Int) : Prop := (S.2 12 p).toInt ≤ x ∧ x < (S.2 12 p).toInt + (S.2 14 p).toInt ∧ (S.2 13 p).toInt ≤ y ∧ y < (S.2 13 p).toInt + (S.2 15 p).toInt
def WFr (S : MS) : Prop :=
  (4 ≤ (S.1 0).toInt ∧ (S.1 0).toInt ≤ 60 ∧ 2 ≤ (S.1 1).toInt ∧ (S.1 1).toInt ≤ 24) ∧
  (∀ p, p ≤ 60 → 0 ≤ (S.2 12 p).toInt ∧ 0 ≤ (S.2 13 p).toInt ∧ 0 ≤ (S.2 14 p).toInt ∧ 0 ≤ (S.2 15 p).toInt ∧ (S.2 12 p).toInt + (S.2 14 p).toInt ≤ 60 ∧ (S.2 13 p).toInt + (S.2 15 p).toInt ≤ 24) ∧
  (¬ S.1 3 = 0 → S.2 12 (ix (S.1 3)) = 0 ∧ S.2 13 (ix (S.1 3)) = 0 ∧ S.2 14 (ix (S.1 3)) = S.1 0 ∧ S.2 15 (ix (S.1 3)) = S.1 1) ∧
  (∀ p, p ≤ 60 → ¬ S.2 4 p = 0 → S.2 5 p = 4 → ∀ x y, (inR S (ix (S.2 7 p)) x y → inR S p x y) ∧ (inR S (ix (S.2 8 p)) x y → inR S p x y) ∧ ¬ (inR S (ix (S.2 7 p)) x y ∧ inR S (ix (S.2 8 p)) x y))
/-- open grids fit, and are blank outside -/
def WFg (S : MS) : Prop :=
  ∀ p, p ≤ 60 → ¬ S.2 4 p = 0 → S.2 5 p = 2 → S.2 32 p = S.2 14 p ∧ S.2 33 p = S.2 15 p ∧ ∀ cx cy : Nat, cx < 60 → cy < 24 → ((S.2 14 p).toInt ≤ (cx : Int) ∨ (S.2 15 p).toInt ≤ (cy : Int)) → S.2 29 (1440 * p + (60 * cy + cx)) = 32 ∧ S.2 30 (1440 * p + (60 * cy + cx)) = 0 ∧ S.2 31 (1440 * p + (60 * cy + cx)) = 0
def WF (S : MS) (a j : Nat) : Prop :=
  WFa S a ∧ WFn S j ∧ WFc S a ∧ WFq S a ∧ WFz S a ∧ WFk S a ∧ WFt S ∧ WFr S ∧ WFg S
/-- all together, before the call j -/
def Cpl (h : gHp) (A : Nat → Nat → Nat) (ρ : Nat → Nat × Nat) (L : Nat) (K : KS) (S : MS) (a e : Nat) (ly : Nat → Bool) (j : Nat) : Prop :=
  Hrep h A ρ (cT L a (S.2 5)) K ∧ RKm K S ∧ RK K S a e ly ∧ WF S a j ∧ (∀ p, pnN a p = true → (ly p = true ↔ ¬ S.2 21 (4 * p + 1) = 0))
def Iv (b L ax am j : Nat) (h : gHp) : Prop := ∃ A ρ K S a e ly, A 17 0 = b ∧ A 0 0 = ax ∧ A 15 0 = am ∧ Cpl h A ρ L K S a e ly j
theorem cT_isR {k : Nat} (hk : k < 44) (hr : gisR (gTy 10 k) = true) (L a : Nat) (kd : Nat → Int32) : cT L a kd 16 k = some (mTg k, mLn k) := by
  show oIf (Nat.ble (k + 1) 44 && gisR (gTy 10 k)) (mTg k, mLn k) = _
  rw [hr, Nat.ble_eq_true_of_le (show k + 1 ≤ 44 by omega)]
  rfl
section MRK
variable {h h' : gHp} {A : Nat → Nat → Nat} {ρ : Nat → Nat × Nat} {L a : Nat} {kd : Nat → Int32} {K : KS} {S : MS}
theorem toMR (H : Hrep h A ρ (cT L a kd) K) (hm : RKm K S) : MR h h (A 15 0) (A 16) S := by
  have t0 : cT L a kd 15 0 = some (10, 44) := rfl
  refine ⟨H.tag t0, fun k hk => ?_, fun k hk hr => ?_, fun k k' hk hk' hr hr' e => ?_, fun _ => rfl, fun _ _ _ _ => rfl, fun _ _ => rfl⟩
  · rw [H.int t0, hm.1 k hk]
  · have t1 := cT_isR hk hr L a kd
    refine ⟨?_, H.tag t1, fun j => ?_⟩
    · rw [H.ref t0, (hm.2 k hk hr).1]
      rfl
    · rw [H.int t1, (hm.2 k hk hr).2 j]
  · exact ((H.inj (cT_isR hk hr L a kd) (cT_isR hk' hr' L a kd)).mp e).2
def KSm (K : KS) (h' : gHp) (A : Nat → Nat → Nat) : KS := (fun c p k => match c with
  | 15 => gint h' (A 15 p) k
  | 16 => gint h' (A 16 p) k
  | _ => K.1 c p k, K.2)
theorem KSm_1 (c p k : Nat) (h1 : ¬ c = 15) (h2 : ¬ c = 16) : (KSm K h' A).1 c p k = K.1 c p k := by
  show (match c with
  | 15 => gint h' (A 15 p) k
  | 16 => gint h' (A 16 p) k
  | _ => K.1 c p k) = _
  split
  · exact absurd rfl h1
  · exact absurd rfl h2
  · rfl
theorem ofMR (H : Hrep h A ρ (cT L a kd) K) (hM : MR h h' (A 15 0) (A 16) S) (hr0 : ∀ k, k < 44 → gisR (gTy 10 k) = true → K.2 15 0 k = some (16, k)) : Hrep h' A ρ (cT L a kd) (KSm K h' A) ∧ RKm (KSm K h' A) S := by
  have t0 : cT L a kd 15 0 = some (10, 44) := rfl
  obtain ⟨m1, m2, m3, m4, m5, m6, m7⟩ := hM
  refine ⟨fun c p t ht => ⟨by rw [m5]; exact H.tag ht, (H c p t ht).2.1, fun k => ?_, fun k => by rw [m7]; exact H.ref ht k, (H c p t ht).2.2.2.2⟩, fun k hk => m2 k hk, fun k hk hr => ⟨hr0 k hk hr, fun j => (m3 k hk hr).2.2 j⟩⟩
  by_cases c1 : c = 15
  · subst c1; rfl
  · by_cases c2 : c = 16
    · subst c2; rfl
    · rw [KSm_1 c p k c1 c2, m6, H.int ht]
      · exact H.ne ht t0 (fun q => c1 q.1)
      · exact fun k hk hr => H.ne ht (cT_isR hk hr L a kd) (fun q => c2 q.1)
end MRK
theorem RK.m {K : KS} {h' : gHp} {A : Nat → Nat → Nat} {S : MS} {a e : Nat} {ly : Nat → Bool} (H : RK K S a e ly) : RK (KSm K h' A) S a e ly := H
/-- one call: what the class does keeps the reference's things, and what the reference does then leads to what holds again -/
theorem PO_use {n b L ax am j : Nat} {h : gHp} {A : Nat → Nat → Nat} {ρ : Nat → Nat × Nat} {K K' : KS} {S S' : MS} {a e' : Nat} {ly' : Nat → Bool} {h1 : gHp} (e1 : A 17 0 = b) (e2 : A 0 0 = ax) (e3 : A 15 0 = am) (H : Hrep h A ρ (cT L a (S.2 5)) K) (hm : RKm K S) (H1 : Hrep h1 A ρ (cT L a (S.2 5)) K') (hk : KEEP K K') (h5 : S'.2 5 = S.2 5) (hR : RK K' S' a e' ly') (hW : WF S' a (j + 1)) (hl : ∀ p, pnN a p = true → (ly' p = true ↔ ¬ S'.2 21 (4 * p + 1) = 0)) : gtag h1 b = some (24, L) ∧ (∀ i, gint h1 b i = gint h b i) ∧ MR h1 h1 am (A 16) S ∧ ∀ h', MR h1 h' am (A 16) S' → Iv b L ax am (j + 1) h' := by
  subst e1 e2 e3
  have t17 : cT L a (S.2 5) 17 0 = some (24, L) := rfl
  have hm' : RKm K' S := ⟨fun k hk1 => by rw [hk.1]; exact hm.1 k hk1, fun k hk1 hr => ⟨by rw [hk.2.2.2]; exact (hm.2 k hk1 hr).1, fun i => by rw [hk.2.1]; exact (hm.2 k hk1 hr).2 i⟩⟩
  refine ⟨H1.tag t17, fun i => by rw [H1.int t17, H.int t17, hk.2.2.1], toMR H1 hm', fun h' hM => ?_⟩
  have q := ofMR H1 hM (fun k hk1 hr => (hm'.2 k hk1 hr).1)
  rw [← h5] at q
  exact ⟨A, ρ, KSm K' h' A, S', a, e', ly', rfl, rfl, rfl, q.1, q.2, hR.m, hW, hl⟩
