/-! ===== what holds between the class's objects and the reference's state =====
A c p: where things stand: 0 the object, 1 tree, 2 events, 3 panes, 4 ring, 5 taken, 6 ring's row p, 7 pane p, 8 its asked, 9 its line, 10 the line's cells, 11 its cells, 12 its wrap, 13 begins, 14 ends, 15 the reference, 16 its rows, 17 the script; ρ tells them apart -/
def mAll (S : MS) : Nat := ix (S.1 2)
def wrN (S : MS) (p : Nat) : Bool := decide (S.2 5 p = 1) || decide (S.2 5 p = 2)
def vB (S : MS) (c p : Nat) : Bool := match c with
  | 0 => Nat.beq p 0
  | 1 => Nat.beq p 0
  | 2 => Nat.beq p 0
  | 3 => Nat.beq p 0
  | 4 => Nat.beq p 0
  | 5 => Nat.beq p 0
  | 6 => decide (p < 20)
  | 7 => decide (1 ≤ p) && decide (p ≤ mAll S)
  | 8 => decide (1 ≤ p) && decide (p ≤ mAll S) && wrN S p
  | 9 => decide (1 ≤ p) && decide (p ≤ mAll S) && wrN S p
  | 10 => decide (1 ≤ p) && decide (p ≤ mAll S) && wrN S p
  | 11 => decide (1 ≤ p) && decide (p ≤ mAll S) && wrN S p
  | 12 => decide (1 ≤ p) && decide (p ≤ mAll S) && decide (S.2 5 p = 1)
  | 13 => decide (1 ≤ p) && decide (p ≤ mAll S) && decide (S.2 5 p = 1)
  | 14 => decide (1 ≤ p) && decide (p ≤ mAll S) && decide (S.2 5 p = 1)
  | 15 => Nat.beq p 0
  | 16 => decide (p < 44) && gisR (gTy 10 p)
  | 17 => Nat.beq p 0
  | _ => false
def cTag (k : Int32) : Nat × Nat := if k = 0 then (4, 11) else if k = 1 then (6, 16) else if k = 2 then (1, 16) else if k = 3 then (5, 12) else (3, 16)
def nzA (A : Nat → Nat → Nat) (x : Int32) : Option Nat := if x = 0 then none else some (A 7 (ix x))
/-- what never changes while the panes stand: places, kinds, the references that are final -/
def XSt (h : gHp) (S : MS) (A : Nat → Nat → Nat) (ρ : Nat → Nat × Nat) (L : Nat) : Prop :=
  (∀ c p, vB S c p = true → ρ (A c p) = (c, p)) ∧
  (gtag h (A 0 0) = some (9, 2) ∧ gtag h (A 1 0) = some (7, 5) ∧ gtag h (A 2 0) = some (0, 5) ∧ gtag h (A 3 0) = some (22, 61) ∧ gtag h (A 4 0) = some (23, 20) ∧ gtag h (A 5 0) = some (20, 44) ∧ gtag h (A 17 0) = some (24, L)) ∧
  (gref h (A 0 0) 0 = some (A 1 0) ∧ gref h (A 0 0) 1 = some (A 2 0) ∧ gref h (A 1 0) 0 = some (A 3 0) ∧ gref h (A 2 0) 0 = some (A 4 0) ∧ gref h (A 2 0) 1 = some (A 5 0)) ∧
  (∀ i, i < 20 → gref h (A 4 0) i = some (A 6 i) ∧ gtag h (A 6 i) = some (20, 44)) ∧
  (∀ p, 1 ≤ p → p ≤ mAll S → gtag h (A 7 p) = some (cTag (S.2 5 p)) ∧ gint h (A 7 p) 0 = nI p ∧ gint h (A 7 p) 1 = S.2 5 p) ∧
  (∀ p, 1 ≤ p → p ≤ mAll S → wrN S p = true → gref h (A 7 p) 11 = some (A 8 p) ∧ gref h (A 7 p) 12 = some (A 9 p) ∧ gref h (A 7 p) 13 = some (A 11 p) ∧ gtag h (A 8 p) = some (21, 4) ∧ gtag h (A 9 p) = some (2, 3) ∧ gref h (A 9 p) 0 = some (A 10 p) ∧ gtag h (A 10 p) = some (20, 40) ∧ gtag h (A 11 p) = some (20, if S.2 5 p = 1 then 400 else 1440)) ∧
  (∀ p, 1 ≤ p → p ≤ mAll S → S.2 5 p = 1 → gref h (A 7 p) 15 = some (A 12 p) ∧ gtag h (A 12 p) = some (8, 3) ∧ gref h (A 12 p) 0 = some (A 13 p) ∧ gref h (A 12 p) 1 = some (A 14 p) ∧ gtag h (A 13 p) = some (20, 441) ∧ gtag h (A 14 p) = some (20, 441))
/-- an open pane's own numbers: field of the class's object, row of the reference -/
def pFld : List (Nat × Nat) := [(3, 12), (4, 13), (5, 14), (6, 15), (7, 16), (8, 17), (9, 18)]
def opN (S : MS) (p : Nat) : Prop := 1 ≤ p ∧ p ≤ 60 ∧ ¬ S.2 4 p = 0
/-- tree and panes -/
def XPn (h : gHp) (S : MS) (A : Nat → Nat → Nat) : Prop :=
  (gint h (A 1 0) 1 = S.1 2 ∧ gint h (A 1 0) 3 = S.1 0 ∧ gint h (A 1 0) 4 = S.1 1 ∧ gref h (A 1 0) 2 = nzA A (S.1 3)) ∧
  (∀ j, 1 ≤ j → j ≤ 60 → gref h (A 3 0) j = if S.2 4 j = 0 then none else some (A 7 j)) ∧
  (∀ p, opN S p → (∀ q ∈ pFld, gint h (A 7 p) q.1 = S.2 q.2 p) ∧ gint h (A 7 p) 10 = (if S.2 19 p = 0 then 1 else 0) ∧ gref h (A 7 p) 2 = nzA A (S.2 6 p)) ∧
  (∀ p, opN S p → S.2 5 p = 4 → gint h (A 7 p) 11 = S.2 9 p ∧ gint h (A 7 p) 12 = S.2 10 p ∧ gref h (A 7 p) 13 = nzA A (S.2 11 p) ∧ gref h (A 7 p) 14 = nzA A (S.2 7 p) ∧ gref h (A 7 p) 15 = nzA A (S.2 8 p)) ∧
  (∀ p, opN S p → S.2 5 p = 3 → gint h (A 7 p) 11 = S.2 20 p) ∧
  (∀ p, opN S p → S.2 5 p = 2 → gint h (A 7 p) 14 = S.2 34 p ∧ gint h (A 7 p) 15 = S.2 35 p)
/-- the reference's state as it can be: what is open is there, kinds are kinds -/
def XWf (S : MS) : Prop :=
  mAll S ≤ 60 ∧ S.1 2 = nI (mAll S) ∧ (∀ p, opN S p → p ≤ mAll S) ∧ (∀ p, 1 ≤ p → p ≤ mAll S → S.2 5 p = 0 ∨ S.2 5 p = 1 ∨ S.2 5 p = 2 ∨ S.2 5 p = 3 ∨ S.2 5 p = 4)
theorem XSt.ne {h : gHp} {S : MS} {A : Nat → Nat → Nat} {ρ : Nat → Nat × Nat} {L : Nat} (hX : XSt h S A ρ L) {c p c' p' : Nat} (h1 : vB S c p = true) (h2 : vB S c' p' = true) (hne : (c, p) ≠ (c', p')) : A c p ≠ A c' p' := fun e => hne (by rw [← hX.1 c p h1, ← hX.1 c' p' h2, e])
/-- find -/
theorem e_find {h : gHp} {S : MS} {A : Nat → Nat → Nat} {ρ : Nat → Nat × Nat} {L : Nat} (hX : XSt h S A ρ L) (hP : XPn h S A) (n : Nat) (p : Int32) : f_Tree_find n h (A 1 0) p = some (if opB S p = true then some (A 7 (ix p)) else none, h) := by
  obtain ⟨-, ⟨-, t1, -, t3, -⟩, ⟨-, -, r1, -⟩, -⟩ := hX
  unfold f_Tree_find
  by_cases c1 : p < 1
  · rw [if_pos c1]
    have h1 := i32_lt.mp c1
    have h2 : pnB p = false := by
      simp only [pnB]
      rw [show decide (1 ≤ p.toInt) = false from decide_eq_false (by have : (1 : Int32).toInt = 1 := by decide
                                                                     omega)]
      rfl
    simp [opB, h2]
  · rw [if_neg c1]
    have h1 : 1 ≤ p.toInt := by
      have h9 : ¬ p.toInt < (1 : Int32).toInt := fun q => c1 (i32_lt.mpr q)
      have : (1 : Int32).toInt = 1 := by decide
      omega
    have e1 : gtin (gtag h (A 1 0)) [7] = true := by rw [t1]; rfl
    rw [e1, r1, t3]
    simp only [cond_true, Option.bind_some]
    by_cases c2 : Int32.ofNat 61 ≤ p
    · have h3 := i32_le.mp c2
      have h4 : (Int32.ofNat 61).toInt = 61 := by decide
      have h2 : pnB p = false := by
        simp only [pnB]
        rw [show decide (p.toInt ≤ 60) = false from decide_eq_false (by omega)]
        simp
      simp [c2, opB, h2]
    · have h3 : ¬ (Int32.ofNat 61).toInt ≤ p.toInt := fun q => c2 (i32_le.mpr q)
      have h4 : (Int32.ofNat 61).toInt = 61 := by decide
      have h2 : pnB p = true := by
        simp only [pnB, Bool.and_eq_true, decide_eq_true_eq]
        omega
      have h5 := pnB_in h2
      have h6 := pnB_ix h2
      have h7 := hP.2.1 (ix p) h6.1 h6.2
      simp only [show (Nat.ble 20 22 && Nat.ble 22 24) = true from rfl, cond_true]
      rw [if_neg c2]
      simp only [gArr, show Nat.beq 22 22 = true from rfl, h5, Bool.true_and, Bool.true_or, cond_true, h7]
      by_cases c3 : S.2 4 (ix p) = 0
      · simp [opB, h2, c3]
      · simp [opB, h2, c3]
