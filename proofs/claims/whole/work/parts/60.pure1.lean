/-! ===== the pure part: the reference's small functions, closed ===== -/
theorem i32_le {a b : Int32} : a ≤ b ↔ a.toInt ≤ b.toInt := Int32.le_iff_toInt_le
theorem i32_lt {a b : Int32} : a < b ↔ a.toInt < b.toInt := Int32.lt_iff_toInt_lt
theorem i32_ix {p : Int32} (h : 0 ≤ p.toInt) : ((ix p : Nat) : Int) = p.toInt := by
  show ((p.toInt.toNat : Nat) : Int) = p.toInt
  omega
/-- a number of a pane that there can be -/
def pnB (p : Int32) : Bool := decide (1 ≤ p.toInt) && decide (p.toInt ≤ 60)
theorem pnB_in {p : Int32} (h : pnB p = true) : inB p 61 = true := by
  simp only [pnB, inB, Bool.and_eq_true, decide_eq_true_eq] at h ⊢
  omega
theorem pnB_ix {p : Int32} (h : pnB p = true) : 1 ≤ ix p ∧ ix p ≤ 60 := by
  simp only [pnB, Bool.and_eq_true, decide_eq_true_eq] at h
  have := i32_ix (p := p) (by omega)
  omega
/-- the pane is open -/
def opB (S : MS) (p : Int32) : Bool := pnB p && !decide (S.2 4 (ix p) = 0)
def b32 (b : Bool) : Int32 := bif b then 1 else 0
theorem b32_0 {b : Bool} : b32 b = 0 ↔ b = false := by
  cases b <;> simp [b32]
def rgB (v lo hh : Int32) : Bool := decide (lo.toInt ≤ v.toInt) && decide (v.toInt ≤ hh.toInt)
theorem e_in (n : Nat) (S : MS) (v lo hh : Int32) : f_M_in n S v lo hh = some (b32 (rgB v lo hh), S) := by
  unfold f_M_in rgB
  by_cases c1 : v < lo
  · rw [if_pos c1]
    have h1 := i32_lt.mp c1
    simp [b32, show ¬ lo.toInt ≤ v.toInt by omega]
  · rw [if_neg c1]
    have h1 : ¬ v.toInt < lo.toInt := fun q => c1 (i32_lt.mpr q)
    by_cases c2 : hh < v
    · rw [if_pos c2]
      have h2 := i32_lt.mp c2
      simp [b32, show ¬ v.toInt ≤ hh.toInt by omega]
    · rw [if_neg c2]
      have h2 : ¬ hh.toInt < v.toInt := fun q => c2 (i32_lt.mpr q)
      simp [b32, show lo.toInt ≤ v.toInt by omega, show v.toInt ≤ hh.toInt by omega]
theorem rg_pn (p : Int32) : rgB p 1 60 = pnB p := rfl
theorem e_isPane (n : Nat) (S : MS) (p : Int32) : f_M_isPane n S p = some (b32 (opB S p), S) := by
  unfold f_M_isPane opB
  rw [e_in, Option.bind_some, rg_pn]
  cases h : pnB p with
  | false => simp [b32]
  | true =>
    rw [if_neg (by simp [b32]), pnB_in h]
    by_cases c : S.2 4 (ix p) = 0
    · simp [c, b32]
    · simp [c, b32]
def wrB (S : MS) (p : Int32) : Bool := decide (S.2 5 (ix p) = 1) || decide (S.2 5 (ix p) = 2)
theorem e_isWritable (n : Nat) (S : MS) (p : Int32) (hp : inB p 61 = true) : f_M_isWritable n S p = some (b32 (wrB S p), S) := by
  unfold f_M_isWritable wrB
  rw [hp]
  by_cases c1 : S.2 5 (ix p) = 1
  · simp [c1, b32]
  · by_cases c2 : S.2 5 (ix p) = 2
    · simp [c2, b32]
    · simp [c1, c2, b32]
theorem e_nearest (n : Nat) (S : MS) (v lo hh : Int32) : f_M_nearest n S v lo hh = some (if v < lo then lo else if hh < v then hh else v, S) := by
  unfold f_M_nearest
  by_cases c1 : v < lo
  · rw [if_neg (by rw [i32_le]; have := i32_lt.mp c1; omega), if_pos c1]
  · rw [if_pos (by rw [i32_le]; have h : ¬ v.toInt < lo.toInt := fun q => c1 (i32_lt.mpr q); omega), if_neg c1]
    by_cases c2 : hh < v
    · rw [if_neg (by rw [i32_le]; have := i32_lt.mp c2; omega), if_pos c2]
    · rw [if_pos (by rw [i32_le]; have h : ¬ hh.toInt < v.toInt := fun q => c2 (i32_lt.mpr q); omega), if_neg c2]
theorem e_root (n : Nat) (S : MS) : f_M_root n S = some (if S.1 3 = 0 then -2 else S.1 3, S) := by
  unfold f_M_root
  by_cases c : S.1 3 = 0 <;> simp [c]
/-- style and link: a number of the pane's own, within a range -/
theorem e_style (n : Nat) (S : MS) (p v : Int32) : f_M_style n S p v = some (if opB S p = true ∧ rgB v 0 10 = true then (if S.2 5 (ix p) = 4 then (-3, S) else (S.2 16 (ix p), S.a 16 (ix p) v)) else (-1, S)) := by
  unfold f_M_style
  rw [e_isPane, Option.bind_some]
  cases h : opB S p with
  | false => simp [b32]
  | true =>
    have hp : inB p 61 = true := by
      simp only [opB, Bool.and_eq_true] at h
      exact pnB_in h.1
    rw [if_neg (by simp [b32]), e_in, Option.bind_some]
    cases h2 : rgB v 0 10 with
    | false => simp [b32]
    | true =>
      rw [if_neg (by simp [b32]), hp]
      by_cases c : S.2 5 (ix p) = 4 <;> simp [c]
theorem e_link (n : Nat) (S : MS) (p v : Int32) : f_M_link n S p v = some (if opB S p = true ∧ rgB v 0 999 = true then (if S.2 5 (ix p) = 4 then (-3, S) else (S.2 17 (ix p), S.a 17 (ix p) v)) else (-1, S)) := by
  unfold f_M_link
  rw [e_isPane, Option.bind_some]
  cases h : opB S p with
  | false => simp [b32]
  | true =>
    have hp : inB p 61 = true := by
      simp only [opB, Bool.and_eq_true] at h
      exact pnB_in h.1
    rw [if_neg (by simp [b32]), e_in, Option.bind_some]
    cases h2 : rgB v 0 999 with
    | false => simp [b32]
    | true =>
      rw [if_neg (by simp [b32]), hp]
      by_cases c : S.2 5 (ix p) = 4 <;> simp [c]
