/-! ===== new objects ===== -/
def uT (T : Nat → Nat → Option (Nat × Nat)) (c p : Nat) (t : Nat × Nat) : Nat → Nat → Option (Nat × Nat) := fun c' p' => if c' = c ∧ p' = p then some t else T c' p'
def uA (A : Nat → Nat → Nat) (c p x : Nat) : Nat → Nat → Nat := fun c' p' => if c' = c ∧ p' = p then x else A c' p'
def uR (ρ : Nat → Nat × Nat) (x c p : Nat) : Nat → Nat × Nat := fun y => if y = x then (c, p) else ρ y
def KS.z (K : KS) (c p : Nat) : KS := (fun c' p' k => if c' = c ∧ p' = p then 0 else K.1 c' p' k, fun c' p' k => if c' = c ∧ p' = p then none else K.2 c' p' k)
theorem Hrep.new {h : gHp} {A : Nat → Nat → Nat} {ρ : Nat → Nat × Nat} {T : Nat → Nat → Option (Nat × Nat)} {K : KS} {x : Nat} (H : Hrep h A ρ T K) (hx : gtag h x = none) (c p : Nat) (hT : T c p = none) (tg n : Nat) : Hrep (gnew h x tg n) (uA A c p x) (uR ρ x c p) (uT T c p (tg, n)) (K.z c p) := by
  intro c1 p1 t1 h1
  by_cases e : c1 = c ∧ p1 = p
  · obtain ⟨rfl, rfl⟩ := e
    have h1 : (if c1 = c1 ∧ p1 = p1 then some (tg, n) else T c1 p1) = some t1 := h1
    rw [if_pos ⟨rfl, rfl⟩] at h1
    have ex : uA A c1 p1 x c1 p1 = x := if_pos ⟨rfl, rfl⟩
    rw [ex]
    refine ⟨by rw [gtag_new, if_pos rfl, h1], if_pos rfl, fun k => ?_, fun k => ?_, fun k => ?_⟩
    · rw [gint_new, if_pos rfl]
      show 0 = if c1 = c1 ∧ p1 = p1 then 0 else K.1 c1 p1 k
      rw [if_pos ⟨rfl, rfl⟩]
    · rw [gref_new, if_pos rfl]
      show none = aM _ (if c1 = c1 ∧ p1 = p1 then none else K.2 c1 p1 k)
      rw [if_pos ⟨rfl, rfl⟩]; rfl
    · show clo _ (if c1 = c1 ∧ p1 = p1 then none else K.2 c1 p1 k)
      rw [if_pos ⟨rfl, rfl⟩]
      intro q hq; cases hq
  · have h1 : (if c1 = c ∧ p1 = p then some (tg, n) else T c1 p1) = some t1 := h1
    rw [if_neg e] at h1
    have ex : uA A c p x c1 p1 = A c1 p1 := if_neg e
    have ne : ¬ A c1 p1 = x := fun q => by have := H.tag h1; rw [q, hx] at this; cases this
    rw [ex]
    refine ⟨by rw [gtag_new, if_neg ne]; exact H.tag h1, ?_, fun k => ?_, fun k => ?_, fun k => ?_⟩
    · show (if A c1 p1 = x then (c, p) else ρ (A c1 p1)) = _
      rw [if_neg ne]; exact (H c1 p1 t1 h1).2.1
    · rw [gint_new, if_neg ne]
      show _ = if c1 = c ∧ p1 = p then 0 else K.1 c1 p1 k
      rw [if_neg e]; exact H.int h1 k
    · rw [gref_new, if_neg ne]
      show _ = aM _ (if c1 = c ∧ p1 = p then none else K.2 c1 p1 k)
      rw [if_neg e, H.ref h1 k]
      cases hq : K.2 c1 p1 k with
      | none => rfl
      | some q =>
        obtain ⟨t, ht⟩ := (H c1 p1 t1 h1).2.2.2.2 k q hq
        have nq : ¬ (q.1 = c ∧ q.2 = p) := fun e' => by rw [e'.1, e'.2, hT] at ht; cases ht
        show some (A q.1 q.2) = some (uA A c p x q.1 q.2)
        congr 1
        exact (if_neg nq).symm
    · show clo _ (if c1 = c ∧ p1 = p then none else K.2 c1 p1 k)
      rw [if_neg e]
      intro q hq
      obtain ⟨t, ht⟩ := (H c1 p1 t1 h1).2.2.2.2 k q hq
      have nq : ¬ (q.1 = c ∧ q.2 = p) := fun e' => by rw [e'.1, e'.2, hT] at ht; cases ht
      exact ⟨t, by show (if q.1 = c ∧ q.2 = p then some (tg, n) else T q.1 q.2) = some t; rw [if_neg nq]; exact ht⟩
theorem Hrep.congT {h : gHp} {A : Nat → Nat → Nat} {ρ : Nat → Nat × Nat} {T T' : Nat → Nat → Option (Nat × Nat)} {K : KS} (H : Hrep h A ρ T K) (hT : ∀ c p, T' c p = T c p) : Hrep h A ρ T' K := by
  have e : T' = T := funext fun c => funext fun p => hT c p
  rw [e]; exact H
theorem uT_of {T : Nat → Nat → Option (Nat × Nat)} {c p : Nat} {t : Nat × Nat} : uT T c p t c p = some t := if_pos ⟨rfl, rfl⟩
theorem uT_ne {T : Nat → Nat → Option (Nat × Nat)} {c p c' p' : Nat} {t : Nat × Nat} (h : ¬ (c' = c ∧ p' = p)) : uT T c p t c' p' = T c' p' := if_neg h
theorem uA_of {A : Nat → Nat → Nat} {c p x : Nat} : uA A c p x c p = x := if_pos ⟨rfl, rfl⟩
theorem uA_ne {A : Nat → Nat → Nat} {c p x c' p' : Nat} (h : ¬ (c' = c ∧ p' = p)) : uA A c p x c' p' = A c' p' := if_neg h
theorem KS.z_1 (K : KS) (c p c' p' k : Nat) : (K.z c p).1 c' p' k = if c' = c ∧ p' = p then 0 else K.1 c' p' k := rfl
theorem KS.z_2 (K : KS) (c p c' p' k : Nat) : (K.z c p).2 c' p' k = if c' = c ∧ p' = p then none else K.2 c' p' k := rfl
/-- nothing is there yet of the pane a + 1 -/
theorem cT_new {L a : Nat} {kd : Nat → Int32} {c p : Nat} (h1 : 7 ≤ c) (h2 : c ≤ 14) (hp : a < p) : cT L a kd c p = none := by
  have e : pnN a p = false := by
    cases q : pnN a p with
    | false => rfl
    | true => have := (pnN_le q).2; omega
  rcases (by omega : c = 7 ∨ c = 8 ∨ c = 9 ∨ c = 10 ∨ c = 11 ∨ c = 12 ∨ c = 13 ∨ c = 14) with rfl | rfl | rfl | rfl | rfl | rfl | rfl | rfl
  · show oIf (pnN a p) _ = none; rw [e]; rfl
  · show oIf (pnN a p && _) _ = none; rw [e]; rfl
  · show oIf (pnN a p && _) _ = none; rw [e]; rfl
  · show oIf (pnN a p && _) _ = none; rw [e]; rfl
  · show oIf (pnN a p && _) _ = none; rw [e]; rfl
  · show oIf (pnN a p && _) _ = none; rw [e]; rfl
  · show oIf (pnN a p && _) _ = none; rw [e]; rfl
  · show oIf (pnN a p && _) _ = none; rw [e]; rfl
theorem pnN_succ {a p : Nat} : pnN (a + 1) p = (pnN a p || Nat.beq p (a + 1)) := by
  by_cases q : p = a + 1
  · subst q
    rw [pnN_of (by omega) (Nat.le_refl _), nbq.mpr rfl, Bool.or_true]
  · rw [nbq_ne q, Bool.or_false]
    cases e : pnN a p with
    | true => have := pnN_le e; exact pnN_of (by omega) (by omega)
    | false =>
      cases e' : pnN (a + 1) p with
      | false => rfl
      | true =>
        have := pnN_le e'
        rw [pnN_of (by omega) (by omega)] at e
        cases e
/-- what there is of the panes with one more of the kind k -/
theorem cT_succ {L a : Nat} {kd kd' : Nat → Int32} (h1 : ∀ p, p ≤ a → kd' p = kd p) (c p : Nat) : cT L (a + 1) kd' c p = if 7 ≤ c ∧ c ≤ 14 ∧ p = a + 1 then (match c with
  | 7 => some (cTag (kd' (a + 1)))
  | 8 => oIf (wrK (kd' (a + 1))) (21, 4)
  | 9 => oIf (wrK (kd' (a + 1))) (2, 3)
  | 10 => oIf (wrK (kd' (a + 1))) (20, 40)
  | 11 => oIf (wrK (kd' (a + 1))) (20, if kd' (a + 1) = 1 then 400 else 1440)
  | 12 => oIf (decide (kd' (a + 1) = 1)) (8, 3)
  | 13 => oIf (decide (kd' (a + 1) = 1)) (20, 441)
  | 14 => oIf (decide (kd' (a + 1) = 1)) (20, 441)
  | _ => none) else cT L a kd c p := by
  by_cases hc : 7 ≤ c ∧ c ≤ 14
  · by_cases q : p = a + 1
    · rw [if_pos ⟨hc.1, hc.2, q⟩]
      subst q
      have e : pnN (a + 1) (a + 1) = true := pnN_of (by omega) (Nat.le_refl _)
      rcases (by omega : c = 7 ∨ c = 8 ∨ c = 9 ∨ c = 10 ∨ c = 11 ∨ c = 12 ∨ c = 13 ∨ c = 14) with rfl | rfl | rfl | rfl | rfl | rfl | rfl | rfl
      · show oIf (pnN (a + 1) (a + 1)) _ = _; rw [e]; rfl
      · show oIf (pnN (a + 1) (a + 1) && _) _ = _; rw [e]; rfl
      · show oIf (pnN (a + 1) (a + 1) && _) _ = _; rw [e]; rfl
      · show oIf (pnN (a + 1) (a + 1) && _) _ = _; rw [e]; rfl
      · show oIf (pnN (a + 1) (a + 1) && _) _ = _; rw [e]; rfl
      · show oIf (pnN (a + 1) (a + 1) && _) _ = _; rw [e]; rfl
      · show oIf (pnN (a + 1) (a + 1) && _) _ = _; rw [e]; rfl
      · show oIf (pnN (a + 1) (a + 1) && _) _ = _; rw [e]; rfl
    · rw [if_neg (fun h => q h.2.2)]
      by_cases hp : p ≤ a
      · have e : pnN (a + 1) p = pnN a p := by rw [pnN_succ, nbq_ne q, Bool.or_false]
        have ek := h1 p hp
        rcases (by omega : c = 7 ∨ c = 8 ∨ c = 9 ∨ c = 10 ∨ c = 11 ∨ c = 12 ∨ c = 13 ∨ c = 14) with rfl | rfl | rfl | rfl | rfl | rfl | rfl | rfl
        · show oIf (pnN (a + 1) p) (cTag (kd' p)) = oIf (pnN a p) (cTag (kd p)); rw [e, ek]
        · show oIf (pnN (a + 1) p && wrK (kd' p)) _ = oIf (pnN a p && wrK (kd p)) _; rw [e, ek]
        · show oIf (pnN (a + 1) p && wrK (kd' p)) _ = oIf (pnN a p && wrK (kd p)) _; rw [e, ek]
        · show oIf (pnN (a + 1) p && wrK (kd' p)) _ = oIf (pnN a p && wrK (kd p)) _; rw [e, ek]
        · show oIf (pnN (a + 1) p && wrK (kd' p)) (20, if kd' p = 1 then 400 else 1440) = oIf (pnN a p && wrK (kd p)) (20, if kd p = 1 then 400 else 1440); rw [e, ek]
        · show oIf (pnN (a + 1) p && decide (kd' p = 1)) _ = oIf (pnN a p && decide (kd p = 1)) _; rw [e, ek]
        · show oIf (pnN (a + 1) p && decide (kd' p = 1)) _ = oIf (pnN a p && decide (kd p = 1)) _; rw [e, ek]
        · show oIf (pnN (a + 1) p && decide (kd' p = 1)) _ = oIf (pnN a p && decide (kd p = 1)) _; rw [e, ek]
      · rw [cT_new hc.1 hc.2 (by omega), cT_new hc.1 hc.2 (by omega)]
  · rw [if_neg (fun h => hc ⟨h.1, h.2.1⟩)]
    match c with
    | 0 => rfl
    | 1 => rfl
    | 2 => rfl
    | 3 => rfl
    | 4 => rfl
    | 5 => rfl
    | 6 => rfl
    | 7 => exact absurd ⟨by omega, by omega⟩ hc
    | 8 => exact absurd ⟨by omega, by omega⟩ hc
    | 9 => exact absurd ⟨by omega, by omega⟩ hc
    | 10 => exact absurd ⟨by omega, by omega⟩ hc
    | 11 => exact absurd ⟨by omega, by omega⟩ hc
    | 12 => exact absurd ⟨by omega, by omega⟩ hc
    | 13 => exact absurd ⟨by omega, by omega⟩ hc
    | 14 => exact absurd ⟨by omega, by omega⟩ hc
    | 15 => rfl
    | 16 => rfl
    | 17 => rfl
    | c + 18 => rfl
