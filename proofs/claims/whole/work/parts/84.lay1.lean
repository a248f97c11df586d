/-! ===== where the panes lie ===== -/
abbrev Rc : Type := Nat × Nat × Nat × Nat
def nrm (r : Rc) : Rc := if 0 < r.2.2.1 ∧ 0 < r.2.2.2 then r else (0, 0, 0, 0)
def brd (m room : Nat) : Nat := if 0 < room ∧ m / 8 % 2 = 0 then 1 else 0
def wnt (m s kk room : Nat) (rows : Bool) : Nat := if m / 4 % 2 = 0 then (if kk = 1 ∨ kk = 2 then s else if kk = 3 then (if rows then (s + 15) / 16 else (s + 7) / 8) else 0) else room * s / 100
def ahd (m s kk room : Nat) (rows : Bool) : Nat := if m % 2 = 0 then min (wnt m s kk room rows) (room - brd m room) else room - brd m room - min (wnt m s kk room rows) (room - brd m room)
theorem brd_le (m room : Nat) : brd m room ≤ room := by unfold brd; split <;> omega
theorem ahd_le (m s kk room : Nat) (rows : Bool) : ahd m s kk room rows + brd m room ≤ room := by
  have := brd_le m room
  unfold ahd
  split <;> omega
def sp1 (m s kk : Nat) (r : Rc) : Rc := if m / 2 % 2 = 0 then (r.1, r.2.1, ahd m s kk r.2.2.1 false, r.2.2.2) else (r.1, r.2.1, r.2.2.1, ahd m s kk r.2.2.2 true)
def sp2 (m s kk : Nat) (r : Rc) : Rc := if m / 2 % 2 = 0 then (r.1 + (ahd m s kk r.2.2.1 false + brd m r.2.2.1), r.2.1, r.2.2.1 - (ahd m s kk r.2.2.1 false + brd m r.2.2.1), r.2.2.2) else (r.1, r.2.1 + (ahd m s kk r.2.2.2 true + brd m r.2.2.2), r.2.2.1, r.2.2.2 - (ahd m s kk r.2.2.2 true + brd m r.2.2.2))
def rb (r : Rc) : Prop := r.1 + r.2.2.1 ≤ 60 ∧ r.2.1 + r.2.2.2 ≤ 24
theorem nrm_rb {r : Rc} (h : rb r) : rb (nrm r) := by
  unfold nrm
  split
  · exact h
  · exact ⟨by decide, by decide⟩
theorem sp1_rb {m s kk : Nat} {r : Rc} (h : rb r) : rb (sp1 m s kk r) := by
  have a1 := ahd_le m s kk r.2.2.1 false
  have a2 := ahd_le m s kk r.2.2.2 true
  unfold rb at h ⊢
  unfold sp1
  split <;> (simp only; omega)
theorem sp2_rb {m s kk : Nat} {r : Rc} (h : rb r) : rb (sp2 m s kk r) := by
  have a1 := ahd_le m s kk r.2.2.1 false
  have a2 := ahd_le m s kk r.2.2.2 true
  unfold rb at h ⊢
  unfold sp2
  split <;> (simp only; omega)
def inC (r : Rc) (x y : Int) : Prop := (r.1 : Int) ≤ x ∧ x < (r.1 : Int) + (r.2.2.1 : Int) ∧ (r.2.1 : Int) ≤ y ∧ y < (r.2.1 : Int) + (r.2.2.2 : Int)
theorem nrm_in {r : Rc} {x y : Int} (h : inC (nrm r) x y) : inC r x y := by
  unfold nrm at h
  split at h
  · exact h
  · unfold inC at h; simp only at h; omega
theorem sp_in {m s kk : Nat} {r : Rc} {x y : Int} : (inC (sp1 m s kk r) x y → inC r x y) ∧ (inC (sp2 m s kk r) x y → inC r x y) ∧ ¬ (inC (sp1 m s kk r) x y ∧ inC (sp2 m s kk r) x y) := by
  have a1 := ahd_le m s kk r.2.2.1 false
  have a2 := ahd_le m s kk r.2.2.2 true
  unfold inC sp1 sp2
  split
  · simp only
    refine ⟨fun h => ?_, fun h => ?_, fun h => ?_⟩ <;> omega
  · simp only
    refine ⟨fun h => ?_, fun h => ?_, fun h => ?_⟩ <;> omega
/-- what the pairs say -/
def fN (S : MS) (p : Nat) : Nat := ix (S.2 7 p)
def sN (S : MS) (p : Nat) : Nat := ix (S.2 8 p)
def mN (S : MS) (p : Nat) : Nat := ix (S.2 9 p)
def zN (S : MS) (p : Nat) : Nat := ix (S.2 10 p)
def kN (S : MS) (p : Nat) : Nat := if S.2 11 p = 0 then 0 else ix (S.2 5 (ix (S.2 11 p)))
def ch1 (S : MS) (p : Nat) (r : Rc) : Rc := nrm (sp1 (mN S p) (zN S p) (kN S p) r)
def ch2 (S : MS) (p : Nat) (r : Rc) : Rc := nrm (sp2 (mN S p) (zN S p) (kN S p) r)
def LayR (S : MS) : Nat → Nat → Rc → (Nat → Rc) → Prop
  | 0, _, _, _ => True
  | d + 1, p, r, G => G p = r ∧ (S.2 5 p = 4 → LayR S d (fN S p) (ch1 S p r) G ∧ LayR S d (sN S p) (ch2 S p r) G)
abbrev TPS (S : MS) : Nat → Nat → Nat → List Nat → Prop := TP (S.2 4) (S.2 5) (S.2 6) (S.2 7) (S.2 8)
theorem LayR.congr {S : MS} : ∀ {d up p : Nat} {l : List Nat} {r : Rc} {G G' : Nat → Rc}, TPS S d up p l → (∀ q, q ∈ l → G q = G' q) → LayR S d p r G → LayR S d p r G' := by
  intro d
  induction d with
  | zero => intro up p l r G G' hT; cases hT
  | succ d ih =>
    intro up p l r G G' hT hG hL
    obtain ⟨h1, h2, h3, h4, h5⟩ := hT
    rcases h5 with ⟨h5, h6⟩ | ⟨h5, f, s, ll, lr, h6, h7, h8, h9, h10⟩
    · subst h6
      exact ⟨by rw [← hG p (List.mem_singleton.mpr rfl)]; exact hL.1, fun q => absurd q h5⟩
    · subst h8
      obtain ⟨k1, k2⟩ := hL.2 h5
      have ef : fN S p = f := by unfold fN; rw [h6, ixn (by have := h9.here.2.1; omega)]
      have es : sN S p = s := by unfold sN; rw [h7, ixn (by have := h10.here.2.1; omega)]
      rw [ef] at k1
      rw [es] at k2
      refine ⟨by rw [← hG p List.mem_cons_self]; exact hL.1, fun _ => ?_⟩
      rw [ef, es]
      exact ⟨ih h9 (fun q hq => hG q (List.mem_cons_of_mem _ (List.mem_append_left _ hq))) k1, ih h10 (fun q hq => hG q (List.mem_cons_of_mem _ (List.mem_append_right _ hq))) k2⟩
theorem lay_ex {S : MS} : ∀ {d up p : Nat} {l : List Nat} (r : Rc), TPS S d up p l → l.Nodup → ∃ G, LayR S d p r G := by
  intro d
  induction d with
  | zero => intro up p l r hT; cases hT
  | succ d ih =>
    intro up p l r hT hN
    have hT0 := hT
    obtain ⟨h1, h2, h3, h4, h5⟩ := hT
    rcases h5 with ⟨h5, h6⟩ | ⟨h5, f, s, ll, lr, h6, h7, h8, h9, h10⟩
    · exact ⟨fun _ => r, rfl, fun q => absurd q h5⟩
    · subst h8
      obtain ⟨n1, n2⟩ := List.nodup_cons.mp hN
      obtain ⟨n3, n4, n5⟩ := List.nodup_append.mp n2
      have ef : fN S p = f := by unfold fN; rw [h6, ixn (by have := h9.here.2.1; omega)]
      have es : sN S p = s := by unfold sN; rw [h7, ixn (by have := h10.here.2.1; omega)]
      obtain ⟨G1, g1⟩ := ih (ch1 S p r) h9 n3
      obtain ⟨G2, g2⟩ := ih (ch2 S p r) h10 n4
      refine ⟨fun q => if q = p then r else if q ∈ ll then G1 q else G2 q, if_pos rfl, fun _ => ?_⟩
      rw [ef, es]
      refine ⟨LayR.congr h9 (fun q hq => ?_) g1, LayR.congr h10 (fun q hq => ?_) g2⟩
      · have e1 : ¬ q = p := fun e => n1 (List.mem_append_left _ (e ▸ hq))
        show G1 q = if q = p then r else if q ∈ ll then G1 q else G2 q
        rw [if_neg e1, if_pos hq]
      · have e1 : ¬ q = p := fun e => n1 (List.mem_append_right _ (e ▸ hq))
        have e2 : ¬ q ∈ ll := fun e => n5 q e q hq rfl
        show G2 q = if q = p then r else if q ∈ ll then G1 q else G2 q
        rw [if_neg e1, if_neg e2]
/-- all lie on the screen; a pair's panes lie in it, and apart -/
theorem lay_geo {S : MS} : ∀ {d up p : Nat} {l : List Nat} {r : Rc} {G : Nat → Rc}, TPS S d up p l → LayR S d p r G → rb r → (∀ q, q ∈ l → rb (G q)) ∧ ∀ q, q ∈ l → S.2 5 q = 4 → ∀ x y, (inC (G (fN S q)) x y → inC (G q) x y) ∧ (inC (G (sN S q)) x y → inC (G q) x y) ∧ ¬ (inC (G (fN S q)) x y ∧ inC (G (sN S q)) x y) := by
  intro d
  induction d with
  | zero => intro up p l r G hT; cases hT
  | succ d ih =>
    intro up p l r G hT hL hr
    obtain ⟨h1, h2, h3, h4, h5⟩ := hT
    rcases h5 with ⟨h5, h6⟩ | ⟨h5, f, s, ll, lr, h6, h7, h8, h9, h10⟩
    · subst h6
      refine ⟨fun q hq => ?_, fun q hq k => ?_⟩
      · rw [List.mem_singleton.mp hq, hL.1]; exact hr
      · rw [List.mem_singleton.mp hq] at k; exact absurd k h5
    · subst h8
      have ef : fN S p = f := by unfold fN; rw [h6, ixn (by have := h9.here.2.1; omega)]
      have es : sN S p = s := by unfold sN; rw [h7, ixn (by have := h10.here.2.1; omega)]
      obtain ⟨k1, k2⟩ := hL.2 h5
      rw [ef] at k1
      rw [es] at k2
      obtain ⟨a1, a2⟩ := ih h9 k1 (nrm_rb (sp1_rb hr))
      obtain ⟨b1, b2⟩ := ih h10 k2 (nrm_rb (sp2_rb hr))
      have g1 : G f = ch1 S p r := by
        cases d with
        | zero => cases h9
        | succ d => exact k1.1
      have g2 : G s = ch2 S p r := by
        cases d with
        | zero => cases h9
        | succ d => exact k2.1
      refine ⟨fun q hq => ?_, fun q hq k => ?_⟩
      · rcases List.mem_cons.mp hq with e | e
        · rw [e, hL.1]; exact hr
        · rcases List.mem_append.mp e with e | e
          · exact a1 q e
          · exact b1 q e
      · rcases List.mem_cons.mp hq with e | e
        · subst e
          intro x y
          rw [ef, es, g1, g2, hL.1]
          obtain ⟨c1, c2, c3⟩ := sp_in (m := mN S q) (s := zN S q) (kk := kN S q) (r := r) (x := x) (y := y)
          exact ⟨fun h => c1 (nrm_in h), fun h => c2 (nrm_in h), fun h => c3 ⟨nrm_in h.1, nrm_in h.2⟩⟩
        · rcases List.mem_append.mp e with e | e
          · exact a2 q e k
          · exact b2 q e k
theorem bits : ∀ m, m < 16 → (nI m &&& 1 = 0 ↔ m % 2 = 0) ∧ (nI m &&& 2 = 0 ↔ m / 2 % 2 = 0) ∧ (nI m &&& 4 = 0 ↔ m / 4 % 2 = 0) ∧ (nI m &&& 8 = 0 ↔ m / 8 % 2 = 0) ∧ ((2 : Int32) ≤ nI m &&& 3 ↔ ¬ m / 2 % 2 = 0) := by decide
theorem nI_le0 {x : Nat} (h : x < 2 ^ 31) : nI x ≤ 0 ↔ x = 0 := by
  constructor
  · intro q
    rcases Nat.eq_zero_or_pos x with e | e
    · exact e
    · exact absurd q (nI_ge (a := 0) (b := x) e h)
  · intro q; subst q; decide
theorem nI_lei {x y : Nat} (hx : x < 2 ^ 31) (hy : y < 2 ^ 31) : nI x ≤ nI y ↔ x ≤ y := by
  constructor
  · intro q
    rcases Nat.lt_or_ge y x with e | e
    · exact absurd q (nI_ge e hx)
    · exact e
  · intro q; exact nI_le q hy
theorem nI_lti {x y : Nat} (hx : x < 2 ^ 31) (hy : y < 2 ^ 31) : nI x < nI y ↔ x < y := by
  constructor
  · intro q
    rcases Nat.lt_or_ge x y with e | e
    · exact e
    · exact absurd q (nI_nlt e hx)
  · intro q; exact nI_lt q hy
theorem dv {x d : Nat} (hx : x < 2 ^ 31) (hd : 0 < d) (hd' : d < 2 ^ 31) : nI x / nI d = nI (x / d) := pk_div hx hd hd'
/-! the reference's part -/
def rmS (S : MS) (q : Nat) (r : Rc) : MS := (((S.a 12 q (nI r.1)).a 13 q (nI r.2.1)).a 14 q (nI r.2.2.1)).a 15 q (nI r.2.2.2)
theorem e_room (n : Nat) (S : MS) {q : Nat} (hq : q ≤ 60) {x y w v : Nat} (hw : w < 2 ^ 31) (hv : v < 2 ^ 31) : f_M_room n S (nI q) (nI x) (nI y) (nI w) (nI v) = some (rmS S q (nrm (x, y, w, v))) := by
  have iq := ixn (show q < 2 ^ 31 by omega)
  have bq : inB (nI q) 61 = true := inn (by omega) (by decide)
  unfold f_M_room f_M_room_B14 f_M_room_B15 f_M_room_B32 f_M_room_B48 nrm rmS
  simp only [bq, cond_true, iq, nI_le0 hw, nI_le0 hv, show ¬ (1 : Int32) = 0 from by decide, if_true, if_false, reduceIte]
  by_cases c1 : w = 0
  · simp only [c1, if_true, reduceIte, Nat.lt_irrefl, false_and, if_false]
    rfl
  · by_cases c2 : v = 0
    · simp only [c1, c2, if_true, if_false, reduceIte, Nat.lt_irrefl, and_false]
      rfl
    · simp only [c1, c2, if_false, reduceIte, show 0 < w from by omega, show 0 < v from by omega, and_self, if_true]
theorem e_Mwant (n : Nat) (S : MS) {p : Nat} (hp : p ≤ 60) {m s kk room : Nat} (hm : m < 16) (hs : s ≤ 999) (hr : room ≤ 60) (s9 : S.2 9 p = nI m) (s10 : S.2 10 p = nI s) (s11 : (S.2 11 p = 0 ∧ kk = 0) ∨ ∃ q, S.2 11 p = nI q ∧ 1 ≤ q ∧ q ≤ 60 ∧ S.2 5 q = nI kk ∧ kk ≤ 4) (rows : Bool) : f_M_wanted n S (nI p) (nI room) (b32 (!rows)) = some (nI (wnt m s kk room rows), S) := by
  have ip := ixn (show p < 2 ^ 31 by omega)
  have bp : inB (nI p) 61 = true := inn (by omega) (by decide)
  obtain ⟨b1, b2, b3, b4, b5⟩ := bits m hm
  unfold f_M_wanted wnt
  simp only [bp, cond_true, ip, s9, s10, b3]
  have hB : kk ≤ 4 → f_M_wanted_B47 n S (nI p) (b32 (!rows)) (nI kk) = some (nI (if kk = 1 ∨ kk = 2 then s else if kk = 3 then (if rows then (s + 15) / 16 else (s + 7) / 8) else 0), S) := by
    intro hk
    have e16 : (nI s + 16 - 1) / (16 : Int32) = nI ((s + 15) / 16) := by
      rw [show (16 : Int32) = nI 16 from rfl, nI_add, show (1 : Int32) = nI 1 from rfl, pk_sub (by omega), dv (by omega) (by omega) (by omega), show s + 16 - 1 = s + 15 by omega]
    have e8 : (nI s + 8 - 1) / (8 : Int32) = nI ((s + 7) / 8) := by
      rw [show (8 : Int32) = nI 8 from rfl, nI_add, show (1 : Int32) = nI 1 from rfl, pk_sub (by omega), dv (by omega) (by omega) (by omega), show s + 8 - 1 = s + 7 by omega]
    unfold f_M_wanted_B47 f_M_wanted_B60
    simp only [bp, cond_true, ip, s10]
    rcases (by omega : kk = 0 ∨ kk = 1 ∨ kk = 2 ∨ kk = 3 ∨ kk = 4) with rfl | rfl | rfl | rfl | rfl <;> cases rows
    all_goals first | rfl | (simp only [Bool.not_true, Bool.not_false, b32_t, b32_f, show nI 3 = 3 from rfl, show ¬ (3 : Int32) = 1 from by decide, show ¬ (3 : Int32) = 2 from by decide, show ¬ (1 : Int32) = 0 from by decide, if_true, if_false, reduceIte, e16, e8, show decide (¬ (16 : Int32) = 0) = true from rfl, show decide (¬ (8 : Int32) = 0) = true from rfl, cond_true, show ¬ (3 = 1 ∨ 3 = 2) from by decide, Bool.false_eq_true])
  by_cases c : m / 4 % 2 = 0
  · simp only [c, if_true, reduceIte]
    rcases s11 with ⟨z, rfl⟩ | ⟨q, q1, q2, q3, q4, q5⟩
    · rw [if_pos z]
      exact hB (by omega)
    · have bq : inB (nI q) 61 = true := inn (by omega) (by decide)
      rw [if_neg (by rw [q1, nI_z q3]; omega), q1, bq, cond_true, ixn (by omega), q4]
      exact hB q5
  · simp only [c, if_false, reduceIte, show decide (¬ (100 : Int32) = 0) = true from rfl, cond_true]
    rw [pk_mul, show (100 : Int32) = nI 100 from rfl, dv (by have : room * s ≤ 60 * 999 := Nat.mul_le_mul hr hs
                                                             omega) (by omega) (by omega)]
