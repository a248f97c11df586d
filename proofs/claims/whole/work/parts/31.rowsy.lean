/-! a reference that is known to be none of null, at its place on the stack; calls by the receiver's kind -/
section GY
variable {C : gMeth → List gv → gHp → (Option gv → gHp → Prop) → Prop} {y : gMeth} {Q : Option gv → gHp → Prop} {pc : Nat} {ls : List (Option gv)} {st : List gv} {h : gHp} {cc ss : Nat} {o : Option Nat} {a idx : Nat} {v0 v1 v2 v3 v4 v5 : gv}
theorem x_dr0 (ho : o = some a) (k : gWP C y Q pc ls (.inr (some a) :: st) h cc ss) : gWP C y Q pc ls (.inr o :: st) h cc ss := by
  subst ho
  exact k
theorem x_dr1 (ho : o = some a) (k : gWP C y Q pc ls (v0 :: .inr (some a) :: st) h cc ss) : gWP C y Q pc ls (v0 :: .inr o :: st) h cc ss := by
  subst ho
  exact k
theorem x_dr2 (ho : o = some a) (k : gWP C y Q pc ls (v0 :: v1 :: .inr (some a) :: st) h cc ss) : gWP C y Q pc ls (v0 :: v1 :: .inr o :: st) h cc ss := by
  subst ho
  exact k
theorem x_dr3 (ho : o = some a) (k : gWP C y Q pc ls (v0 :: v1 :: v2 :: .inr (some a) :: st) h cc ss) : gWP C y Q pc ls (v0 :: v1 :: v2 :: .inr o :: st) h cc ss := by
  subst ho
  exact k
theorem x_dr4 (ho : o = some a) (k : gWP C y Q pc ls (v0 :: v1 :: v2 :: v3 :: .inr (some a) :: st) h cc ss) : gWP C y Q pc ls (v0 :: v1 :: v2 :: v3 :: .inr o :: st) h cc ss := by
  subst ho
  exact k
theorem x_dr5 (ho : o = some a) (k : gWP C y Q pc ls (v0 :: v1 :: v2 :: v3 :: v4 :: .inr (some a) :: st) h cc ss) : gWP C y Q pc ls (v0 :: v1 :: v2 :: v3 :: v4 :: .inr o :: st) h cc ss := by
  subst ho
  exact k
theorem w_lsw {x : Int32} {dflt : Int} {ps : Array (Int × Int)} {len : Nat} {off : Int} {t : Nat} (hi : gLk pc y.T = some (.lookupswitch dflt ps, len)) (hp : (ps.toList.zip (ps.toList.drop 1)).all (fun (a, next) => a.1 < next.1) = true) (ho : Op.lookupswitch.offset ps.toList dflt x.toInt = off) (ht : (pc : Int) + off = (t : Int)) (k : gWP C y Q t ls st h cc ss) : gWP C y Q pc ls (.inl x :: st) h cc ss := gWP.step hi (Or.inr rfl) ⟨x, st, off, t, rfl, hp, ho, ht, k⟩
theorem x_virtG {q : Nat × MethodName × Nat × List (Nat × gMeth × Nat × String × Nat × Nat × Nat × Nat)} {M : gMeth} (tgs : List Nat) (as r : List gv) (hg : gtin (gtag h a) tgs = true) (hi : gLk pc y.T = some (.invokevirtual idx, 3)) (hq : gLk idx (gVts y.O) = some q) (he : st = as.reverse ++ .inr (some a) :: r) (hn : as.length = q.1) (hr : r.length ≤ 8) (hz : ∀ t ∈ tgs, ∃ z, gLk t q.2.2.2 = some z ∧ z.1 = M) (hc : cc + M.mc ≤ y.mc) (hs : ss + M.ms ≤ y.ms) (kk : C M (.inr (some a) :: as) h (fun v h' => gWP C y Q (pc + 3) ls (v.toList ++ r) h' (cc + M.mc) (ss + M.ms))) : gWP C y Q pc ls st h cc ss := by
  obtain ⟨tg, n, h1, h2⟩ := gtin_of hg
  obtain ⟨t, h3, h4⟩ := List.any_eq_true.mp h2
  have e := Nat.eq_of_beq_eq_true h4
  subst e
  obtain ⟨z, h5, rfl⟩ := hz tg h3
  exact w_virtual as r hi hq he hn hr h1 h5 hc hs kk
/-- the call at idx, by the kind of its receiver -/
def gDisp (C : gMeth → List gv → gHp → (Option gv → gHp → Prop) → Prop) (y : gMeth) (idx : Nat) (h : gHp) (a : Nat) (as : List gv) (K : Option gv → gHp → Prop) : Prop := ∃ q tg n z, gLk idx (gVts y.O) = some q ∧ gtag h a = some (tg, n) ∧ gLk tg q.2.2.2 = some z ∧ as.length = q.1 ∧ z.1.mc = 0 ∧ z.1.ms = 0 ∧ C z.1 (.inr (some a) :: as) h K
theorem g_disp {q : Nat × MethodName × Nat × List (Nat × gMeth × Nat × String × Nat × Nat × Nat × Nat)} {M : gMeth} {as : List gv} {K : Option gv → gHp → Prop} (tgs : List Nat) (hg : gtin (gtag h a) tgs = true) (hq : gLk idx (gVts y.O) = some q) (hn : as.length = q.1) (hz : ∀ t ∈ tgs, ∃ z, gLk t q.2.2.2 = some z ∧ z.1 = M ∧ M.mc = 0 ∧ M.ms = 0) (k : C M (.inr (some a) :: as) h K) : gDisp C y idx h a as K := by
  obtain ⟨tg, n, h1, h2⟩ := gtin_of hg
  obtain ⟨t, h3, h4⟩ := List.any_eq_true.mp h2
  have e := Nat.eq_of_beq_eq_true h4
  subst e
  obtain ⟨z, h5, rfl, h6, h7⟩ := hz tg h3
  exact ⟨q, tg, n, z, hq, h1, h5, hn, h6, h7, k⟩
theorem g_cond {α : Type} {b : Bool} {A B : Option α} {r : α} (h : (bif b then A else B) = some r) : (b = true ∧ A = some r) ∨ (b = false ∧ B = some r) := by
  cases b with
  | true => exact Or.inl ⟨rfl, h⟩
  | false => exact Or.inr ⟨rfl, h⟩
end GY
/-- the abstract machine's calls are monotone in what is asked behind them -/
theorem gWP.mono {C : gMeth → List gv → gHp → (Option gv → gHp → Prop) → Prop} {y : gMeth} {Q Q' : Option gv → gHp → Prop} (hQ : ∀ v h, Q v h → Q' v h) {pc : Nat} {ls : List (Option gv)} {st : List gv} {h : gHp} {cc ss : Nat} (hw : gWP C y Q pc ls st h cc ss) : gWP C y Q' pc ls st h cc ss := by
  intro P hP
  refine hw P (fun P' hsub pc ls st h cc ss hs => ?_)
  obtain ⟨i, len, hi, hl, hd⟩ := hs
  refine hP P' hsub pc ls st h cc ss ⟨i, len, hi, hl, ?_⟩
  cases i with
  | ireturn =>
    obtain ⟨x, h1, h2, h3, h4⟩ := hd
    exact ⟨x, h1, h2, hQ _ _ h3, h4⟩
  | areturn =>
    obtain ⟨x, h1, h2, h3, h4⟩ := hd
    exact ⟨x, h1, h2, hQ _ _ h3, h4⟩
  | return_ =>
    obtain ⟨h1, h2, h3, h4⟩ := hd
    exact ⟨h1, h2, hQ _ _ h3, h4⟩
  | if_acmp cd off => cases cd <;> exact hd
  | _ => exact hd
theorem gCall.mono {d : Nat} {y : gMeth} {as : List gv} {h : gHp} {Q Q' : Option gv → gHp → Prop} (hQ : ∀ v h, Q v h → Q' v h) (hc : gCall d y as h Q) : gCall d y as h Q' := by
  cases d with
  | zero => exact False.elim hc
  | succ d => exact ⟨hc.1, hc.2.mono hQ⟩
theorem w_disp {d : Nat} {y : gMeth} {Q : Option gv → gHp → Prop} {pc : Nat} {ls : List (Option gv)} {st : List gv} {h : gHp} {cc ss idx a : Nat} {K : Option gv → gHp → Prop} (as r : List gv) (hi : gLk pc y.T = some (.invokevirtual idx, 3)) (he : st = as.reverse ++ .inr (some a) :: r) (hr : r.length ≤ 8) (hD : gDisp (gCall d) y idx h a as K) (kk : ∀ v h', K v h' → gWP (gCall d) y Q (pc + 3) ls (v.toList ++ r) h' cc ss) (hc : cc ≤ y.mc := by exact Nat.le_of_ble_eq_true rfl) (hs : ss ≤ y.ms := by exact Nat.le_of_ble_eq_true rfl) : gWP (gCall d) y Q pc ls st h cc ss := by
  obtain ⟨q, tg, n, z, hq, h1, h5, hn, h6, h7, k⟩ := hD
  refine w_virtual as r hi hq he hn hr h1 h5 (by rw [h6]; exact hc) (by rw [h7]; exact hs) (k.mono (fun v h' hv => ?_))
  rw [h6, h7]
  exact kk v h' hv
