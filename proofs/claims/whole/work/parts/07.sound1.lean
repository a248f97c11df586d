/-! ===== the abstract heap against the machine's ===== -/
abbrev gD : Type := va_G × (Nat → ClassId) × Cell
/-- what stands at an address of the machine's heap -/
def gCell (D : gD) (h : gHp) (H : Heap) (a tg n : Nat) : Prop :=
  (∃ r : vw_C, gC[tg]? = some r ∧ n = r.2.2 ∧ t_OB a (D.1.1 tg) n (D.1.2 tg) H (fun k => gvV (gval h tg a k))) ∨
  ((tg = 20 ∨ tg = 21) ∧ H[a]? = some (arrV (D.2.1 tg) n (fun j => .int (gint h a j)))) ∨
  ((tg = 22 ∨ tg = 23) ∧ H[a]? = some (arrV (D.2.1 tg) n (fun j => va_rf (gref h a j)))) ∨
  (tg = 24 ∧ H[a]? = some D.2.2 ∧ D.2.2.slots.size = n ∧ ∀ j, j < n → D.2.2.slots[j]? = some (.int (gint h a j)))
def gAt (D : gD) (base : Nat) (h : gHp) (H : Heap) : Prop := ∀ a tg n, gtag h a = some (tg, n) → gCell D h H a tg n ∧ (base ≤ a ∨ tg = 24)
def gK (D : gD) (s : State) : Prop :=
  va_K D.1 gC [(D.2.1 20, .int), (D.2.1 21, .boolean), (D.2.1 22, .object "GlkPanes$Pane"), (D.2.1 23, .array .int)] s ∧ s.isArrayOf D.2.2 .int ∧ D.2.2.vm ≠ .unknown ∧
  (∀ q ∈ gNest, va_Nw (.methodLinkNest q.1 q.2.1 q.2.2 "GlkPanes") s) ∧ (∀ q ∈ gDcl, va_Nw (.declares q) s) ∧ (∀ q ∈ gCast, va_Nw (.castable q.1 q.2) s) ∧ (∀ q ∈ gNot, va_Nc q.1 q.2 s) ∧ va_AO "GlkPanes$Pane" s ∧ va_Nw (.arrayOver (.array .int)) s
theorem gvV_cat (v : gv) : (gvV v).category = 1 := by
  cases v with
  | inl x => rfl
  | inr o => cases o <;> rfl
theorem gC_lt {tg : Nat} {r : vw_C} (h : gC[tg]? = some r) : tg < 11 := (List.getElem?_eq_some_iff.mp h).1
theorem gCell.obj {D : gD} {h : gHp} {H : Heap} {a tg n : Nat} {r : vw_C} (hc : gCell D h H a tg n) (hr : gC[tg]? = some r) : n = r.2.2 ∧ t_OB a (D.1.1 tg) r.2.2 (D.1.2 tg) H (fun k => gvV (gval h tg a k)) := by
  have hl := gC_lt hr
  rcases hc with ⟨r', h1, h2, h3⟩ | ⟨h1, -⟩ | ⟨h1, -⟩ | ⟨h1, -⟩
  · cases hr.symm.trans h1
    exact ⟨h2, h2 ▸ h3⟩
  · omega
  · omega
  · omega
theorem gCell.ints {D : gD} {h : gHp} {H : Heap} {a tg n : Nat} (hc : gCell D h H a tg n) (ht : tg = 20 ∨ tg = 21) : H[a]? = some (arrV (D.2.1 tg) n (fun j => .int (gint h a j))) := by
  rcases hc with ⟨r', h1, -⟩ | ⟨-, h2⟩ | ⟨h1, -⟩ | ⟨h1, -⟩
  · have := gC_lt h1
    omega
  · exact h2
  · omega
  · omega
theorem gCell.refs {D : gD} {h : gHp} {H : Heap} {a tg n : Nat} (hc : gCell D h H a tg n) (ht : tg = 22 ∨ tg = 23) : H[a]? = some (arrV (D.2.1 tg) n (fun j => va_rf (gref h a j))) := by
  rcases hc with ⟨r', h1, -⟩ | ⟨h1, -⟩ | ⟨-, h2⟩ | ⟨h1, -⟩
  · have := gC_lt h1
    omega
  · omega
  · exact h2
  · omega
theorem gCell.scr {D : gD} {h : gHp} {H : Heap} {a n : Nat} (hc : gCell D h H a 24 n) : H[a]? = some D.2.2 ∧ D.2.2.slots.size = n ∧ ∀ j, j < n → D.2.2.slots[j]? = some (.int (gint h a j)) := by
  rcases hc with ⟨r', h1, -⟩ | ⟨h1, -⟩ | ⟨h1, -⟩ | ⟨-, h1⟩
  · have := gC_lt h1
    omega
  · omega
  · omega
  · exact h1
theorem gCell.lt {D : gD} {h : gHp} {H : Heap} {a tg n : Nat} (hc : gCell D h H a tg n) : a < H.size := by
  rcases hc with ⟨r', -, -, cell, h2, -⟩ | ⟨-, h2⟩ | ⟨-, h2⟩ | ⟨-, h2, -⟩
  · exact (Array.getElem?_eq_some_iff.mp h2).1
  · exact (Array.getElem?_eq_some_iff.mp h2).1
  · exact (Array.getElem?_eq_some_iff.mp h2).1
  · exact (Array.getElem?_eq_some_iff.mp h2).1
theorem gval_congr {h h' : gHp} {tg a k : Nat} (hi : gint h' a k = gint h a k) (hr : gref h' a k = gref h a k) : gval h' tg a k = gval h tg a k := by
  unfold gval
  rw [hi, hr]
theorem gCell.kept {D : gD} {h h' : gHp} {H H' : Heap} {a tg n : Nat} (hc : gCell D h H a tg n) (hi : ∀ j, gint h' a j = gint h a j) (hr : ∀ j, gref h' a j = gref h a j) (hq : H'[a]? = H[a]?) : gCell D h' H' a tg n := by
  rcases hc with ⟨r', h1, h2, h3⟩ | ⟨h1, h2⟩ | ⟨h1, h2⟩ | ⟨h1, h2, h3, h4⟩
  · exact Or.inl ⟨r', h1, h2, (h3.kept hq).to (fun k _ => by rw [gval_congr (hi k) (hr k)])⟩
  · refine Or.inr (Or.inl ⟨h1, ?_⟩)
    rw [hq, h2]
    congr 2
    funext j
    rw [hi j]
  · refine Or.inr (Or.inr (Or.inl ⟨h1, ?_⟩))
    rw [hq, h2]
    congr 2
    funext j
    rw [hr j]
  · exact Or.inr (Or.inr (Or.inr ⟨h1, by rw [hq]; exact h2, h3, fun j hj => by rw [hi j]; exact h4 j hj⟩))
/-- one cell has changed -/
theorem gAt.upd {D : gD} {base : Nat} {h h' : gHp} {H H' : Heap} {a tg n : Nat} (hA : gAt D base h H) (ht : gtag h a = some (tg, n)) (htag : ∀ b, gtag h' b = gtag h b) (hi : ∀ b j, b ≠ a → gint h' b j = gint h b j) (hr : ∀ b j, b ≠ a → gref h' b j = gref h b j) (hq : ∀ q, q ≠ a → H'[q]? = H[q]?) (hc : gCell D h' H' a tg n) : gAt D base h' H' := by
  intro b tg' n' hb
  rw [htag] at hb
  by_cases e : b = a
  · subst e
    cases ht.symm.trans hb
    exact ⟨hc, (hA b tg n ht).2⟩
  · exact ⟨(hA b tg' n' hb).1.kept (fun j => hi b j e) (fun j => hr b j e) (hq b e), (hA b tg' n' hb).2⟩
/-- one cell has come -/
theorem gAt.push {D : gD} {base : Nat} {h h' : gHp} {H H' : Heap} {a tg n : Nat} (hA : gAt D base h H) (ha : a = H.size) (hb : base ≤ a) (htag : ∀ b, gtag h' b = if b = a then some (tg, n) else gtag h b) (hi : ∀ b j, b ≠ a → gint h' b j = gint h b j) (hr : ∀ b j, b ≠ a → gref h' b j = gref h b j) (hq : ∀ q, q < a → H'[q]? = H[q]?) (hc : gCell D h' H' a tg n) : gAt D base h' H' := by
  intro b tg' n' hb'
  rw [htag] at hb'
  by_cases e : b = a
  · subst e
    rw [if_pos rfl] at hb'
    cases hb'
    exact ⟨hc, Or.inl hb⟩
  · rw [if_neg e] at hb'
    have hlt := (hA b tg' n' hb').1.lt
    exact ⟨(hA b tg' n' hb').1.kept (fun j => hi b j e) (fun j => hr b j e) (hq b (by omega)), (hA b tg' n' hb').2⟩
theorem gAt.fresh {D : gD} {base : Nat} {h : gHp} {H : Heap} (hA : gAt D base h H) {a : Nat} (ha : H.size ≤ a) : gtag h a = none := by
  cases e : gtag h a with
  | none => rfl
  | some q =>
    have := (hA a q.1 q.2 e).1.lt
    omega
theorem gAOA_moved {u U : State} (hvm : u.vm.Alike U.vm) (h : va_Nw (.arrayOver (.array .int)) u) : va_Nw (.arrayOver (.array .int)) U := by
  obtain ⟨comp, c, k, h1, h2, h3, h4, h5⟩ := arrayOverA_spec h
  obtain ⟨k', hk', he⟩ := hvm.2.2 _ _ h3
  have hi : (U.vm.classes.findIdx? fun (x : Class) => match x.kind with | .array component _ => component == comp | _ => false) = some c := by
    rw [hvm.findIdx?_eq _ (fun _ => rfl)]
    exact h2
  have hkind : k'.kind = .array comp (.array .int) := by rw [he]; exact h4
  have f1 : U.vm.findClass (FieldType.array .int).toString = some comp := by rw [hvm.findClass]; exact h1
  have f2 : U.vm.findClass ("[" ++ (FieldType.array .int).toString) = some c := by rw [hvm.findClass]; exact h5
  unfold va_Nw Cond.before Cond.holds
  simp only [Cond.value]
  rw [f1, Option.bind_some]
  refine (congrArg (fun o : Option Nat => (o.bind (fun c => (U.vm.classes[c]?).map fun (k : Class) => match k.kind with | .array _ ty => decide (ty = FieldType.array .int) && decide (U.vm.findClass ("[" ++ (FieldType.array .int).toString) = some c) | _ => false) == some true)) hi).trans ?_
  simp [hk', hkind, f2]
theorem gK.same {D : gD} {u U : State} (h : u.vm = U.vm) (hK : gK D u) : gK D U := by
  have hv : u.vm.Alike U.vm := by rw [h]; exact Vm.Alike.refl _
  obtain ⟨h1, h2, h3, h4, h5, h6, h7, h8, h9⟩ := hK
  exact ⟨va_K.moved hv h1, State.isArrayOf_alike hv h2, h3, fun q hq => va_Nw.same rfl h (h4 q hq), fun q hq => va_Nw.same rfl h (h5 q hq), fun q hq => va_Nw.same rfl h (h6 q hq), fun q hq => (h7 q hq).moved hv, va_AO.moved hv h8, gAOA_moved hv h9⟩
/-! locals -/
def gLs (A : Array Slot) (nL : Nat) (ls : List (Option gv)) : Prop := A.size = nL ∧ lv_wf A ∧ ls.length = nL ∧ ∀ (i : Nat) (v : gv), ls[i]? = some (some v) → A[i]? = some (.val (gvV v))
def gLv (ls : List (Option gv)) : List (Nat × Value) := (List.range ls.length).filterMap (fun i => match ls[i]? with | some (some v) => some (i, gvV v) | _ => none)
theorem gLv_mem {ls : List (Option gv)} {i : Nat} {v : gv} (h : ls[i]? = some (some v)) : (i, gvV v) ∈ gLv ls := by
  refine List.mem_filterMap.mpr ⟨i, List.mem_range.mpr (List.getElem?_eq_some_iff.mp h).1, ?_⟩
  rw [h]
theorem gLv_of {ls : List (Option gv)} {q : Nat × Value} (h : q ∈ gLv ls) : ∃ v, ls[q.1]? = some (some v) ∧ q.2 = gvV v := by
  obtain ⟨i, -, hi⟩ := List.mem_filterMap.mp h
  cases e : ls[i]? with
  | none => rw [e] at hi; cases hi
  | some o =>
    cases o with
    | none => rw [e] at hi; cases hi
    | some v =>
      rw [e] at hi
      cases hi
      exact ⟨v, e, rfl⟩
theorem gLs.has {A : Array Slot} {nL : Nat} {ls : List (Option gv)} (h : gLs A nL ls) : lv_has A nL (gLv ls) := by
  refine ⟨h.1, h.2.1, fun q hq => ?_⟩
  obtain ⟨v, h1, h2⟩ := gLv_of hq
  rw [h2]
  exact h.2.2.2 _ _ h1
theorem gLs.back {A : Array Slot} {nL i : Nat} {ls : List (Option gv)} {v : gv} (hl : ls.length = nL) (hi : i < nL) (h : lv_has A nL ((i, gvV v) :: (gLv ls).filter (fun q => !(q.1 == i) && !(q.1 + 1 == i && q.2.category == 2)))) : gLs A nL (ls.set i (some v)) := by
  refine ⟨h.1, h.2.1, by rw [List.length_set]; exact hl, fun j w hj => ?_⟩
  by_cases e : j = i
  · subst e
    rw [List.getElem?_set_self (by omega)] at hj
    cases hj
    exact h.2.2 (j, gvV v) List.mem_cons_self
  · rw [List.getElem?_set_ne (Ne.symm e)] at hj
    refine h.2.2 (j, gvV w) (List.mem_cons_of_mem _ (List.mem_filter.mpr ⟨gLv_mem hj, ?_⟩))
    simp [e, gvV_cat]
theorem g_sl (vs : List gv) : lg_sl (vs.map gvV) = (vs.map gvV).map Slot.val := by
  induction vs with
  | nil => rfl
  | cons v r ih =>
    show lg_sl (gvV v :: r.map gvV) = _
    unfold lg_sl at ih ⊢
    rw [List.flatMap_cons, ih]
    simp [gvV_cat]
theorem g_args (vs : List gv) : ∀ (i j : Nat) (v : gv), vs[j]? = some v → (i + j, gvV v) ∈ lv_args i (vs.map gvV) := by
  induction vs with
  | nil => intro i j v h; simp at h
  | cons w r ih =>
    intro i j v h
    show _ ∈ lv_args i (gvV w :: r.map gvV)
    unfold lv_args
    rw [if_neg (by rw [gvV_cat]; decide)]
    cases j with
    | zero =>
      rw [List.getElem?_cons_zero] at h
      cases h
      exact List.mem_cons_self
    | succ j =>
      rw [List.getElem?_cons_succ] at h
      have := ih (i + 1) j v h
      rw [show i + 1 + j = i + (j + 1) by omega] at this
      exact List.mem_cons_of_mem _ this
theorem gLs.entry (y : gMeth) (vs : List gv) (h : vs.length ≤ y.L) : gLs ((lg_sl (vs.map gvV) ++ List.replicate (y.L - (lg_sl (vs.map gvV)).length) Slot.unset).toArray) y.L (gEntry y vs) := by
  have hl : (lg_sl (vs.map gvV)).length = vs.length := by rw [g_sl]; simp
  have h0 := lv_entry (vs.map gvV) (n := y.L) (by rw [hl]; exact h)
  refine ⟨h0.1, h0.2.1, by unfold gEntry; simp; omega, fun i v hi => ?_⟩
  unfold gEntry at hi
  by_cases hlt : i < vs.length
  · rw [List.getElem?_append_left (by simpa using hlt), List.getElem?_map] at hi
    cases e : vs[i]? with
    | none => rw [e] at hi; cases hi
    | some w =>
      rw [e] at hi
      cases hi
      have := g_args vs 0 i v e
      rw [Nat.zero_add] at this
      exact h0.2.2 _ this
  · rw [List.getElem?_append_right (by simpa using Nat.not_lt.mp hlt)] at hi
    have := List.mem_of_getElem? hi
    simp at this
/-! what the tables say, by the lookups -/
theorem gFl_ok {o idx tg k : Nat} (ho : o < 15) (h : gFl o idx tg = some k) : ∃ (r : vw_C) (ref : String), gC[tg]? = some r ∧ k < r.2.2 ∧ Cond.fieldLink (gCn o) idx ref (r.2.1 k).2.1 (r.2.1 k).2.2.1 ∈ gTs ∧ ((r.2.1 k).1 = ref ∨ Cond.sameField ref (r.2.1 k).1 (r.2.1 k).2.1 (r.2.1 k).2.2.1 ∈ gTs) := by
  unfold gFl at h
  cases hq : gLk idx (gFs o) with
  | none => rw [hq] at h; cases h
  | some q =>
    rw [hq] at h
    cases ht : q.2.1.any (fun t => Nat.beq tg t) with
    | false => simp [ht] at h
    | true =>
      simp only [ht, cond_true, Option.some.injEq] at h
      subst h
      have h1 := List.all_eq_true.mp (gF_k ho) _ (gLk_in hq)
      obtain ⟨t, ht1, ht2⟩ := List.any_eq_true.mp ht
      have e := Nat.eq_of_beq_eq_true ht2
      subst e
      have h2 := List.all_eq_true.mp h1 _ ht1
      unfold gFchk at h2
      cases hr : gC[tg]? with
      | none => simp [hr] at h2
      | some r =>
        simp only [hr, Bool.and_eq_true, Bool.or_eq_true, decide_eq_true_eq] at h2
        exact ⟨r, q.2.2.1, rfl, h2.1.1, gH_in h2.1.2, h2.2.elim Or.inl (fun z => Or.inr (gH_in z))⟩
theorem gCk_ok {o idx : Nat} {C : String} (ho : o < 15) (h : gCk o idx = some C) : Cond.classLink (gCn o) idx C ∈ gTs := by
  unfold gCk at h
  cases hq : gLk idx (gKs o) with
  | none => rw [hq] at h; cases h
  | some q =>
    rw [hq] at h
    cases h
    have h1 := List.all_eq_true.mp gK_k o (List.mem_range.mpr ho)
    have h2 := List.all_eq_true.mp h1 _ (gLk_in hq)
    exact gH_in h2
theorem gTag_ok {C : String} {tg : Nat} {r : vw_C} (h : gTag C = some tg) (hr : gC[tg]? = some r) : r.1 = C := by
  unfold gTag at h
  obtain ⟨hl, h1, -⟩ := List.findIdx?_eq_some_iff_getElem.mp h
  have e : gC[tg] = r := (List.getElem?_eq_some_iff.mp hr).2
  rw [e] at h1
  simpa using h1
theorem gcn_of {tg : Nat} {r : vw_C} (hr : gC[tg]? = some r) : gcn tg = r.1 := by
  unfold gcn
  rw [List.getD_eq_getElem?_getD, hr]
  rfl
theorem gIo_ok {tg : Nat} {C : String} {v : Int32} (h : gIo tg C = some v) : (v = 1 ∧ (gcn tg, C) ∈ gCast) ∨ (v = 0 ∧ (gcn tg, C) ∈ gNot) := by
  unfold gIo at h
  cases h1 : gCast.any (fun q => decide (q = (gcn tg, C))) with
  | true =>
    simp only [h1, cond_true, Option.some.injEq] at h
    obtain ⟨q, hq1, hq2⟩ := List.any_eq_true.mp h1
    exact Or.inl ⟨h.symm, by rw [← of_decide_eq_true hq2]; exact hq1⟩
  | false =>
    simp only [h1, cond_false] at h
    cases h2 : gNot.any (fun q => decide (q = (gcn tg, C))) with
    | true =>
      simp only [h2, cond_true, Option.some.injEq] at h
      obtain ⟨q, hq1, hq2⟩ := List.any_eq_true.mp h2
      exact Or.inr ⟨h.symm, by rw [← of_decide_eq_true hq2]; exact hq1⟩
    | false => simp [h2] at h
