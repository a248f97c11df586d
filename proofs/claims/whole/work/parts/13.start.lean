def R_law : String := "GlkPanesLaw"
def lw_P (b : Addr) (xs : List Int32) (args : Array Value) (s : State) : Prop := args = #[.ref b] ∧ s.IntsAt b xs ∧ xs.length ≤ 2562 ∧ (Jvm.Cond.and given_1 narrow_1).before args s = true
def lw_Q (_ : Array Value) (s : State) (o : Outcome) (t : State) : Prop := o = .returned (some (.int 1)) ∧ Framed s o t [] 600000 7302250
def lw_Z (below : List Frame) (a : Array Value) (s : State) : State → Prop := fun t => ∃ o, t.status = .running ∧ Ended t below o ∧ lw_Q a s o t
/-- the law's own end, with 1 on the stack, nothing written that was there before, its room as the claim has it -/
theorem lw_ret {p : Program} {l : Launch} {e : Env} {s : State} {m : MethodId} {below : List Frame} {meth : Method} {c : Code} {b : Nat} (hx : p.tables.exec = Jvm.exec) (hb : c.code = code) (hr : meth.sig.returnType = ret) (hlocks : meth.locks = false) {pc : Nat} {H : Heap} {ls : Array Slot} (hdg : decode code pc = .ok (.ireturn, 1)) : W p l e room_1 s m #[Value.ref b] below meth c H [] 600000 7302250 (lw_Z below #[Value.ref b] s) (F0 m pc ls [.int 1]) := by
  intro T hT X
  obtain ⟨fs, hret, hrun, hended, hW, hframe⟩ := X.leave (v := some (.int 1)) (hlocks := hlocks) (fun h => by rw [hr] at h; cases h)
  have hmeth' : T.vm.method? m = some meth := X.method'
  refine ⟨T.setFrames fs, ?_, .returned (some (.int 1)), hrun, hended, rfl, ⟨_, rfl⟩, hW, hframe⟩
  jvm_step X.here [X.here.top, hx, hb, hdg, hmeth', hr, ret, narrow_b1]
  (try refine ⟨rfl, ?_⟩); (try refine ⟨rfl, ?_⟩)
  first | (intro acts; rw [hret _ acts rfl rfl rfl]) | rw [hret _ _ rfl rfl rfl]
  exact Steps.refl _
/-- what holds at the law's entry: the machine, the code, the tables' words (any of lw_tbl by 'hts w (by decide +kernel)'), the script of L ints xs at the cell b, what the Statement gives of the start (any of its parts by flat_of_before) -/
def lw_At (p : Program) (s : State) (m : MethodId) (meth : Method) (c : Code) (b L : Nat) (xs : Nat → Int32) : Prop :=
  p.tables.exec = Jvm.exec ∧ c.code = code ∧ meth.sig.returnType = ret ∧ c.maxLocals = 4 ∧ s.vm.findClass R_law = some m.cls ∧ (∀ w ∈ lw_tbl, w.before #[Value.ref b] s = true) ∧ va_X b L xs s s.heap ∧ b < s.heap.size ∧ meth.locks = false ∧ (Jvm.Cond.and given_1 narrow_1).before #[Value.ref b] s = true

theorem g_flat {args : Array Value} {s : State} (h : (Jvm.Cond.and given_1 narrow_1).before args s = true) : ∀ q ∈ gNot, va_Nc q.1 q.2 s := by
  have hs := flat_of_before _ h
  have h1 : gNot.all (fun q => decide (Cond.not (.castable q.1 q.2) ∈ flatC (Jvm.Cond.and given_1 narrow_1))) = true := by decide +kernel
  intro q hq
  have h2 := List.all_eq_true.mp h1 q hq
  exact va_Nc.of (hs _ (by simpa using h2))
/-- what the tables give at the start -/
theorem g_known {args : Array Value} {s : State} (hts : ∀ w ∈ lw_tbl, w.before args s = true) (hgv : (Jvm.Cond.and given_1 narrow_1).before args s = true) {scr : Cell} (h2 : s.isArrayOf scr .int) (h3 : scr.vm ≠ .unknown) : ∃ D : gD, D.2.2 = scr ∧ gK D s := by
  have hT : ∀ w ∈ gTs, w.before args s = true := fun w hw => hts w (gTs_in hw)
  obtain ⟨c0, i0, hn0⟩ := u_known hT (gKind_of (tg := 0) rfl).2.1 (hT _ (gKind_of (tg := 0) rfl).2.2.2.2.1)
  obtain ⟨c1, i1, hn1⟩ := u_known hT (gKind_of (tg := 1) rfl).2.1 (hT _ (gKind_of (tg := 1) rfl).2.2.2.2.1)
  obtain ⟨c2, i2, hn2⟩ := u_known hT (gKind_of (tg := 2) rfl).2.1 (hT _ (gKind_of (tg := 2) rfl).2.2.2.2.1)
  obtain ⟨c3, i3, hn3⟩ := u_known hT (gKind_of (tg := 3) rfl).2.1 (hT _ (gKind_of (tg := 3) rfl).2.2.2.2.1)
  obtain ⟨c4, i4, hn4⟩ := u_known hT (gKind_of (tg := 4) rfl).2.1 (hT _ (gKind_of (tg := 4) rfl).2.2.2.2.1)
  obtain ⟨c5, i5, hn5⟩ := u_known hT (gKind_of (tg := 5) rfl).2.1 (hT _ (gKind_of (tg := 5) rfl).2.2.2.2.1)
  obtain ⟨c6, i6, hn6⟩ := u_known hT (gKind_of (tg := 6) rfl).2.1 (hT _ (gKind_of (tg := 6) rfl).2.2.2.2.1)
  obtain ⟨c7, i7, hn7⟩ := u_known hT (gKind_of (tg := 7) rfl).2.1 (hT _ (gKind_of (tg := 7) rfl).2.2.2.2.1)
  obtain ⟨c8, i8, hn8⟩ := u_known hT (gKind_of (tg := 8) rfl).2.1 (hT _ (gKind_of (tg := 8) rfl).2.2.2.2.1)
  obtain ⟨c9, i9, hn9⟩ := u_known hT (gKind_of (tg := 9) rfl).2.1 (hT _ (gKind_of (tg := 9) rfl).2.2.2.2.1)
  obtain ⟨c10, i10, hn10⟩ := u_known hT (gKind_of (tg := 10) rfl).2.1 (hT _ (gKind_of (tg := 10) rfl).2.2.2.2.1)
  obtain ⟨aI, kI, mI, f1, f2, f3⟩ := Cond.arrayClass_spec (hT _ gAc.1)
  obtain ⟨aZ, kZ, mZ, g1, g2, g3⟩ := Cond.arrayClass_spec (hT _ gAc.2)
  have hAO : va_AO "GlkPanes$Pane" s := va_AO.of (hts _ gAO_w)
  have hAA : va_Nw (.arrayOver (.array .int)) s := (hts _ gAA_w)
  obtain ⟨mP, aP, kP, p1, p2, p3, p4, p5⟩ := Cond.arrayOver_spec hAO
  obtain ⟨mQ, aQ, kQ, q1, q2, q3, q4, q5⟩ := arrayOverA_spec hAA
  refine ⟨((fun k => if k = 0 then c0 else if k = 1 then c1 else if k = 2 then c2 else if k = 3 then c3 else if k = 4 then c4 else if k = 5 then c5 else if k = 6 then c6 else if k = 7 then c7 else if k = 8 then c8 else if k = 9 then c9 else c10, fun k => if k = 0 then i0 else if k = 1 then i1 else if k = 2 then i2 else if k = 3 then i3 else if k = 4 then i4 else if k = 5 then i5 else if k = 6 then i6 else if k = 7 then i7 else if k = 8 then i8 else if k = 9 then i9 else i10), fun t => if t = 20 then aI else if t = 21 then aZ else if t = 22 then aP else aQ, scr), rfl, ⟨?_, ?_⟩, h2, h3, ?_, ?_, ?_, g_flat hgv, hAO, hAA⟩
  · intro k q hq
    match k, hq with
    | 0, hq => cases hq; exact hn0
    | 1, hq => cases hq; exact hn1
    | 2, hq => cases hq; exact hn2
    | 3, hq => cases hq; exact hn3
    | 4, hq => cases hq; exact hn4
    | 5, hq => cases hq; exact hn5
    | 6, hq => cases hq; exact hn6
    | 7, hq => cases hq; exact hn7
    | 8, hq => cases hq; exact hn8
    | 9, hq => cases hq; exact hn9
    | 10, hq => cases hq; exact hn10
    | k + 11, hq => simp [gC] at hq
  · intro k q hq
    match k, hq with
    | 0, hq => cases hq; exact ⟨fun n z => ⟨(fun k h => by cases h), kI, f2, mI, f3⟩, f1⟩
    | 1, hq => cases hq; exact ⟨fun n z => ⟨(fun k h => by cases h), kZ, g2, mZ, g3⟩, g1⟩
    | 2, hq => cases hq; exact ⟨fun n z => ⟨(fun k h => by cases h), kP, p3, mP, p4⟩, kP, mP, p3, p4, p1, p5⟩
    | 3, hq => cases hq; exact ⟨fun n z => ⟨(fun k h => by cases h), kQ, q3, mQ, q4⟩, q5⟩
    | k + 4, hq => simp at hq
  · exact fun q hq => va_Nw.of rfl (hts _ (gNest_w q hq))
  · exact fun q hq => va_Nw.of rfl (hts _ (gDcl_w q hq))
  · exact fun q hq => va_Nw.of rfl (hts _ (gCast_w q hq))
set_option maxHeartbeats 4000000 in
/-- the law at the machine, out of the law at the abstract machine -/
theorem g_start {p : Program} {e : Env} {s : State} {m : MethodId} {below : List Frame} {meth : Method} {c : Code} (l : Launch) {b L : Nat} {xs : Nat → Int32} (C0 : lw_At p s m meth c b L xs) (hw : gWP (gCall 100) m_Law_law (fun v _ => v = some (.inl 1)) 0 (gEntry m_Law_law [.inr (some b)]) [] (gh0 b L xs) 0 0) : W p l e room_1 s m #[Value.ref b] below meth c s.heap [] 0 0 (lw_Z below #[Value.ref b] s) (entryFrame m ([Value.ref b] : List Value).toArray 4) := by
  obtain ⟨hx, hb, hr, hml, hown, hts, hX, hbl, hlocks, hgv⟩ := C0
  obtain ⟨scr, x1, x2, x3, x4, x5⟩ := hX
  obtain ⟨D, hD, hK⟩ := g_known hts hgv x2 x3
  have hA : gAt D s.heap.size (gh0 b L xs) s.heap := by
    intro a tg n ht
    by_cases ea : a = b
    · subst ea
      have ht : some (24, L) = some (tg, n) := by rw [← ht]; simp [gtag, gh0]
      cases ht
      refine ⟨Or.inr (Or.inr (Or.inr ⟨rfl, by rw [hD]; exact x1, by rw [hD]; exact x4, fun j hj => ?_⟩)), Or.inr rfl⟩
      rw [hD, x5 j hj]
      simp [gint, gh0]
    · have ht : (none : Option (Nat × Nat)) = some (tg, n) := by rw [← ht]; simp [gtag, gh0, ea]
      cases ht
  have hl := gLs.entry m_Law_law [.inr (some b)] (Nat.le_of_ble_eq_true rfl)
  rw [lg_entry_eq]
  refine g_frame (D := D) (base := s.heap.size) (d := 100) (y := m_Law_law) hx hb hml (fun w hw => hts w (gTs_in hw)) (by decide) hown hK (Nat.le_refl _) m_Law_law_d (fun q => absurd q (by decide)) (Nat.le_refl _) (Nat.le_refl _) ⟨by decide, by decide⟩ (g_met l D s.heap.size 100) ?_ hw s.heap [] _ hA hl va_S.rf
  intro v h H locs A pc i cc ss hq hA hS hc hs hdg hi
  subst hq
  refine va_forget (fun q hq => hS.2.2 q hq) ?_
  refine W.widen (k := 600000) (n := 7302250) hc hs ?_
  rcases hi with ⟨rfl, hz, -⟩ | ⟨rfl, x, hz, -⟩ | ⟨rfl, o, hz, -⟩
  · cases hz
  · cases hz
    exact lw_ret hx hb hr hlocks hdg
  · cases hz
