/-! ===== one instruction at the machine, by the abstract heap ===== -/
theorem gTy_dv (tg k : Nat) : defaultValue (gTy tg k) = gvV (if gisR (gTy tg k) = true then .inr none else .inl 0) := by
  unfold gTy
  split <;> first | (unfold gY0; split <;> rfl) | (unfold gY1; split <;> rfl) | (unfold gY2; split <;> rfl) | (unfold gY3; split <;> rfl) | (unfold gY4; split <;> rfl) | (unfold gY5; split <;> rfl) | (unfold gY6; split <;> rfl) | (unfold gY7; split <;> rfl) | (unfold gY8; split <;> rfl) | (unfold gY9; split <;> rfl) | (unfold gY10; split <;> rfl)
section GS
variable {p : Program} {l : Launch} {e : Env} {R : Room} {s : State} {m : MethodId} {args : Array Value} {below : List Frame} {meth : Method} {c : Code} {H : Heap} {locs : List Loc} {cells slots : Nat} {Q : State → Prop}
variable {cc : ByteArray} {pc : Nat} {A : Array Slot} {rest : List Value} {D : gD} {base : Nat} {h : gHp} {o idx a tg n k : Nat}
theorem g_P1 {r : vw_C} {V : Nat → Value} (hr : gC[tg]? = some r) (hO : t_OB a (D.1.1 tg) r.2.2 (D.1.2 tg) H V) : va_P D.1 gC [(a, .inr (tg, (List.range r.2.2).map V))] H := by
  intro k9 q hq
  have hz : k9 < 1 := (List.getElem?_eq_some_iff.mp hq).1
  rw [show k9 = 0 by omega] at hq
  cases hq
  refine ⟨r, hr, hO.to (fun j hj => ?_)⟩
  simp [vp_V, hj]
theorem gs_get (hx : p.tables.exec = Jvm.exec) (hb : c.code = cc) (hts : ∀ w ∈ gTs, w.before args s = true) (ho : o < 15) (hown : s.vm.findClass (gCn o) = some m.cls) (hK : gK D s) (hA : gAt D base h H) (ht : gtag h a = some (tg, n)) (hf : gFl o idx tg = some k) (hdg : decode cc pc = .ok (.getfield idx, 3))
    (kk : W p l e R s m args below meth c H locs cells slots Q (F0 m (pc + 3) A (gvV (gval h tg a k) :: rest))) : W p l e R s m args below meth c H locs cells slots Q (F0 m pc A (.ref a :: rest)) := by
  obtain ⟨r, ref, hr, hk, hl, hs⟩ := gFl_ok ho hf
  obtain ⟨-, hws, hnm, hpd, -, -⟩ := gKind_of hr
  have hO := ((hA a tg n ht).1.obj hr).2
  obtain ⟨C, T, N⟩ := r
  refine va_get (D := D.1) (cl := gC) (ci := tg) (C := C) (T := T) (N := N) hx hb hts hws hown hK.1 (g_P1 hr hO) 0 rfl hr k hk (hts _ hl) ?_ (by simp [hk]) hdg kk
  intro x hxx
  rcases hs with e1 | e1
  · rw [← e1]
    exact hxx
  · exact u_same (hts _ e1) x hxx
theorem gs_put (hx : p.tables.exec = Jvm.exec) (hb : c.code = cc) (hts : ∀ w ∈ gTs, w.before args s = true) (ho : o < 15) (hown : s.vm.findClass (gCn o) = some m.cls) (hK : gK D s) (hA : gAt D base h H) (hS : va_S (fun q => base ≤ q) s.heap H locs) (ht : gtag h a = some (tg, n)) (hf : gFl o idx tg = some k)
    (hfin : ∀ r : vw_C, gC[tg]? = some r → (r.2.1 k).2.2.2 = false ∨ (meth.name = "<init>" ∧ (r.2.1 k).1 = gCn o)) {v : Value} {h' : gHp} (hn : narrow (gTy tg k) v = v) (hfit : fits (gTy tg k) v = true)
    (htag : ∀ b, gtag h' b = gtag h b) (hi : ∀ b j, b ≠ a → gint h' b j = gint h b j) (hr' : ∀ b j, b ≠ a → gref h' b j = gref h b j) (hV : ∀ j, gvV (gval h' tg a j) = updV (fun j => gvV (gval h tg a j)) k v j)
    (hdg : decode cc pc = .ok (.putfield idx, 3))
    (kk : ∀ (H1 : Heap) (locs1 : List Loc), gAt D base h' H1 → va_S (fun q => base ≤ q) s.heap H1 locs1 → W p l e R s m args below meth c H1 locs1 cells slots Q (F0 m (pc + 3) A rest)) : W p l e R s m args below meth c H locs cells slots Q (F0 m pc A (v :: .ref a :: rest)) := by
  obtain ⟨r, ref, hr, hk, hl, hs⟩ := gFl_ok ho hf
  obtain ⟨-, hws, hnm, hpd, -, -⟩ := gKind_of hr
  have hc0 := (hA a tg n ht).1
  obtain ⟨hnn, hO⟩ := hc0.obj hr
  have hfin := hfin r hr
  obtain ⟨C, T, N⟩ := r
  have hsame : ∀ x, s.fieldFound? (T k).1 (T k).2.1 (T k).2.2.1 = some x → s.fieldFound? ref (T k).2.1 (T k).2.2.1 = some x := by
    intro x hxx
    rcases hs with e1 | e1
    · have e2 : (T k).1 = ref := e1
      rw [← e2]
      exact hxx
    · exact u_same (hts _ e1) x hxx
  have hap := va_apart (own := gCn o) (D := D.1) (cl := gC) (ci := tg) hts hws (gTy tg) hpd hnm hK.1 hr
  have hbase : base ≤ a := by
    rcases (hA a tg n ht).2 with h9 | h9
    · exact h9
    · have := gC_lt hr
      omega
  obtain ⟨cell, q1, q2, q3, q4⟩ := hO
  obtain ⟨hS1, hfc, kC, hkC, hkind⟩ := hK.1.1 tg _ hr
  obtain ⟨cf, kf, fi, f, hi1, hsl⟩ := hS1 k hk
  have hlay := hts _ (hws _ (u_in_lay hk))
  unfold u_lay at hlay
  have hst := (u_facts hfc hkC (u_lays hts hws hk) hi1).1
  have done : ∀ H' : Heap, H'[a]? = some (cell.setSlot f.slot v) → H'.size = H.size → (∀ q, q ≠ a → H'[q]? = H[q]?) → W p l e R s m args below meth c H' (locs ++ [⟨a, f.slot⟩]) cells slots Q (F0 m (pc + 3) A rest) := by
    intro H' e1 e2 e3
    refine kk H' _ (hA.upd ht htag hi hr' e3 (Or.inl ⟨_, hr, hnn, ?_⟩)) (hS.put e2 e3 hbase)
    rw [hsl] at e1
    rw [hnn]
    exact t_OB.to ⟨_, e1, q2, q3, t_set q4 hap hk v⟩ (fun j _ => (hV j).symm)
  by_cases hfl : (T k).2.2.2 = true
  · rw [if_pos hfl] at hlay
    have hf2 : meth.name = "<init>" ∧ (T k).1 = gCn o := by
      rcases hfin with h9 | h9
      · have h9 : (T k).2.2.2 = false := h9
        rw [hfl] at h9
        cases h9
      · exact h9
    have hcf : m.cls = cf := by
      obtain ⟨_, _, c', _, _, _, -, -, hf', -, -, -, hown2, -⟩ := Cond.laysFinal_spec hlay
      have e1 : c' = cf := by have := hi1.symm.trans hf'; simp at this; exact this.1.symm
      rw [hf2.2] at hown2
      rw [← e1]; exact Option.some.inj (hown.symm.trans hown2)
    have h6 := u_fits hfc hkC hkind (Or.inr hlay) hi1 (hpd k hk) hn hfit
    exact W.putFinK hx hb hown (hts _ hl) (hsame _ hi1) hst hcf hf2.1 (by rw [q2]; exact h6) q1 q3 (by rw [hsl]; exact k2_hasslot (q4 k hk)) rfl rfl hdg done
  · rw [if_neg hfl] at hlay
    have h6 := u_store hfc hkC hkind hlay hi1 (hpd k hk) hn hfit
    exact W.putK hx hb (f := f) ⟨hown, hts _ hl, ⟨_, _, _, hsame _ hi1⟩, hst⟩ (by rw [q2]; exact h6) q1 q3 (by rw [hsl]; exact k2_hasslot (q4 k hk)) rfl rfl hdg done
theorem g_arr {s : State} (hK : gK D s) (ht : tg = 20 ∨ tg = 21 ∨ tg = 22 ∨ tg = 23) : ∃ ty, ((tg = 20 → ty = .int) ∧ (tg = 21 → ty = .boolean) ∧ (tg = 22 → ty = .object "GlkPanes$Pane") ∧ (tg = 23 → ty = .array .int)) ∧ ArrOfT s (D.2.1 tg) ty ∧ va_RA s (D.2.1 tg) ty := by
  rcases ht with rfl | rfl | rfl | rfl
  · exact ⟨.int, ⟨fun _ => rfl, fun h => (by cases h), fun h => (by cases h), fun h => (by cases h)⟩, hK.1.2 0 _ rfl⟩
  · exact ⟨.boolean, ⟨fun h => (by cases h), fun _ => rfl, fun h => (by cases h), fun h => (by cases h)⟩, hK.1.2 1 _ rfl⟩
  · exact ⟨.object "GlkPanes$Pane", ⟨fun h => (by cases h), fun h => (by cases h), fun _ => rfl, fun h => by cases h⟩, hK.1.2 2 _ rfl⟩
  · exact ⟨.array .int, ⟨fun h => (by cases h), fun h => (by cases h), fun h => (by cases h), fun _ => rfl⟩, hK.1.2 3 _ rfl⟩
theorem gs_len (hx : p.tables.exec = Jvm.exec) (hb : c.code = cc) (hK : gK D s) (hA : gAt D base h H) (ht : gtag h a = some (tg, n)) (h1 : 20 ≤ tg) (h2 : tg ≤ 24) (hdg : decode cc pc = .ok (.arraylength, 1))
    (kk : W p l e R s m args below meth c H locs cells slots Q (F0 m (pc + 1) A (.int (Int32.ofNat n) :: rest))) : W p l e R s m args below meth c H locs cells slots Q (F0 m pc A (.ref a :: rest)) := by
  have hc := (hA a tg n ht).1
  by_cases h4 : tg = 24
  · subst h4
    obtain ⟨e1, e2, -⟩ := hc.scr
    exact W.alen (n := Int32.ofNat n) hx hb e1 hK.2.1 (by rw [e2] <;> rfl) rfl rfl hdg kk
  · obtain ⟨ty, -, hty, -⟩ := g_arr (tg := tg) hK (by omega)
    by_cases h5 : tg = 20 ∨ tg = 21
    · exact W.alen (n := Int32.ofNat n) hx hb (hc.ints h5) (hty n (fun j => .int (gint h a j))) (by rw [arrV_size] <;> rfl) rfl rfl hdg kk
    · exact W.alen (n := Int32.ofNat n) hx hb (hc.refs (by omega)) (hty n (fun j => va_rf (gref h a j))) (by rw [arrV_size] <;> rfl) rfl rfl hdg kk
theorem gs_iald (hx : p.tables.exec = Jvm.exec) (hb : c.code = cc) (hK : gK D s) (hA : gAt D base h H) (ht : gtag h a = some (tg, n)) (h1 : tg = 20 ∨ tg = 24) {j : Int32} (hin : vp_in j n) (hdg : decode cc pc = .ok (.iaload, 1))
    (kk : W p l e R s m args below meth c H locs cells slots Q (F0 m (pc + 1) A (.int (gint h a j.toNatClampNeg) :: rest))) : W p l e R s m args below meth c H locs cells slots Q (F0 m pc A (.int j :: .ref a :: rest)) := by
  have hc := (hA a tg n ht).1
  have hlt : j.toNatClampNeg < n := Nat.not_le.mp fun q => hin (Or.inr q)
  rcases h1 with rfl | rfl
  · exact W.iald (v := .int (gint h a j.toNatClampNeg)) hx hb (hc.ints (Or.inl rfl)) ((hK.1.2 0 _ rfl).1 n (fun j => .int (gint h a j))) (fun q => by cases q) (by rw [arrV_size]; exact hin) (by rw [arrV_read _ _ hlt]) rfl rfl hdg kk
  · obtain ⟨e1, e2, e3⟩ := hc.scr
    exact W.iald (v := .int (gint h a j.toNatClampNeg)) hx hb e1 hK.2.1 hK.2.2.1 (by rw [e2]; exact hin) (e3 _ hlt) rfl rfl hdg kk
theorem gs_zald (hx : p.tables.exec = Jvm.exec) (hb : c.code = cc) (hK : gK D s) (hA : gAt D base h H) (ht : gtag h a = some (21, n)) {j : Int32} (hin : vp_in j n) (hdg : decode cc pc = .ok (.baload, 1))
    (kk : W p l e R s m args below meth c H locs cells slots Q (F0 m (pc + 1) A (.int (gint h a j.toNatClampNeg) :: rest))) : W p l e R s m args below meth c H locs cells slots Q (F0 m pc A (.int j :: .ref a :: rest)) := by
  have hc := (hA a 21 n ht).1
  have hlt : j.toNatClampNeg < n := Nat.not_le.mp fun q => hin (Or.inr q)
  exact W.zald (v := .int (gint h a j.toNatClampNeg)) hx hb (hc.ints (Or.inr rfl)) ((hK.1.2 1 _ rfl).1 n (fun j => .int (gint h a j))) (fun q => by cases q) (by rw [arrV_size]; exact hin) (by rw [arrV_read _ _ hlt]) rfl rfl hdg kk
theorem gs_aald (hx : p.tables.exec = Jvm.exec) (hb : c.code = cc) (hK : gK D s) (hA : gAt D base h H) (ht : gtag h a = some (tg, n)) (h1 : tg = 22 ∨ tg = 23) {j : Int32} (hin : vp_in j n) (hdg : decode cc pc = .ok (.aaload, 1))
    (kk : W p l e R s m args below meth c H locs cells slots Q (F0 m (pc + 1) A (va_rf (gref h a j.toNatClampNeg) :: rest))) : W p l e R s m args below meth c H locs cells slots Q (F0 m pc A (.int j :: .ref a :: rest)) := by
  have hc := (hA a tg n ht).1
  have hlt : j.toNatClampNeg < n := Nat.not_le.mp fun q => hin (Or.inr q)
  rcases h1 with rfl | rfl
  · exact W.aald (v := va_rf (gref h a j.toNatClampNeg)) (ty := .object "GlkPanes$Pane") hx hb (hc.refs (Or.inl rfl)) ((hK.1.2 2 _ rfl).1 n (fun j => va_rf (gref h a j))) rfl (fun q => by cases q) (by rw [arrV_size]; exact hin) (by rw [arrV_read _ _ hlt]) rfl rfl hdg kk
  · exact W.aald (v := va_rf (gref h a j.toNatClampNeg)) (ty := .array .int) hx hb (hc.refs (Or.inr rfl)) ((hK.1.2 3 _ rfl).1 n (fun j => va_rf (gref h a j))) rfl (fun q => by cases q) (by rw [arrV_size]; exact hin) (by rw [arrV_read _ _ hlt]) rfl rfl hdg kk
theorem gAt.lo {D : gD} {base : Nat} {h : gHp} {H : Heap} (hA : gAt D base h H) {a tg n : Nat} (ht : gtag h a = some (tg, n)) (h1 : tg ≠ 24) : base ≤ a := (hA a tg n ht).2.elim id (fun q => absurd q h1)
theorem g_storeI (hA : gAt D base h H) (ht : gtag h a = some (tg, n)) (h1 : tg = 20 ∨ tg = 21) {j : Nat} {x : Int32} {H1 : Heap} (e1 : H1[a]? = some ((arrV (D.2.1 tg) n (fun j => .int (gint h a j))).setSlot j (.int x))) (oq : ∀ q, q ≠ a → H1[q]? = H[q]?) : gAt D base (gsetI h a j x) H1 := by
  refine hA.upd ht (fun b => rfl) (fun b i hb => ?_) (fun b i _ => rfl) oq (Or.inr (Or.inl ⟨h1, ?_⟩))
  · rw [gint_setI, if_neg (fun q => hb q.1)]
  · rw [e1, arrV_store]
    congr 2
    funext i
    by_cases hi : i = j
    · subst hi
      simp [updV, gint_setI]
    · simp [updV, gint_setI, hi]
theorem g_storeR (hA : gAt D base h H) (ht : gtag h a = some (tg, n)) (h1 : tg = 22 ∨ tg = 23) {j : Nat} {x : Option Nat} {H1 : Heap} (e1 : H1[a]? = some ((arrV (D.2.1 tg) n (fun j => va_rf (gref h a j))).setSlot j (va_rf x))) (oq : ∀ q, q ≠ a → H1[q]? = H[q]?) : gAt D base (gsetR h a j x) H1 := by
  refine hA.upd ht (fun b => rfl) (fun b i _ => rfl) (fun b i hb => ?_) oq (Or.inr (Or.inr (Or.inl ⟨h1, ?_⟩)))
  · rw [gref_setR, if_neg (fun q => hb q.1)]
  · rw [e1, arrV_store]
    congr 2
    funext i
    by_cases hi : i = j
    · subst hi
      simp [updV, gref_setR]
    · simp [updV, gref_setR, hi]
theorem gs_iast (hx : p.tables.exec = Jvm.exec) (hb : c.code = cc) (hK : gK D s) (hA : gAt D base h H) (hS : va_S (fun q => base ≤ q) s.heap H locs) (ht : gtag h a = some (20, n)) {j x : Int32} (hin : vp_in j n) (hdg : decode cc pc = .ok (.iastore, 1))
    (kk : ∀ (H1 : Heap) (locs1 : List Loc), gAt D base (gsetI h a j.toNatClampNeg x) H1 → va_S (fun q => base ≤ q) s.heap H1 locs1 → W p l e R s m args below meth c H1 locs1 cells slots Q (F0 m (pc + 1) A rest)) : W p l e R s m args below meth c H locs cells slots Q (F0 m pc A (.int x :: .int j :: .ref a :: rest)) := by
  have hc := ((hA a 20 n ht).1).ints (Or.inl rfl)
  refine W.iast hx hb hc ((hK.1.2 0 _ rfl).1 n (fun j => .int (gint h a j))) (fun q => by cases q) (by rw [arrV_size]; exact hin) rfl rfl hdg fun H1 e1 z oq => ?_
  exact kk H1 _ (g_storeI hA ht (Or.inl rfl) e1 oq) (hS.put z oq (hA.lo ht (by decide)))
theorem gs_zast (hx : p.tables.exec = Jvm.exec) (hb : c.code = cc) (hK : gK D s) (hA : gAt D base h H) (hS : va_S (fun q => base ≤ q) s.heap H locs) (ht : gtag h a = some (21, n)) {j x : Int32} (hin : vp_in j n) (hx1 : gNar .boolean x) (hdg : decode cc pc = .ok (.bastore, 1))
    (kk : ∀ (H1 : Heap) (locs1 : List Loc), gAt D base (gsetI h a j.toNatClampNeg x) H1 → va_S (fun q => base ≤ q) s.heap H1 locs1 → W p l e R s m args below meth c H1 locs1 cells slots Q (F0 m (pc + 1) A rest)) : W p l e R s m args below meth c H locs cells slots Q (F0 m pc A (.int x :: .int j :: .ref a :: rest)) := by
  have hc := ((hA a 21 n ht).1).ints (Or.inr rfl)
  refine W.zast hx hb hc ((hK.1.2 1 _ rfl).1 n (fun j => .int (gint h a j))) (fun q => by cases q) (by rw [arrV_size]; exact hin) rfl rfl hdg fun H1 e1 z oq => ?_
  rw [hx1.1] at e1
  exact kk H1 _ (g_storeI hA ht (Or.inr rfl) e1 oq) (hS.put z oq (hA.lo ht (by decide)))
theorem g_recv {s : State} (hK : gK D s) (hA : gAt D base h H) (ht : gtag h a = some (tg, n)) {r : vw_C} (hr : gC[tg]? = some r) : ∃ cell : Cell, H[a]? = some cell ∧ cell.vm.isStatics = false ∧ s.vm.findClass r.1 = some cell.cls := by
  obtain ⟨-, cell, q1, q2, q3, -⟩ := ((hA a tg n ht).1).obj hr
  exact ⟨cell, q1, by rw [q3]; rfl, by rw [q2]; exact (hK.1.1 tg r hr).2.1⟩
theorem gs_aast (hx : p.tables.exec = Jvm.exec) (hb : c.code = cc) (hK : gK D s) (hA : gAt D base h H) (hS : va_S (fun q => base ≤ q) s.heap H locs) (ht : gtag h a = some (22, n)) {j : Int32} {x : Option Nat} (hin : vp_in j n) (hv : ∀ b, x = some b → ∃ tg m, gtag h b = some (tg, m) ∧ (tg = 4 ∨ gIo tg "GlkPanes$Pane" = some 1)) (hdg : decode cc pc = .ok (.aastore, 1))
    (kk : ∀ (H1 : Heap) (locs1 : List Loc), gAt D base (gsetR h a j.toNatClampNeg x) H1 → va_S (fun q => base ≤ q) s.heap H1 locs1 → W p l e R s m args below meth c H1 locs1 cells slots Q (F0 m (pc + 1) A rest)) : W p l e R s m args below meth c H locs cells slots Q (F0 m pc A (va_rf x :: .int j :: .ref a :: rest)) := by
  have hc := ((hA a 22 n ht).1).refs (Or.inl rfl)
  have hlt : j.toNatClampNeg < n := Nat.not_le.mp fun q => hin (Or.inr q)
  have h0 : ¬ j < 0 := fun q => hin (Or.inl q)
  cases x with
  | none =>
    refine va_WaastN (C := "GlkPanes$Pane") hx hb hc ((hK.1.2 2 _ rfl).1 n (fun j => va_rf (gref h a j))) (fun h => by cases h) (by rw [arrV_size]; exact hin) rfl rfl hdg fun H1 e1 z oq => ?_
    exact kk H1 _ (g_storeR (x := none) hA ht (Or.inl rfl) e1 oq) (hS.put z oq (hA.lo ht (by decide)))
  | some b =>
    obtain ⟨tg, mm, htb, hcast⟩ := hv b rfl
    obtain ⟨kA, comp, k1, k2, k3, -⟩ := (hK.1.2 2 _ rfl).2
    have hasg : ∃ (r : vw_C) (cv : Cell), gC[tg]? = some r ∧ H[b]? = some cv ∧ cv.vm = .none ∧ s.vm.findClass r.1 = some cv.cls ∧ s.vm.assignable cv.cls comp = true := by
      rcases hcast with rfl | hcast
      · obtain ⟨-, cell, q1, q2, q3, -⟩ := ((hA b 4 mm htb).1).obj (r := ("GlkPanes$Pane", gT4, 11)) rfl
        have hcls := (hK.1.1 4 _ rfl).2
        have e2 : comp = D.1.1 4 := Option.some.inj (k3.symm.trans hcls.1)
        exact ⟨_, cell, rfl, q1, q3, by rw [q2]; exact hcls.1, by rw [q2, e2]; exact va_assign hcls⟩
      · rcases gIo_ok hcast with ⟨-, hm⟩ | ⟨h9, -⟩
        · cases hr : gC[tg]? with
          | none =>
            have e9 : gcn tg = "" := by unfold gcn; rw [List.getD_eq_getElem?_getD, hr]; rfl
            rw [e9] at hm
            exact absurd hm (by decide +kernel)
          | some r =>
            obtain ⟨-, cell, q1, q2, q3, -⟩ := ((hA b tg mm htb).1).obj hr
            have hcls := (hK.1.1 tg _ hr).2
            have hcw := hK.2.2.2.2.2.1 _ hm
            obtain ⟨c0, t0, f1, f2, f3⟩ := Cond.castable_spec (va_Nw.use (A := args) rfl hcw)
            rw [gcn_of hr] at f1
            have e1 : D.1.1 tg = c0 := Option.some.inj (hcls.1.symm.trans f1)
            have e2 : comp = t0 := Option.some.inj (k3.symm.trans f2)
            exact ⟨r, cell, rfl, q1, q3, by rw [q2]; exact hcls.1, by rw [q2, e1, e2]; exact f3⟩
        · exact absurd h9 (by decide)
    obtain ⟨r, cv, hr, hcv, hvm, hfc, has⟩ := hasg
    obtain ⟨kv, hkv, -⟩ := Vm.findClass_spec hfc
    obtain ⟨kc, hkc, -⟩ := Vm.findClass_spec k3
    refine W.aast hx hb hc (fun q h => by cases h) (fun h => by cases h) k1 k2 rfl hkc ⟨h0, by rw [arrV_size]; exact hlt⟩ hcv (fun q h => by rw [hvm] at h; cases h) hkv has rfl rfl hdg fun H1 e1 z oq => ?_
    exact kk H1 _ (g_storeR (x := some b) hA ht (Or.inl rfl) e1 oq) (hS.put z oq (hA.lo ht (by decide)))
theorem gS_push {H1 : Heap} (hS : va_S (fun q => base ≤ q) s.heap H locs) (z : H.size ≤ H1.size) (oq : ∀ q, q < H.size → H1[q]? = H[q]?) : va_S (fun q => base ≤ q) s.heap H1 locs := ⟨Nat.le_trans hS.1 z, fun q h1 h2 => (oq q (Nat.lt_of_lt_of_le h1 hS.1)).trans (hS.2.1 q h1 h2), hS.2.2⟩
theorem gs_new (hx : p.tables.exec = Jvm.exec) (hb : c.code = cc) (hts : ∀ w ∈ gTs, w.before args s = true) (ho : o < 15) (hown : s.vm.findClass (gCn o) = some m.cls) (hK : gK D s) (hA : gAt D base h H) (hS : va_S (fun q => base ≤ q) s.heap H locs) (hbase : base ≤ s.heap.size) {C : String} {r : vw_C} (hck : gCk o idx = some C) (htg : gTag C = some tg) (hr : gC[tg]? = some r) (hcells : cells + 1 ≤ R.cells) (hslots : slots + r.2.2 ≤ R.slots) (hdg : decode cc pc = .ok (.new idx, 3))
    (kk : ∀ (q : Nat) (H1 : Heap), gtag h q = none → gAt D base (gnew h q tg r.2.2) H1 → va_S (fun q => base ≤ q) s.heap H1 locs → W p l e R s m args below meth c H1 locs (cells + 1) (slots + r.2.2) Q (F0 m (pc + 3) A (.ref q :: rest))) : W p l e R s m args below meth c H locs cells slots Q (F0 m pc A rest) := by
  obtain ⟨-, hws, hnm, hpd, hin, hini⟩ := gKind_of hr
  have e0 := gTag_ok htg hr
  have hKn := hK.1.1 tg _ hr
  have hlk := gCk_ok ho hck
  rw [← e0] at hlk
  refine W.newcK hx hb hown (hts _ hlk) (hts _ hin) (hts _ hini) rfl hdg hcells hslots hKn.2.1 rfl fun H1 kC hkC e1 z1 o1 => ?_
  refine kk H.size H1 (hA.fresh (Nat.le_refl _)) (hA.push rfl (Nat.le_trans hbase hS.1) (fun b => rfl) (fun b j hb => if_neg hb) (fun b j hb => if_neg hb) o1 (Or.inl ⟨r, hr, rfl, ?_⟩)) (gS_push hS (by omega) o1)
  refine (u_born (gTy tg) hts hws hKn hkC e1 hpd).to (fun j hj => ?_)
  unfold gval
  rw [gref_new, gint_new, if_pos rfl, if_pos rfl]
  exact gTy_dv tg j
theorem gs_newa (hx : p.tables.exec = Jvm.exec) (hb : c.code = cc) (hts : ∀ w ∈ gTs, w.before args s = true) (hK : gK D s) (hA : gAt D base h H) (hS : va_S (fun q => base ≤ q) s.heap H locs) (hbase : base ≤ s.heap.size) {ty : ArrayType} (hty : gAty ty = some tg) {j : Int32} (h0 : ¬ j < 0) (h1 : j.toNatClampNeg ≤ 100000) (hcells : cells + 1 ≤ R.cells) (hslots : slots + j.toNatClampNeg ≤ R.slots) (hdg : decode cc pc = .ok (.newarray ty, 2))
    (kk : ∀ (q : Nat) (H1 : Heap), gtag h q = none → gAt D base (gnew h q tg j.toNatClampNeg) H1 → va_S (fun q => base ≤ q) s.heap H1 locs → W p l e R s m args below meth c H1 locs (cells + 1) (slots + j.toNatClampNeg) Q (F0 m (pc + 2) A (.ref q :: rest))) : W p l e R s m args below meth c H locs cells slots Q (F0 m pc A (.int j :: rest)) := by
  have main : ∀ (fty : FieldType), newarray.typeOf ty = fty → (fty = .int ∧ tg = 20 ∨ fty = .boolean ∧ tg = 21) → Cond.arrayClass fty ∈ gTs → W p l e R s m args below meth c H locs cells slots Q (F0 m pc A (.int j :: rest)) := by
    intro fty e0 e1 hw
    have hbytes : j.toNatClampNeg * componentBytes (newarray.typeOf ty) ≤ 536870912 := by
      rw [e0]
      rcases e1 with ⟨rfl, -⟩ | ⟨rfl, -⟩
      · show _ * 4 ≤ _
        omega
      · show _ * 1 ≤ _
        omega
    refine va_newaK hx hb (by rw [e0]; exact hts _ hw) rfl hdg rfl h0 rfl hbytes hcells hslots rfl fun H1 cA f1 z1 o1 hAr hNm => ?_
    have hcA : cA = D.2.1 tg := by
      rcases e1 with ⟨e3, e2⟩ | ⟨e3, e2⟩
      · subst e2
        have := (hK.1.2 0 _ rfl).2
        rw [e0, e3] at hNm
        exact Option.some.inj (hNm.symm.trans this)
      · subst e2
        have := (hK.1.2 1 _ rfl).2
        rw [e0, e3] at hNm
        exact Option.some.inj (hNm.symm.trans this)
    refine kk H.size H1 (hA.fresh (Nat.le_refl _)) (hA.push rfl (Nat.le_trans hbase hS.1) (fun b => rfl) (fun b j hb => if_neg hb) (fun b j hb => if_neg hb) o1 (Or.inr (Or.inl ⟨by omega, ?_⟩))) (gS_push hS (by omega) o1)
    rw [f1, hcA]
    congr 2
    funext i
    rw [gint_new, if_pos rfl, e0]
    rcases e1 with ⟨rfl, -⟩ | ⟨rfl, -⟩ <;> rfl
  cases ty <;> first
    | (cases hty; exact main .int rfl (Or.inl ⟨rfl, rfl⟩) gAc.1)
    | (cases hty; exact main .boolean rfl (Or.inr ⟨rfl, rfl⟩) gAc.2)
    | cases hty
theorem gs_newq (hx : p.tables.exec = Jvm.exec) (hb : c.code = cc) (hts : ∀ w ∈ gTs, w.before args s = true) (ho : o < 15) (hown : s.vm.findClass (gCn o) = some m.cls) (hK : gK D s) (hA : gAt D base h H) (hS : va_S (fun q => base ≤ q) s.heap H locs) (hbase : base ≤ s.heap.size) (hck : gCk o idx = some "GlkPanes$Pane") {j : Int32} (h0 : ¬ j < 0) (h1 : j.toNatClampNeg ≤ 100000) (hcells : cells + 1 ≤ R.cells) (hslots : slots + j.toNatClampNeg ≤ R.slots) (hdg : decode cc pc = .ok (.anewarray idx, 3))
    (kk : ∀ (q : Nat) (H1 : Heap), gtag h q = none → gAt D base (gnew h q 22 j.toNatClampNeg) H1 → va_S (fun q => base ≤ q) s.heap H1 locs → W p l e R s m args below meth c H1 locs (cells + 1) (slots + j.toNatClampNeg) Q (F0 m (pc + 3) A (.ref q :: rest))) : W p l e R s m args below meth c H locs cells slots Q (F0 m pc A (.int j :: rest)) := by
  refine W.anew hx hb hown (hts _ (gCk_ok ho hck)) (va_AO.use hK.2.2.2.2.2.2.2.1) rfl hdg rfl h0 (by omega) hcells hslots fun cA kA comp f1 f2 f3 f4 => ?_
  obtain ⟨kA2, comp2, k1, k2, k3, k4⟩ := (hK.1.2 2 _ rfl).2
  have hcA : cA = D.2.1 22 := Option.some.inj (f1.symm.trans k4)
  subst hcA
  have o1 : ∀ q : Nat, q < H.size → (H.push ({ cls := D.2.1 22, slots := Array.replicate j.toNatClampNeg .null, vm := .none } : Cell))[q]? = H[q]? := fun q hq => by rw [Array.getElem?_push, if_neg (Nat.ne_of_lt hq)]
  refine kk H.size _ (hA.fresh (Nat.le_refl _)) (hA.push rfl (Nat.le_trans hbase hS.1) (fun b => rfl) (fun b j hb => if_neg hb) (fun b j hb => if_neg hb) o1 (Or.inr (Or.inr (Or.inl ⟨Or.inl rfl, ?_⟩)))) (gS_push hS (by simp) o1)
  rw [Array.getElem?_push_size, arrV_new]
  congr 2
  funext i
  rw [gref_new, if_pos rfl]
  rfl
theorem gs_cast (hx : p.tables.exec = Jvm.exec) (hb : c.code = cc) (hts : ∀ w ∈ gTs, w.before args s = true) (ho : o < 15) (hown : s.vm.findClass (gCn o) = some m.cls) (hK : gK D s) (hA : gAt D base h H) {C : String} (hck : gCk o idx = some C) {x : Option Nat} (hv : ∀ b, x = some b → ∃ tg n, gtag h b = some (tg, n) ∧ gIo tg C = some 1) (hdg : decode cc pc = .ok (.checkcast idx, 3))
    (kk : W p l e R s m args below meth c H locs cells slots Q (F0 m (pc + 3) A (va_rf x :: rest))) : W p l e R s m args below meth c H locs cells slots Q (F0 m pc A (va_rf x :: rest)) := by
  cases x with
  | none => exact lv_castN hx hb hdg kk
  | some b =>
    obtain ⟨tg, n, ht, hio⟩ := hv b rfl
    rcases gIo_ok hio with ⟨-, hm⟩ | ⟨h9, -⟩
    · cases hr : gC[tg]? with
      | none =>
        have e9 : gcn tg = "" := by unfold gcn; rw [List.getD_eq_getElem?_getD, hr]; rfl
        rw [e9] at hm
        have : ∀ q ∈ gCast, q.1 ≠ "" := by decide +kernel
        exact absurd rfl (this _ hm)
      | some r =>
        have hcw := hK.2.2.2.2.2.1 _ hm
        rw [gcn_of hr] at hcw
        exact va_castY hx hb hown (hts _ (gCk_ok ho hck)) hcw (g_recv hK hA ht hr) hdg kk
    · exact absurd h9 (by decide)
theorem gs_inst (hx : p.tables.exec = Jvm.exec) (hb : c.code = cc) (hts : ∀ w ∈ gTs, w.before args s = true) (ho : o < 15) (hown : s.vm.findClass (gCn o) = some m.cls) (hK : gK D s) (hA : gAt D base h H) {C : String} (hck : gCk o idx = some C) {x : Option Nat} (hdg : decode cc pc = .ok (.instanceof idx, 3))
    (kn : x = none → W p l e R s m args below meth c H locs cells slots Q (F0 m (pc + 3) A (.int 0 :: rest)))
    (kk : ∀ b, x = some b → ∃ tg n v, gtag h b = some (tg, n) ∧ gIo tg C = some v ∧ W p l e R s m args below meth c H locs cells slots Q (F0 m (pc + 3) A (.int v :: rest))) : W p l e R s m args below meth c H locs cells slots Q (F0 m pc A (va_rf x :: rest)) := by
  cases x with
  | none => exact lv_instN hx hb hdg (kn rfl)
  | some b =>
    obtain ⟨tg, n, v, ht, hio, kk⟩ := kk b rfl
    have hne : ∃ r, gC[tg]? = some r := by
      cases hr : gC[tg]? with
      | some r => exact ⟨r, rfl⟩
      | none =>
        have e9 : gcn tg = "" := by unfold gcn; rw [List.getD_eq_getElem?_getD, hr]; rfl
        have h1 : ∀ q ∈ gCast, q.1 ≠ "" := by decide +kernel
        have h2 : ∀ q ∈ gNot, q.1 ≠ "" := by decide +kernel
        rcases gIo_ok hio with ⟨-, hm⟩ | ⟨-, hm⟩
        · exact absurd e9 (h1 _ hm)
        · exact absurd e9 (h2 _ hm)
    obtain ⟨r, hr⟩ := hne
    rcases gIo_ok hio with ⟨rfl, hm⟩ | ⟨rfl, hm⟩
    · have hcw := hK.2.2.2.2.2.1 _ hm
      rw [gcn_of hr] at hcw
      exact va_instY hx hb hown (hts _ (gCk_ok ho hck)) hcw (g_recv hK hA ht hr) hdg kk
    · have hcw := hK.2.2.2.2.2.2.1 _ hm
      rw [gcn_of hr] at hcw
      exact va_instNo hx hb hown (hts _ (gCk_ok ho hck)) hcw (g_recv hK hA ht hr) hdg kk
end GS
