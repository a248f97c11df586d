/-! ===== calls ===== -/
def gWs (y : gMeth) : List Cond := .code y.N y.C y.L y.R :: gTs
def gRm (d : Nat) (y : gMeth) : Room := { frames := d, cells := y.mc, slots := y.ms, locals := 60 * d }
def gPc (D : gD) (base : Nat) (as : List gv) (h : gHp) : Array Value → State → Prop := va_Pc (as.map gvV) (fun U => gAt D base h U.heap ∧ gK D U ∧ base ≤ U.heap.size)
def gQc (D : gD) (base : Nat) (Qx : Option gv → gHp → Prop) : Array Value → State → Outcome → State → Prop := fun _ st oc t => (∃ v h', oc = .returned (v.map gvV) ∧ gAt D base h' t.heap ∧ Qx v h') ∧ va_F (fun q => base ≤ q) st t
abbrev gMet (l : Launch) (D : gD) (base d : Nat) (y : gMeth) (as : List gv) (h : gHp) (Qx : Option gv → gHp → Prop) : Prop := Met l y.N (gWs y) (gRm d y) (gPc D base as h) (gQc D base Qx) y.mc y.ms (fun q => base ≤ q)
theorem gPc.blind {D : gD} {base : Nat} {as : List gv} {h : gHp} : FrameBlind (gPc D base as h) := by
  intro a U g mk hq
  obtain ⟨q0, q1, q2, q3⟩ := hq
  exact ⟨q0, q1, q2.same rfl, q3⟩
theorem gK.warm {D : gD} {s U : State} (hW : s.WarmedH U.vm) (hK : gK D s) : gK D U := by
  have hv := hW.alike
  obtain ⟨h1, h2, h3, h4, h5, h6, h7, h8, h9⟩ := hK
  refine ⟨va_K.moved hv h1, State.isArrayOf_alike hv h2, h3, fun q hq => va_Nw.warmM hW (h4 q hq), fun q hq => va_Nw.warmD hW (h5 q hq), fun q hq => va_Nw.warmC hW (h6 q hq), fun q hq => (h7 q hq).moved hv, va_AO.moved hv h8, gAOA_moved hv h9⟩
section GC
variable {p : Program} {l : Launch} {e : Env} {R : Room} {s : State} {m : MethodId} {args : Array Value} {below : List Frame} {meth : Method} {c : Code} {H : Heap} {locs : List Loc} {cells slots : Nat} {Q : State → Prop}
variable {cc : ByteArray} {pc : Nat} {A : Array Slot} {rest : List Value} {D : gD} {base : Nat} {h : gHp} {o idx a tg n k d nL : Nat}
theorem g_call {Qx : Option gv → gHp → Prop} {mc ms : Nat} {st0 : List Value} {as : Array Value} (hr : va_Run p l e R s m args below meth c H locs cells slots mc ms (F0 m pc A st0) rest (gQc D base Qx as) (fun q => base ≤ q)) (hS : va_S (fun q => base ≤ q) s.heap H locs)
    (kk : ∀ (v : Option gv) (h' : gHp) (H1 : Heap) (locs1 : List Loc), Qx v h' → gAt D base h' H1 → va_S (fun q => base ≤ q) s.heap H1 locs1 → W p l e R s m args below meth c H1 locs1 (cells + mc) (slots + ms) Q (F0 m (pc + 3) A ((v.map gvV).toList ++ rest))) : W p l e R s m args below meth c H locs cells slots Q (F0 m pc A st0) := by
  intro T hT X
  obtain ⟨v, st₀, t, T', L, h0, X', hL, e1, e2, ⟨⟨v', h', hv, hA, hq⟩, hz, hk⟩, st⟩ := hr T hT X
  cases hv
  rw [h0] at hz hk
  obtain ⟨t2, a1, b1⟩ := kk v' h' T'.heap (locs ++ L) hq (by rw [e1]; exact hA)
    ⟨Nat.le_trans hS.1 (by rw [e1]; exact hz), fun q h1 h2 => by rw [e1, hk q (Nat.lt_of_lt_of_le h1 hS.1) h2]; exact hS.2.1 q h1 h2, fun q hq => by
      rcases List.mem_append.mp hq with h | h
      · exact hS.2.2 q h
      · exact hL q h⟩ T' rfl X'
  exact ⟨t2, st t2 a1, b1⟩
theorem g_in {y : gMeth} (hy : gGood y) : GoodIn gTs (gWs y) := by
  intro w hw
  have h1 : w ∈ gTs := by
    rcases List.mem_cons.mp hw with rfl | h
    · exact hy.1
    · exact h
  exact ⟨h1, good_of_word (List.mem_filter.mp h1).2⟩
theorem g_sum (r : List gv) : ((r.map gvV).map fun v => v.category).sum = r.length := by
  induction r with
  | nil => rfl
  | cons v r ih =>
    simp only [List.map_cons, List.sum_cons, List.length_cons, ih, gvV_cat]
    omega
theorem g_room {r : List gv} (hr : r.length ≤ 8) : 2 * (F0 m pc A rest).monitorRoom + ((r.map gvV).map fun v => v.category).sum ≤ 8 := lv_room (by rw [g_sum]; exact hr)
theorem g_base {U : State} (hbase : base ≤ s.heap.size) (hS : va_S (fun q => base ≤ q) s.heap H locs) (hU : U.heap = H) : base ≤ U.heap.size := by
  rw [hU]
  exact Nat.le_trans hbase hS.1
theorem g_pre {as : List gv} (hK : gK D s) (hA : gAt D base h H) (hbase : base ≤ s.heap.size) (hS : va_S (fun q => base ≤ q) s.heap H locs) : PreS s H (gPc D base as h) (as.map gvV) :=
  ⟨gPc.blind, fun U hU hW => ⟨rfl, by rw [hU]; exact hA, hK.warm hW, g_base hbase hS hU⟩⟩
theorem gs_static (hx : p.tables.exec = Jvm.exec) (hb : c.code = cc) (hml : c.maxLocals = nL) (hls : A.size = nL) (hts : ∀ w ∈ gTs, w.before args s = true) (ho : o < 15) (hown : s.vm.findClass (gCn o) = some m.cls) (hK : gK D s) (hA : gAt D base h H) (hS : va_S (fun q => base ≤ q) s.heap H locs) (hbase : base ≤ s.heap.size)
    {q : gMeth × Nat × Nat × Nat × Nat} {as r : List gv} {Qx : Option gv → gHp → Prop} (hq : gLk idx (gSts o) = some q) (hlen : as.length = q.2.1) (hr : r.length ≤ 8) (hM : gMet l D base d q.1 as h Qx) (hR : d + 1 ≤ R.frames ∧ 60 * (d + 1) ≤ R.locals) (hf : cells + q.1.mc ≤ R.cells ∧ slots + q.1.ms ≤ R.slots) (hdg : decode cc pc = .ok (.invokestatic idx, 3))
    (kk : ∀ (v : Option gv) (h' : gHp) (H1 : Heap) (locs1 : List Loc), Qx v h' → gAt D base h' H1 → va_S (fun q => base ≤ q) s.heap H1 locs1 → W p l e R s m args below meth c H1 locs1 (cells + q.1.mc) (slots + q.1.ms) Q (F0 m (pc + 3) A ((v.map gvV).toList ++ r.map gvV))) : W p l e R s m args below meth c H locs cells slots Q (F0 m pc A ((as.reverse ++ r).map gvV)) := by
  have hm := gLk_in hq
  have hy : gGood q.1 := gSt_g o _ hm
  have hchk := List.all_eq_true.mp (gSt_k ho) _ hm
  simp only [gStchk, Bool.and_eq_true, decide_eq_true_eq] at hchk
  obtain ⟨⟨hpn, hlk⟩, hst⟩ := hchk
  have hst := hts _ (gH_in hst)
  obtain ⟨hc, hpl, hT, hcn, hini, hy1, hy2, hL, hO⟩ := id hy
  have hini := hts _ hini
  have hd : q.1.N.cls ≠ "java/lang/invoke/MethodHandle" ∧ q.1.N.cls ≠ "java/lang/invoke/VarHandle" ∧ (parseMethodDescriptor q.1.N.desc).map (fun d => d.parameters.length) = some q.2.1 := ⟨hy1, hy2, hpn⟩
  have hRm : (gRm d q.1).frames + 1 ≤ R.frames ∧ 8 + (q.1.L + 11) + (gRm d q.1).locals ≤ R.locals := ⟨hR.1, by show 8 + (q.1.L + 11) + 60 * d ≤ _; omega⟩
  have hstk : ((as.reverse ++ r).map gvV) = (as.map gvV).reverse ++ r.map gvV := by rw [List.map_append, List.map_reverse]
  cases hn : Nat.beq q.2.2.1 0 with
  | true =>
    simp only [hn, cond_true] at hlk
    refine g_call (va_runS (As := as.map gvV) (rest := r.map gvV) (n := q.2.1) ⟨hx, hb, hml, hown, hts⟩ hM ⟨callB_of q.2.1 hts (g_in hy) rfl rfl rfl hini (hts _ (gH_in hlk)) hd hRm, hst⟩ (g_pre hK hA hbase hS) rfl (by rw [List.length_map]; exact hlen) hls hstk (g_room hr) hdg hf) hS kk
  | false =>
    simp only [hn, cond_false] at hlk
    obtain ⟨z, hz1, hz2⟩ := List.any_eq_true.mp hlk
    have hz3 := of_decide_eq_true hz2
    subst hz3
    refine g_call (va_runSN (As := as.map gvV) (rest := r.map gvV) (n := q.2.1) ⟨hx, hb, hml, hown, hts⟩ hM ⟨va_cnB q.2.1 hts (g_in hy) rfl rfl rfl (hK.2.2.2.1 _ hz1) hini hd hRm, hst, trivial⟩ (g_pre hK hA hbase hS) rfl (by rw [List.length_map]; exact hlen) hls hstk (g_room hr) hdg hf) hS kk
theorem gs_special (hx : p.tables.exec = Jvm.exec) (hb : c.code = cc) (hml : c.maxLocals = nL) (hls : A.size = nL) (hts : ∀ w ∈ gTs, w.before args s = true) (ho : o < 15) (hown : s.vm.findClass (gCn o) = some m.cls) (hK : gK D s) (hA : gAt D base h H) (hS : va_S (fun q => base ≤ q) s.heap H locs) (hbase : base ≤ s.heap.size)
    {q : gMeth × Nat × Nat × Nat × Nat} {as r : List gv} {Qx : Option gv → gHp → Prop} (hq : gLk idx (gSps o) = some q) (hlen : as.length = q.2.1) (hr : r.length ≤ 8) (hM : gMet l D base d q.1 (.inr (some a) :: as) h Qx) (hR : d + 1 ≤ R.frames ∧ 60 * (d + 1) ≤ R.locals) (hf : cells + q.1.mc ≤ R.cells ∧ slots + q.1.ms ≤ R.slots) (hdg : decode cc pc = .ok (.invokespecial idx, 3))
    (kk : ∀ (v : Option gv) (h' : gHp) (H1 : Heap) (locs1 : List Loc), Qx v h' → gAt D base h' H1 → va_S (fun q => base ≤ q) s.heap H1 locs1 → W p l e R s m args below meth c H1 locs1 (cells + q.1.mc) (slots + q.1.ms) Q (F0 m (pc + 3) A ((v.map gvV).toList ++ r.map gvV))) : W p l e R s m args below meth c H locs cells slots Q (F0 m pc A ((as.reverse ++ .inr (some a) :: r).map gvV)) := by
  have hm := gLk_in hq
  have hy : gGood q.1 := gSp_g o _ hm
  have hchk := List.all_eq_true.mp (gSp_k ho) _ hm
  simp only [gSpchk, Bool.and_eq_true, decide_eq_true_eq] at hchk
  obtain ⟨⟨⟨⟨hpn, hlk⟩, hst⟩, hnm⟩, hret⟩ := hchk
  have hst := hts _ (gH_in hst)
  obtain ⟨hc, hpl, hT, hcn, hini, hy1, hy2, hL, hO⟩ := id hy
  have hini := hts _ hini
  have hd : q.1.N.cls ≠ "java/lang/invoke/MethodHandle" ∧ q.1.N.cls ≠ "java/lang/invoke/VarHandle" ∧ (parseMethodDescriptor q.1.N.desc).map (fun d => d.parameters.length) = some q.2.1 := ⟨hy1, hy2, hpn⟩
  have hRm : (gRm d q.1).frames + 1 ≤ R.frames ∧ 8 + (q.1.L + 11) + (gRm d q.1).locals ≤ R.locals := ⟨hR.1, by show 8 + (q.1.L + 11) + 60 * d ≤ _; omega⟩
  have hstk : ((as.reverse ++ .inr (some a) :: r).map gvV) = (as.map gvV).reverse ++ .ref a :: r.map gvV := by rw [List.map_append, List.map_reverse]; rfl
  have hws : gWs q.1 = Cond.code q.1.N q.1.C q.1.L none :: gTs := by unfold gWs; rw [hret]
  have hpre : PreS s H (gPc D base (.inr (some a) :: as) h) (.ref a :: as.map gvV) := g_pre hK hA hbase hS
  cases hn : Nat.beq q.2.2.1 0 with
  | true =>
    simp only [hn, cond_true] at hlk
    refine g_call (va_runI (b := a) (As := as.map gvV) (rest := r.map gvV) (n := q.2.1) ⟨hx, hb, hml, hown, hts⟩ hM ⟨callB_of q.2.1 hts (g_in hy) hws rfl rfl hini (hts _ (gH_in hlk)) hd hRm, hnm, hst⟩ hpre rfl (by rw [List.length_map]; exact hlen) hls hstk (g_room hr) hdg hf) hS kk
  | false =>
    simp only [hn, cond_false] at hlk
    obtain ⟨z, hz1, hz2⟩ := List.any_eq_true.mp hlk
    have hz3 := of_decide_eq_true hz2
    subst hz3
    refine g_call (va_runIN (b := a) (As := as.map gvV) (rest := r.map gvV) (n := q.2.1) ⟨hx, hb, hml, hown, hts⟩ hM ⟨va_cnB q.2.1 hts (g_in hy) hws rfl rfl (hK.2.2.2.1 _ hz1) hini hd hRm, hnm, hst⟩ hpre rfl (by rw [List.length_map]; exact hlen) hls hstk (g_room hr) hdg hf) hS kk
theorem gHc_ok {x : MethodName} (h : gHc x = true) : ∃ b m r, Cond.code x b m r ∈ gTs := by
  obtain ⟨q, h1, h2⟩ := List.any_eq_true.mp h
  have e := of_decide_eq_true h2
  subst e
  exact ⟨_, _, _, gH_in (List.all_eq_true.mp gCds_k _ h1)⟩
theorem gs_virtual (hx : p.tables.exec = Jvm.exec) (hb : c.code = cc) (hml : c.maxLocals = nL) (hls : A.size = nL) (hts : ∀ w ∈ gTs, w.before args s = true) (ho : o < 15) (hown : s.vm.findClass (gCn o) = some m.cls) (hK : gK D s) (hA : gAt D base h H) (hS : va_S (fun q => base ≤ q) s.heap H locs) (hbase : base ≤ s.heap.size)
    {q : Nat × MethodName × Nat × List (Nat × gMeth × Nat × String × Nat × Nat × Nat × Nat)} {z : gMeth × Nat × String × Nat × Nat × Nat × Nat} {as r : List gv} {Qx : Option gv → gHp → Prop} (hq : gLk idx (gVts o) = some q) (hlen : as.length = q.1) (hr : r.length ≤ 8) (ht : gtag h a = some (tg, n)) (hz : gLk tg q.2.2.2 = some z) (hM : gMet l D base d z.1 (.inr (some a) :: as) h Qx) (hR : d + 1 ≤ R.frames ∧ 60 * (d + 1) ≤ R.locals) (hf : cells + z.1.mc ≤ R.cells ∧ slots + z.1.ms ≤ R.slots) (hdg : decode cc pc = .ok (.invokevirtual idx, 3))
    (kk : ∀ (v : Option gv) (h' : gHp) (H1 : Heap) (locs1 : List Loc), Qx v h' → gAt D base h' H1 → va_S (fun q => base ≤ q) s.heap H1 locs1 → W p l e R s m args below meth c H1 locs1 (cells + z.1.mc) (slots + z.1.ms) Q (F0 m (pc + 3) A ((v.map gvV).toList ++ r.map gvV))) : W p l e R s m args below meth c H locs cells slots Q (F0 m pc A ((as.reverse ++ .inr (some a) :: r).map gvV)) := by
  have hm := gLk_in hq
  have hzm := gLk_in hz
  have hy : gGood z.1 := gVt_g o _ hm _ hzm
  have hchk := List.all_eq_true.mp (gVt_k ho) _ hm
  simp only [gVtchk, Bool.and_eq_true, decide_eq_true_eq] at hchk
  obtain ⟨⟨hpn, hlk⟩, hall⟩ := hchk
  have hzc := List.all_eq_true.mp hall _ hzm
  simp only [Bool.and_eq_true] at hzc
  obtain ⟨⟨⟨hlt9, hsel⟩, hins⟩, hkind⟩ := hzc
  have hlt9 : tg < 11 := of_decide_eq_true hlt9
  have hsel := hts _ (gH_in hsel)
  have hins := hts _ (gH_in hins)
  have hlk := hts _ (gH_in hlk)
  obtain ⟨hc, hpl, hT, hcn, hini, hy1, hy2, hL, hO⟩ := id hy
  have hini := hts _ hini
  have hRm : (gRm d z.1).frames + 1 ≤ R.frames ∧ 8 + (z.1.L + 11) + (gRm d z.1).locals ≤ R.locals := ⟨hR.1, by show 8 + (z.1.L + 11) + 60 * d ≤ _; omega⟩
  have hstk : ((as.reverse ++ .inr (some a) :: r).map gvV) = (as.map gvV).reverse ++ .ref a :: r.map gvV := by rw [List.map_append, List.map_reverse]; rfl
  have hr1 : ∃ rr, gC[tg]? = some rr ∧ gcn0 tg = rr.1 := by
    have hr0 : gC[tg]? = some (gC[tg]'hlt9) := List.getElem?_eq_getElem hlt9
    exact ⟨_, hr0, by unfold gcn0; rw [List.getD_eq_getElem?_getD, hr0]; rfl⟩
  obtain ⟨rr, hrr, hcn0⟩ := hr1
  rw [hcn0] at hsel hkind
  have hpre : PreV s H rr.1 a (gPc D base (.inr (some a) :: as) h) (as.map gvV) := ⟨gPc.blind, g_recv hK hA ht hrr, (g_pre (as := .inr (some a) :: as) hK hA hbase hS).2⟩
  cases hn : Nat.beq z.2.1 0 with
  | true =>
    simp only [hn, cond_true, Bool.and_eq_true, decide_eq_true_eq] at hkind
    have e1 := hkind.1
    rw [e1] at hlk hpn hsel
    have hd : z.1.N.cls ≠ "java/lang/invoke/MethodHandle" ∧ z.1.N.cls ≠ "java/lang/invoke/VarHandle" ∧ (parseMethodDescriptor z.1.N.desc).map (fun d => d.parameters.length) = some q.1 := ⟨hy1, hy2, hpn⟩
    exact g_call (va_runV (b := a) (As := as.map gvV) (rest := r.map gvV) (n := q.1) ⟨hx, hb, hml, hown, hts⟩ hM ⟨callB_of q.1 hts (g_in hy) rfl rfl rfl hini hlk hd hRm, hins, hsel⟩ hpre rfl (by rw [List.length_map]; exact hlen) hls hstk (g_room hr) hdg hf) hS kk
  | false =>
    simp only [hn, cond_false, Bool.and_eq_true, decide_eq_true_eq] at hkind
    obtain ⟨⟨⟨hsm, hmh1⟩, hmh2⟩, hdk⟩ := hkind
    have hcw : Cond.code z.1.N z.1.C z.1.L z.1.R ∈ gWs z.1 := List.mem_cons_self
    have hdecl : va_Decl s ⟨z.2.2.1, q.2.1.name, q.2.1.desc⟩ := by
      cases hn2 : Nat.beq z.2.1 1 with
      | true =>
        simp only [hn2, cond_true, Bool.and_eq_true] at hdk
        obtain ⟨b0, m0, r0, h0⟩ := gHc_ok hdk.2
        exact va_Decl.of (hts _ (gH_in hdk.1)) (hts _ h0)
      | false =>
        simp only [hn2, cond_false] at hdk
        obtain ⟨dd, hd1, hd2⟩ := List.any_eq_true.mp hdk
        have := of_decide_eq_true hd2
        subst this
        exact va_Decl.abs (hK.2.2.2.2.1 _ hd1)
    refine g_call (va_runU (C := rr.1) (owner := z.2.2.1) (x := q.2.1) (b := a) (As := as.map gvV) (rest := r.map gvV) (n := q.1) (bytes := z.1.C) (maxL := z.1.L) (ret := z.1.R) ⟨hx, hb, hml, hown, hts⟩ hM ⟨⟨rfl, rfl, hRm.1, hRm.2, pay_in hts (g_in hy), hcw⟩, hts _ hc, hini, ⟨hmh1, hmh2⟩, fun sig hs => ?_, hlk, hts _ (gH_in hsm), hdecl, hsel, hins⟩ hpre rfl (by rw [List.length_map]; exact hlen) hls hstk (g_room hr) hdg hf) hS kk
    have h2 : (parseMethodDescriptor q.2.1.desc).map (fun d => d.parameters.length) = some q.1 := hpn
    rw [hs] at h2
    exact (Option.some.inj h2).symm
end GC
