/-! ===== a whole frame: what the abstract machine says, the machine does ===== -/
theorem gDec {y : gMeth} {pc : Nat} {i : Instr} {len : Nat} (hdec : y.T.all (fun q => decide (decode y.C q.1 = .ok q.2)) = true) (hi : gLk pc y.T = some (i, len)) : decode y.C pc = .ok (i, len) := by
  have h9 := List.all_eq_true.mp hdec _ (gLk_in hi)
  simpa using h9
set_option maxHeartbeats 4000000 in
set_option maxRecDepth 100000 in
theorem g_frame {p : Program} {l : Launch} {e : Env} {R : Room} {s : State} {m : MethodId} {args : Array Value} {below : List Frame} {meth : Method} {c : Code} {QQ : State → Prop} {D : gD} {base d : Nat} {y : gMeth} {Qx : Option gv → gHp → Prop}
    (hx : p.tables.exec = Jvm.exec) (hb : c.code = y.C) (hml : c.maxLocals = y.L) (hts : ∀ w ∈ gTs, w.before args s = true) (ho : y.O < 15) (hown : s.vm.findClass (gCn y.O) = some m.cls) (hK : gK D s) (hbase : base ≤ s.heap.size) (hdec : y.T.all (fun q => decide (decode y.C q.1 = .ok q.2)) = true) (hini : y.N.name = "<init>" → meth.name = "<init>") (hR1 : y.mc ≤ R.cells) (hR2 : y.ms ≤ R.slots) (hR : d + 1 ≤ R.frames ∧ 60 * (d + 1) ≤ R.locals)
    (hcall : ∀ (y' : gMeth) (as : List gv) (h : gHp) (Q' : Option gv → gHp → Prop), gGood y' → gCall d y' as h Q' → gMet l D base d y' as h Q')
    (fin : ∀ (v : Option gv) (h : gHp) (H : Heap) (locs : List Loc) (A : Array Slot) (pc : Nat) (i : Instr) (cc ss : Nat), Qx v h → gAt D base h H → va_S (fun q => base ≤ q) s.heap H locs → cc ≤ y.mc → ss ≤ y.ms → decode y.C pc = .ok (i, 1) → ((i = .return_ ∧ v = none ∧ y.R = none) ∨ (i = .ireturn ∧ ∃ x, v = some (.inl x) ∧ gNarR y.R x) ∨ (i = .areturn ∧ ∃ o, v = some (.inr o) ∧ gRefR y.R)) → W p l e R s m args below meth c H locs cc ss QQ (F0 m pc A ((v.map gvV).toList)))
    {pc : Nat} {ls : List (Option gv)} {st : List gv} {h : gHp} {cc ss : Nat} (hw : gWP (gCall d) y Qx pc ls st h cc ss) :
    ∀ (H : Heap) (locs : List Loc) (A : Array Slot), gAt D base h H → gLs A y.L ls → va_S (fun q => base ≤ q) s.heap H locs → W p l e R s m args below meth c H locs cc ss QQ (F0 m pc A (st.map gvV)) := by
  refine hw (fun pc ls st h cc ss => ∀ (H : Heap) (locs : List Loc) (A : Array Slot), gAt D base h H → gLs A y.L ls → va_S (fun q => base ≤ q) s.heap H locs → W p l e R s m args below meth c H locs cc ss QQ (F0 m pc A (st.map gvV))) ?_
  intro P' hsub pc ls st h cc ss hstep H locs A hA hl hS
  obtain ⟨i, len, hi, hlen, hd⟩ := hstep
  have hdg : decode y.C pc = .ok (i, len) := gDec hdec hi
  have hR9 : 1 ≤ R.frames ∧ 60 ≤ R.locals := ⟨by omega, by omega⟩
  have one : ∀ {z : Nat}, (len = z ∨ z = 0) → z ≠ 0 → len = z := fun a b => a.elim id (fun q => absurd q b)
  have hls : A.size = y.L := hl.1
  cases i with
  | aconst_null =>
    cases one hlen (Nat.succ_ne_zero _)
    exact lv_null hx hb hdg (hsub _ _ _ _ _ _ hd H locs A hA hl hS)
  | iconst n =>
    cases one hlen (Nat.succ_ne_zero _)
    exact lv_iconst hx hb hdg rfl (hsub _ _ _ _ _ _ hd H locs A hA hl hS)
  | bipush n =>
    cases one hlen (Nat.succ_ne_zero _)
    exact lv_bipush hx hb hdg rfl (hsub _ _ _ _ _ _ hd H locs A hA hl hS)
  | sipush n =>
    cases one hlen (Nat.succ_ne_zero _)
    exact lv_sipush hx hb hdg rfl (hsub _ _ _ _ _ _ hd H locs A hA hl hS)
  | ldc idx =>
    cases one hlen (Nat.succ_ne_zero _)
    obtain ⟨v, hv, hd⟩ := hd
    exact lv_ldc hx hb hown (hts _ (gCst_ok hv)) hdg (hsub _ _ _ _ _ _ hd H locs A hA hl hS)
  | iload_n k =>
    cases one hlen (Nat.succ_ne_zero _)
    obtain ⟨x, hx1, hd⟩ := hd
    exact lv_iload_n hx hb hdg rfl (hl.2.2.2 _ _ hx1) (hsub _ _ _ _ _ _ hd H locs A hA hl hS)
  | iload k =>
    cases one hlen (Nat.succ_ne_zero _)
    obtain ⟨x, hx1, hd⟩ := hd
    exact lv_iload hx hb hdg (hl.2.2.2 _ _ hx1) (hsub _ _ _ _ _ _ hd H locs A hA hl hS)
  | aload_n k =>
    cases one hlen (Nat.succ_ne_zero _)
    obtain ⟨o, hx1, hd⟩ := hd
    cases o with
    | none => exact lv_aload_nN hx hb hdg rfl (hl.2.2.2 _ _ hx1) (hsub _ _ _ _ _ _ hd H locs A hA hl hS)
    | some x => exact lv_aload_n hx hb hdg rfl (hl.2.2.2 _ _ hx1) (hsub _ _ _ _ _ _ hd H locs A hA hl hS)
  | aload k =>
    cases one hlen (Nat.succ_ne_zero _)
    obtain ⟨o, hx1, hd⟩ := hd
    cases o with
    | none => exact lv_aloadN hx hb hdg (hl.2.2.2 _ _ hx1) (hsub _ _ _ _ _ _ hd H locs A hA hl hS)
    | some x => exact lv_aload hx hb hdg (hl.2.2.2 _ _ hx1) (hsub _ _ _ _ _ _ hd H locs A hA hl hS)
  | istore_n k =>
    cases one hlen (Nat.succ_ne_zero _)
    obtain ⟨x, r, rfl, hk, hd⟩ := hd
    have hk : k.val < y.L := by rw [← hl.2.2.1]; exact hk
    exact lv_istore_n hx hb hdg rfl hl.has hk rfl (fun A' h' => hsub _ _ _ _ _ _ hd H locs A' hA (gLs.back (v := .inl x) hl.2.2.1 hk h') hS)
  | istore k =>
    cases one hlen (Nat.succ_ne_zero _)
    obtain ⟨x, r, rfl, hk, hd⟩ := hd
    have hk : k < y.L := by rw [← hl.2.2.1]; exact hk
    exact lv_istore hx hb hdg hl.has hk rfl (fun A' h' => hsub _ _ _ _ _ _ hd H locs A' hA (gLs.back (v := .inl x) hl.2.2.1 hk h') hS)
  | astore_n k =>
    cases one hlen (Nat.succ_ne_zero _)
    obtain ⟨o, r, rfl, hk, hd⟩ := hd
    have hk : k.val < y.L := by rw [← hl.2.2.1]; exact hk
    cases o with
    | none => exact lv_astore_nN hx hb hdg rfl hl.has hk rfl (fun A' h' => hsub _ _ _ _ _ _ hd H locs A' hA (gLs.back (v := .inr none) hl.2.2.1 hk h') hS)
    | some x => exact lv_astore_n hx hb hdg rfl hl.has hk rfl (fun A' h' => hsub _ _ _ _ _ _ hd H locs A' hA (gLs.back (v := .inr (some x)) hl.2.2.1 hk h') hS)
  | astore k =>
    cases one hlen (Nat.succ_ne_zero _)
    obtain ⟨o, r, rfl, hk, hd⟩ := hd
    have hk : k < y.L := by rw [← hl.2.2.1]; exact hk
    cases o with
    | none => exact lv_astoreN hx hb hdg hl.has hk rfl (fun A' h' => hsub _ _ _ _ _ _ hd H locs A' hA (gLs.back (v := .inr none) hl.2.2.1 hk h') hS)
    | some x => exact lv_astore hx hb hdg hl.has hk rfl (fun A' h' => hsub _ _ _ _ _ _ hd H locs A' hA (gLs.back (v := .inr (some x)) hl.2.2.1 hk h') hS)
  | iinc k n =>
    cases one hlen (Nat.succ_ne_zero _)
    obtain ⟨x, hx1, hd⟩ := hd
    obtain ⟨j, hj⟩ := List.getElem?_of_mem (gLv_mem hx1)
    have hk : k < y.L := by rw [← hl.2.2.1]; exact (List.getElem?_eq_some_iff.mp hx1).1
    exact lv_iinc hx hb hdg hl.has hj rfl hk rfl (fun A' h' => hsub _ _ _ _ _ _ hd H locs A' hA (gLs.back (v := .inl (x + Int32.ofInt n)) hl.2.2.1 hk h') hS)
  | iadd =>
    cases one hlen (Nat.succ_ne_zero _)
    obtain ⟨a, b, r, rfl, hd⟩ := hd
    exact lv_iadd hx hb hdg (hsub _ _ _ _ _ _ hd H locs A hA hl hS)
  | isub =>
    cases one hlen (Nat.succ_ne_zero _)
    obtain ⟨a, b, r, rfl, hd⟩ := hd
    exact lv_isub hx hb hdg (hsub _ _ _ _ _ _ hd H locs A hA hl hS)
  | imul =>
    cases one hlen (Nat.succ_ne_zero _)
    obtain ⟨a, b, r, rfl, hd⟩ := hd
    exact lv_imul hx hb hdg (hsub _ _ _ _ _ _ hd H locs A hA hl hS)
  | iand =>
    cases one hlen (Nat.succ_ne_zero _)
    obtain ⟨a, b, r, rfl, hd⟩ := hd
    exact lv_iand hx hb hdg (hsub _ _ _ _ _ _ hd H locs A hA hl hS)
  | ior =>
    cases one hlen (Nat.succ_ne_zero _)
    obtain ⟨a, b, r, rfl, hd⟩ := hd
    exact lv_ior hx hb hdg (hsub _ _ _ _ _ _ hd H locs A hA hl hS)
  | ixor =>
    cases one hlen (Nat.succ_ne_zero _)
    obtain ⟨a, b, r, rfl, hd⟩ := hd
    exact lv_ixor hx hb hdg (hsub _ _ _ _ _ _ hd H locs A hA hl hS)
  | ishl =>
    cases one hlen (Nat.succ_ne_zero _)
    obtain ⟨a, b, r, rfl, hd⟩ := hd
    exact lv_ishl hx hb hdg (hsub _ _ _ _ _ _ hd H locs A hA hl hS)
  | ishr =>
    cases one hlen (Nat.succ_ne_zero _)
    obtain ⟨a, b, r, rfl, hd⟩ := hd
    exact lv_ishr hx hb hdg (hsub _ _ _ _ _ _ hd H locs A hA hl hS)
  | idiv =>
    cases one hlen (Nat.succ_ne_zero _)
    obtain ⟨a, b, r, rfl, hne, hd⟩ := hd
    exact lv_idiv hx hb hdg hne (hsub _ _ _ _ _ _ hd H locs A hA hl hS)
  | irem =>
    cases one hlen (Nat.succ_ne_zero _)
    obtain ⟨a, b, r, rfl, hne, hd⟩ := hd
    exact lv_irem hx hb hdg hne (hsub _ _ _ _ _ _ hd H locs A hA hl hS)
  | dup =>
    cases one hlen (Nat.succ_ne_zero _)
    obtain ⟨v, r, rfl, hd⟩ := hd
    exact lv_dup hx hb hdg (gvV_cat v) (hsub _ _ _ _ _ _ hd H locs A hA hl hS)
  | dup2 =>
    cases one hlen (Nat.succ_ne_zero _)
    obtain ⟨v, w, r, rfl, hd⟩ := hd
    exact lv_dup2_11 hx hb hdg (gvV_cat v) (gvV_cat w) (hsub _ _ _ _ _ _ hd H locs A hA hl hS)
  | pop =>
    cases one hlen (Nat.succ_ne_zero _)
    obtain ⟨v, r, rfl, hd⟩ := hd
    exact lv_pop hx hb hdg (gvV_cat v) (hsub _ _ _ _ _ _ hd H locs A hA hl hS)
  | ifCond cd off =>
    cases one hlen (Nat.succ_ne_zero _)
    obtain ⟨x, r, t, rfl, ht, hd1, hd2⟩ := hd
    cases cd with
    | eq => exact lv_if_eq hx hb hdg ht (fun q => hsub _ _ _ _ _ _ (hd1 q) H locs A hA hl hS) (fun q => hsub _ _ _ _ _ _ (hd2 q) H locs A hA hl hS)
    | ne => exact lv_if_ne hx hb hdg ht (fun q => hsub _ _ _ _ _ _ (hd1 q) H locs A hA hl hS) (fun q => hsub _ _ _ _ _ _ (hd2 (fun z => z q)) H locs A hA hl hS)
    | lt => exact lv_if_lt hx hb hdg ht (fun q => hsub _ _ _ _ _ _ (hd1 q) H locs A hA hl hS) (fun q => hsub _ _ _ _ _ _ (hd2 q) H locs A hA hl hS)
    | ge => exact lv_if_ge hx hb hdg ht (fun q => hsub _ _ _ _ _ _ (hd1 q) H locs A hA hl hS) (fun q => hsub _ _ _ _ _ _ (hd2 q) H locs A hA hl hS)
    | gt => exact lv_if_gt hx hb hdg ht (fun q => hsub _ _ _ _ _ _ (hd1 q) H locs A hA hl hS) (fun q => hsub _ _ _ _ _ _ (hd2 q) H locs A hA hl hS)
    | le => exact lv_if_le hx hb hdg ht (fun q => hsub _ _ _ _ _ _ (hd1 q) H locs A hA hl hS) (fun q => hsub _ _ _ _ _ _ (hd2 q) H locs A hA hl hS)
  | if_icmp cd off =>
    cases one hlen (Nat.succ_ne_zero _)
    obtain ⟨a, b, r, t, rfl, ht, hd1, hd2⟩ := hd
    cases cd with
    | eq => exact lv_icmp_eq hx hb hdg ht (fun q => hsub _ _ _ _ _ _ (hd1 q) H locs A hA hl hS) (fun q => hsub _ _ _ _ _ _ (hd2 q) H locs A hA hl hS)
    | ne => exact lv_icmp_ne hx hb hdg ht (fun q => hsub _ _ _ _ _ _ (hd1 q) H locs A hA hl hS) (fun q => hsub _ _ _ _ _ _ (hd2 (fun z => z q)) H locs A hA hl hS)
    | lt => exact lv_icmp_lt hx hb hdg ht (fun q => hsub _ _ _ _ _ _ (hd1 q) H locs A hA hl hS) (fun q => hsub _ _ _ _ _ _ (hd2 q) H locs A hA hl hS)
    | ge => exact lv_icmp_ge hx hb hdg ht (fun q => hsub _ _ _ _ _ _ (hd1 q) H locs A hA hl hS) (fun q => hsub _ _ _ _ _ _ (hd2 q) H locs A hA hl hS)
    | gt => exact lv_icmp_gt hx hb hdg ht (fun q => hsub _ _ _ _ _ _ (hd1 q) H locs A hA hl hS) (fun q => hsub _ _ _ _ _ _ (hd2 q) H locs A hA hl hS)
    | le => exact lv_icmp_le hx hb hdg ht (fun q => hsub _ _ _ _ _ _ (hd1 q) H locs A hA hl hS) (fun q => hsub _ _ _ _ _ _ (hd2 q) H locs A hA hl hS)
  | if_acmp cd off =>
    cases one hlen (Nat.succ_ne_zero _)
    cases cd with
    | eq =>
      obtain ⟨a, b, r, t, rfl, ht, hd1, hd2⟩ := hd
      exact lv_acmp_eq (rx := a) (ry := b) hx hb hdg ht (fun q => hsub _ _ _ _ _ _ (hd1 q) H locs A hA hl hS) (fun q => hsub _ _ _ _ _ _ (hd2 q) H locs A hA hl hS)
    | ne =>
      obtain ⟨a, b, r, t, rfl, ht, hd1, hd2⟩ := hd
      exact lv_acmp_ne (rx := a) (ry := b) hx hb hdg ht (fun q => hsub _ _ _ _ _ _ (hd1 q) H locs A hA hl hS) (fun q => hsub _ _ _ _ _ _ (hd2 q) H locs A hA hl hS)
  | ifnull off =>
    cases one hlen (Nat.succ_ne_zero _)
    obtain ⟨o, r, t, rfl, ht, hd1, hd2⟩ := hd
    cases o with
    | none => exact lv_ifnullN hx hb hdg ht (hsub _ _ _ _ _ _ (hd1 rfl) H locs A hA hl hS)
    | some x => exact lv_ifnull hx hb hdg (hsub _ _ _ _ _ _ (hd2 (fun q => by cases q)) H locs A hA hl hS)
  | ifnonnull off =>
    cases one hlen (Nat.succ_ne_zero _)
    obtain ⟨o, r, t, rfl, ht, hd1, hd2⟩ := hd
    cases o with
    | none => exact lv_ifnonnullN hx hb hdg (hsub _ _ _ _ _ _ (hd2 rfl) H locs A hA hl hS)
    | some x => exact lv_ifnonnull hx hb hdg ht (hsub _ _ _ _ _ _ (hd1 (fun q => by cases q)) H locs A hA hl hS)
  | goto off =>
    cases one hlen (Nat.succ_ne_zero _)
    obtain ⟨t, ht, hd⟩ := hd
    exact lv_goto hx hb hdg ht (hsub _ _ _ _ _ _ hd H locs A hA hl hS)
  | tableswitch dflt lo hh offs =>
    obtain ⟨x, r, rfl, hd1, hd2⟩ := hd
    by_cases hr : x.toInt < lo ∨ hh < x.toInt
    · obtain ⟨t, ht, hd⟩ := hd1 hr
      exact lv_tableOut hx hb hdg hr ht (hsub _ _ _ _ _ _ hd H locs A hA hl hS)
    · obtain ⟨off, t, hof, ht, hd⟩ := hd2 (fun q => hr (Or.inl q)) (fun q => hr (Or.inr q))
      exact lv_tableIn hx hb hdg (fun q => hr (Or.inl q)) (fun q => hr (Or.inr q)) hof ht (hsub _ _ _ _ _ _ hd H locs A hA hl hS)
  | lookupswitch dflt ps =>
    obtain ⟨x, r, off, t, rfl, hp, hof, ht, hd⟩ := hd
    exact lv_lookup hx hb hdg hp hof ht (hsub _ _ _ _ _ _ hd H locs A hA hl hS)
  | getfield idx =>
    cases one hlen (Nat.succ_ne_zero _)
    obtain ⟨a, r, tg, n, k, rfl, ht, hf, hd⟩ := hd
    exact gs_get hx hb hts ho hown hK hA ht hf hdg (hsub _ _ _ _ _ _ hd H locs A hA hl hS)
  | putfield idx =>
    cases one hlen (Nat.succ_ne_zero _)
    obtain ⟨v, a, r, tg, n, k, rfl, ht, hf, hfin, hd1, hd2⟩ := hd
    have hfin2 : ∀ rr : vw_C, gC[tg]? = some rr → (rr.2.1 k).2.2.2 = false ∨ (meth.name = "<init>" ∧ (rr.2.1 k).1 = gCn y.O) := by
      intro rr hrr
      unfold gFin at hfin
      rw [hrr] at hfin
      simp only [Bool.or_eq_true, Bool.and_eq_true, decide_eq_true_eq, Bool.not_eq_true'] at hfin
      rcases hfin with q | q
      · exact Or.inl q
      · exact Or.inr ⟨hini q.1, q.2⟩
    cases hrf : gisR (gTy tg k) with
    | true =>
      obtain ⟨o, rfl, hd⟩ := hd1 hrf
      refine gs_put (v := va_rf o) (h' := gsetR h a k o) hx hb hts ho hown hK hA hS ht hf hfin2 ?_ ?_ (fun _ => rfl) (fun _ _ _ => rfl) (fun b j hne => if_neg (fun q => hne q.1)) ?_ hdg (fun H1 locs1 hA1 hS1 => hsub _ _ _ _ _ _ hd H1 locs1 A hA1 hl hS1)
      · generalize gTy tg k = ty at hrf
        cases ty <;> first | (cases o <;> rfl) | cases hrf
      · generalize gTy tg k = ty at hrf
        cases ty <;> first | (cases o <;> rfl) | cases hrf
      · intro j
        by_cases hj : j = k
        · subst hj
          simp [updV, gval, hrf, gref_setR, gvV]
        · simp [updV, gval, hj, gref_setR, gint_setR]
    | false =>
      obtain ⟨x, rfl, hnar, hd⟩ := hd2 hrf
      refine gs_put (v := .int x) (h' := gsetI h a k x) hx hb hts ho hown hK hA hS ht hf hfin2 hnar.1 hnar.2 (fun _ => rfl) (fun b j hne => if_neg (fun q => hne q.1)) (fun _ _ _ => rfl) ?_ hdg (fun H1 locs1 hA1 hS1 => hsub _ _ _ _ _ _ hd H1 locs1 A hA1 hl hS1)
      intro j
      by_cases hj : j = k
      · subst hj
        simp [updV, gval, hrf, gint_setI, gvV]
      · simp [updV, gval, hj, gref_setI, gint_setI]
  | arraylength =>
    cases one hlen (Nat.succ_ne_zero _)
    obtain ⟨a, r, tg, n, rfl, ht, h1, h2, hd⟩ := hd
    exact gs_len hx hb hK hA ht h1 h2 hdg (hsub _ _ _ _ _ _ hd H locs A hA hl hS)
  | iaload =>
    cases one hlen (Nat.succ_ne_zero _)
    obtain ⟨a, j, r, tg, n, rfl, ht, h1, h2, hd⟩ := hd
    exact gs_iald hx hb hK hA ht h1 h2 hdg (hsub _ _ _ _ _ _ hd H locs A hA hl hS)
  | baload =>
    cases one hlen (Nat.succ_ne_zero _)
    obtain ⟨a, j, r, n, rfl, ht, h2, hd⟩ := hd
    exact gs_zald hx hb hK hA ht h2 hdg (hsub _ _ _ _ _ _ hd H locs A hA hl hS)
  | aaload =>
    cases one hlen (Nat.succ_ne_zero _)
    obtain ⟨a, j, r, tg, n, rfl, ht, h1, h2, hd⟩ := hd
    exact gs_aald hx hb hK hA ht h1 h2 hdg (hsub _ _ _ _ _ _ hd H locs A hA hl hS)
  | iastore =>
    cases one hlen (Nat.succ_ne_zero _)
    obtain ⟨a, j, x, r, n, rfl, ht, h2, hd⟩ := hd
    exact gs_iast hx hb hK hA hS ht h2 hdg (fun H1 locs1 hA1 hS1 => hsub _ _ _ _ _ _ hd H1 locs1 A hA1 hl hS1)
  | bastore =>
    cases one hlen (Nat.succ_ne_zero _)
    obtain ⟨a, j, x, r, n, rfl, ht, h2, h3, hd⟩ := hd
    exact gs_zast hx hb hK hA hS ht h2 h3 hdg (fun H1 locs1 hA1 hS1 => hsub _ _ _ _ _ _ hd H1 locs1 A hA1 hl hS1)
  | aastore =>
    cases one hlen (Nat.succ_ne_zero _)
    obtain ⟨a, j, o, r, n, rfl, ht, h2, h3, hd⟩ := hd
    exact gs_aast (x := o) hx hb hK hA hS ht h2 h3 hdg (fun H1 locs1 hA1 hS1 => hsub _ _ _ _ _ _ hd H1 locs1 A hA1 hl hS1)
  | newarray ty =>
    cases one hlen (Nat.succ_ne_zero _)
    obtain ⟨j, r, tg, rfl, h0, h1, hty, hc, hs, hd⟩ := hd
    exact gs_newa hx hb hts hK hA hS hbase hty h0 h1 (by omega) (by omega) hdg (fun q H1 hq hA1 hS1 => hsub _ _ _ _ _ _ (hd q hq) H1 locs A hA1 hl hS1)
  | anewarray idx =>
    cases one hlen (Nat.succ_ne_zero _)
    obtain ⟨j, r, rfl, h0, h1, hck, hc, hs, hd⟩ := hd
    exact gs_newq hx hb hts ho hown hK hA hS hbase hck h0 h1 (by omega) (by omega) hdg (fun q H1 hq hA1 hS1 => hsub _ _ _ _ _ _ (hd q hq) H1 locs A hA1 hl hS1)
  | multianewarray idx dm =>
    cases one hlen (Nat.succ_ne_zero _)
    obtain ⟨j, k, r, rfl, rfl, h0, h1, h2, h3, hck, hc, hs, hd⟩ := hd
    exact gs_multi hx hb hts ho hown hK hA hS hbase hck h0 h1 h2 h3 (by omega) (by omega) hdg (fun q H1 hq hA1 hS1 => hsub _ _ _ _ _ _ (hd q hq) H1 locs A hA1 hl hS1)
  | new idx =>
    cases one hlen (Nat.succ_ne_zero _)
    obtain ⟨C, tg, r, hck, htg, hr, hc, hs, hd⟩ := hd
    exact gs_new hx hb hts ho hown hK hA hS hbase hck htg hr (by omega) (by omega) hdg (fun q H1 hq hA1 hS1 => hsub _ _ _ _ _ _ (hd q hq) H1 locs A hA1 hl hS1)
  | checkcast idx =>
    cases one hlen (Nat.succ_ne_zero _)
    obtain ⟨C, o, r, hck, rfl, hv, hd⟩ := hd
    exact gs_cast (x := o) hx hb hts ho hown hK hA hck hv hdg (hsub _ _ _ _ _ _ hd H locs A hA hl hS)
  | instanceof idx =>
    cases one hlen (Nat.succ_ne_zero _)
    obtain ⟨C, o, r, hck, rfl, hn, hv⟩ := hd
    refine gs_inst (x := o) hx hb hts ho hown hK hA hck hdg (fun q => hsub _ _ _ _ _ _ (hn q) H locs A hA hl hS) (fun b hb9 => ?_)
    obtain ⟨tg, n, v, h1, h2, hd⟩ := hv b hb9
    exact ⟨tg, n, v, h1, h2, hsub _ _ _ _ _ _ hd H locs A hA hl hS⟩
  | invokestatic idx =>
    cases one hlen (Nat.succ_ne_zero _)
    rcases hd with ⟨q, as, r, hq, rfl, hln, hr, hc, hs, hd⟩ | ⟨a, b, sp, dp, n, r, n0, n1, hq, rfl, hr, hta, htb, h1, h2, h3, h4, h5, hd⟩ | ⟨k, a, b, r, hq, rfl, hr, hc, hs, hd⟩
    · have hy : gGood q.1 := gSt_g y.O _ (gLk_in hq)
      refine gs_static hx hb hml hls hts ho hown hK hA hS hbase hq hln hr (hcall _ _ _ _ hy hd) hR ⟨by omega, by omega⟩ hdg (fun v h' H1 locs1 hv hA1 hS1 => ?_)
      have := hsub _ _ _ _ _ _ hv H1 locs1 A hA1 hl hS1
      rw [List.map_append] at this
      cases v <;> exact this
    · exact gs_cpy hx hb (hml.trans hls.symm) hts hown hK hA hS hq hr hR9 hta htb h1 h2 h3 h4 h5 hdg (fun H1 locs1 hA1 hS1 => hsub _ _ _ _ _ _ hd H1 locs1 A hA1 hl hS1)
    · exact gs_math hx hb (hml.trans hls.symm) hts hown hq hr hR9 (by omega) (by omega) hdg (hsub _ _ _ _ _ _ hd H locs A hA hl hS)
  | invokespecial idx =>
    cases one hlen (Nat.succ_ne_zero _)
    rcases hd with ⟨q, a, as, r, hq, rfl, hln, hr, hc, hs, hd⟩ | ⟨a, r, hq, rfl, hr, hd⟩
    · have hy : gGood q.1 := gSp_g y.O _ (gLk_in hq)
      refine gs_special hx hb hml hls hts ho hown hK hA hS hbase hq hln hr (hcall _ _ _ _ hy hd) hR ⟨by omega, by omega⟩ hdg (fun v h' H1 locs1 hv hA1 hS1 => ?_)
      have := hsub _ _ _ _ _ _ hv H1 locs1 A hA1 hl hS1
      rw [List.map_append] at this
      cases v <;> exact this
    · exact gs_obj hx hb (hls.trans hml.symm) hts hown hq hr hR9 hdg (hsub _ _ _ _ _ _ hd H locs A hA hl hS)
  | invokevirtual idx =>
    cases one hlen (Nat.succ_ne_zero _)
    obtain ⟨q, a, as, r, tg, n, z, hq, rfl, hln, hr, ht, hz, hc, hs, hd⟩ := hd
    have hy : gGood z.1 := gVt_g y.O _ (gLk_in hq) _ (gLk_in hz)
    refine gs_virtual hx hb hml hls hts ho hown hK hA hS hbase hq hln hr ht hz (hcall _ _ _ _ hy hd) hR ⟨by omega, by omega⟩ hdg (fun v h' H1 locs1 hv hA1 hS1 => ?_)
    have := hsub _ _ _ _ _ _ hv H1 locs1 A hA1 hl hS1
    rw [List.map_append] at this
    cases v <;> exact this
  | ireturn =>
    cases one hlen (Nat.succ_ne_zero _)
    obtain ⟨x, rfl, hn, hq, hc, hs⟩ := hd
    exact fin (some (.inl x)) h H locs A pc _ cc ss hq hA hS hc hs hdg (Or.inr (Or.inl ⟨rfl, x, rfl, hn⟩))
  | areturn =>
    cases one hlen (Nat.succ_ne_zero _)
    obtain ⟨o, rfl, hn, hq, hc, hs⟩ := hd
    exact fin (some (.inr o)) h H locs A pc _ cc ss hq hA hS hc hs hdg (Or.inr (Or.inr ⟨rfl, o, rfl, hn⟩))
  | return_ =>
    cases one hlen (Nat.succ_ne_zero _)
    obtain ⟨rfl, hn, hq, hc, hs⟩ := hd
    exact fin none h H locs A pc _ cc ss hq hA hS hc hs hdg (Or.inl ⟨rfl, rfl, hn⟩)
  | _ => exact False.elim hd
