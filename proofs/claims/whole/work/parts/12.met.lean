/-! ===== every method's contract out of the abstract machine ===== -/
set_option maxHeartbeats 4000000 in
theorem g_met (l : Launch) (D : gD) (base : Nat) : ∀ (d : Nat) (y : gMeth) (as : List gv) (h : gHp) (Qx : Option gv → gHp → Prop), gGood y → gCall d y as h Qx → gMet l D base d y as h Qx := by
  intro d
  induction d with
  | zero =>
    intro y as h Qx _ hc
    exact False.elim hc
  | succ d ih =>
    intro y as h Qx hy hc
    obtain ⟨hlen, hw⟩ := hc
    obtain ⟨hcode, hpl, hdec, hcn, hini, -, -, hL, hO⟩ := hy
    refine Met.ofW (cc := y.C) (maxL := y.L) (ret := y.R) hpl rfl ?_
    intro p e s m args below meth c s₁ B hml hv
    obtain ⟨rfl, hA, hK, hbase⟩ := hv
    have hx := B.exec
    have hb := B.bytes
    have hr := B.returns
    have hts0 := atoms_spec (ws := gWs y) B.pre
    have hts : ∀ w ∈ gTs, w.before (as.map gvV).toArray s = true := fun w hw => hts0 w (List.mem_cons_of_mem _ hw)
    have hown : s.vm.findClass y.N.cls = some m.cls := findClass_of_methodNamed B.named
    have hlocks := B.notSynchronized
    have hin : meth.name = y.N.name := (name_of_methodNamed B.named B.method).1
    have hl := gLs.entry y as hlen
    rw [lg_entry_eq]
    refine g_frame (R := (headSpec (gWs y) (gRm (d + 1) y)).room) (d := d) hx hb hml hts hO (by rw [← hcn]; exact hown) hK hbase hdec (fun q => hin.trans q) (Nat.le_refl _) (Nat.le_refl _) ⟨Nat.le_refl _, Nat.le_refl _⟩ ih ?_ hw s.heap [] _ hA hl va_S.rf
    intro v h H locs A pc i cc ss hq hA hS hc hs hdg hi
    refine W.widen hc hs ?_
    rcases hi with ⟨rfl, rfl, hR⟩ | ⟨rfl, x, rfl, ty, hty, hn, hnr⟩ | ⟨rfl, o, rfl, ty, hty, hrf⟩
    · exact W.vret hx hb (hr.trans hR) (fun t ht hW => ⟨⟨none, h, rfl, by rw [ht]; exact hA, hq⟩, hS.F ht⟩) hS.2.2 hdg
    · exact W.zret hx hb (hr.trans hty) hn (fun t ht hW => ⟨⟨some (.inl x), h, rfl, by rw [ht]; exact hA, hq⟩, hS.F ht⟩) hS.2.2 hdg
    · have hrt : (∃ n, ty = .object n) ∨ ∃ t, ty = .array t := by
        cases ty <;> first | exact Or.inl ⟨_, rfl⟩ | exact Or.inr ⟨_, rfl⟩ | cases hrf
      exact W.aret (v := va_rf o) hx hb (hr.trans hty) hrt (va_rf_or o) (fun t ht hW => ⟨⟨some (.inr o), h, rfl, by rw [ht]; exact hA, hq⟩, hS.F ht⟩) hS.2.2 hdg
/-- the heap with which the law begins: the script alone -/
def gh0 (b L : Nat) (xs : Nat → Int32) : gHp := (fun a => if a = b then some (24, L) else none, fun a j => if a = b then xs j else 0, fun _ _ => none)
