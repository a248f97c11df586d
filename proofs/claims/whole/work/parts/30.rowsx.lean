/-! ===== rows over the heap itself, with tests that a function can make ===== -/
def gtin (t : Option (Nat × Nat)) (l : List Nat) : Bool := match t with
  | some q => l.any (fun z => Nat.beq q.1 z)
  | none => false
def gtis (t : Option (Nat × Nat)) (c : Nat) : Bool := match t with
  | some q => Nat.beq q.1 c
  | none => false
def gArr (t : Option (Nat × Nat)) (c : Nat) (j : Int32) : Bool := match t with
  | some q => Nat.beq q.1 c && inB j q.2
  | none => false
def gInst (h : gHp) (o : Option Nat) (C : String) : Option Int32 := match o with
  | none => some 0
  | some a => (gtag h a).bind (fun t => gIo t.1 C)
def gCas (h : gHp) (o : Option Nat) (C : String) : Bool := match o with
  | none => true
  | some a => match gtag h a with
    | none => false
    | some t => decide (gIo t.1 C = some 1)
def gPnk (h : gHp) (o : Option Nat) : Bool := match o with
  | none => true
  | some a => match gtag h a with
    | none => false
    | some t => Nat.beq t.1 4 || decide (gIo t.1 "GlkPanes$Pane" = some 1)
theorem gtin_of {t : Option (Nat × Nat)} {l : List Nat} (h : gtin t l = true) : ∃ tg n, t = some (tg, n) ∧ l.any (fun z => Nat.beq tg z) = true := by
  cases t with
  | none => cases h
  | some q => exact ⟨q.1, q.2, rfl, h⟩
theorem gtis_of {t : Option (Nat × Nat)} {c : Nat} (h : gtis t c = true) : ∃ n, t = some (c, n) := by
  cases t with
  | none => cases h
  | some q =>
    have e := Nat.eq_of_beq_eq_true h
    exact ⟨q.2, by rw [← e]⟩
theorem gArr_of {t : Option (Nat × Nat)} {c : Nat} {j : Int32} (h : gArr t c j = true) : ∃ n, t = some (c, n) ∧ vp_in j n := by
  cases t with
  | none => cases h
  | some q =>
    simp only [gArr, Bool.and_eq_true] at h
    have e := Nat.eq_of_beq_eq_true h.1
    exact ⟨q.2, by rw [← e], inB_in h.2⟩
theorem g_allof {l : List Nat} {f : Nat → Bool} (h : l.all f = true) {tg : Nat} (ht : l.any (fun z => Nat.beq tg z) = true) : f tg = true := by
  obtain ⟨z, h1, h2⟩ := List.any_eq_true.mp ht
  have e := Nat.eq_of_beq_eq_true h2
  subst e
  exact List.all_eq_true.mp h _ h1
section GXR
variable {C : gMeth → List gv → gHp → (Option gv → gHp → Prop) → Prop} {y : gMeth} {Q : Option gv → gHp → Prop} {pc : Nat} {ls : List (Option gv)} {st : List gv} {h : gHp} {cc ss : Nat} {idx a k i1 i2 : Nat} {tgs : List Nat} {rf : String}
theorem x_fl {tg : Nat} (hq : gLk idx (gFs y.O) = some (k, tgs, rf, i1, i2)) (ht : tgs.any (fun z => Nat.beq tg z) = true) : gFl y.O idx tg = some k := by
  unfold gFl
  rw [hq]
  show (bif tgs.any (fun z => Nat.beq tg z) then some k else none) = some k
  rw [ht]
  rfl
theorem x_getI (hg : gtin (gtag h a) tgs = true) (hi : gLk pc y.T = some (.getfield idx, 3)) (hq : gLk idx (gFs y.O) = some (k, tgs, rf, i1, i2)) (hr : tgs.all (fun t => !gisR (gTy t k)) = true) (kk : gWP C y Q (pc + 3) ls (.inl (gint h a k) :: st) h cc ss) : gWP C y Q pc ls (.inr (some a) :: st) h cc ss := by
  obtain ⟨tg, n, h1, h2⟩ := gtin_of hg
  have h3 := g_allof hr h2
  exact w_getI hi h1 (x_fl hq h2) (by simpa using h3) kk
theorem x_getR (hg : gtin (gtag h a) tgs = true) (hi : gLk pc y.T = some (.getfield idx, 3)) (hq : gLk idx (gFs y.O) = some (k, tgs, rf, i1, i2)) (hr : tgs.all (fun t => gisR (gTy t k)) = true) (kk : gWP C y Q (pc + 3) ls (.inr (gref h a k) :: st) h cc ss) : gWP C y Q pc ls (.inr (some a) :: st) h cc ss := by
  obtain ⟨tg, n, h1, h2⟩ := gtin_of hg
  exact w_getR hi h1 (x_fl hq h2) (g_allof hr h2) kk
theorem x_putI {x : Int32} (hg : gtin (gtag h a) tgs = true) (hi : gLk pc y.T = some (.putfield idx, 3)) (hq : gLk idx (gFs y.O) = some (k, tgs, rf, i1, i2)) (hr : tgs.all (fun t => gFin y t k && decide (gTy t k = .int)) = true) (kk : gWP C y Q (pc + 3) ls st (gsetI h a k x) cc ss) : gWP C y Q pc ls (.inl x :: .inr (some a) :: st) h cc ss := by
  obtain ⟨tg, n, h1, h2⟩ := gtin_of hg
  have h3 := g_allof hr h2
  simp only [Bool.and_eq_true, decide_eq_true_eq] at h3
  exact w_putI hi h1 (x_fl hq h2) h3.1 (by rw [h3.2]; rfl) (by rw [h3.2]; exact nar_int x) kk
theorem x_putZ {x : Int32} (hz : isZ x = true) (hg : gtin (gtag h a) tgs = true) (hi : gLk pc y.T = some (.putfield idx, 3)) (hq : gLk idx (gFs y.O) = some (k, tgs, rf, i1, i2)) (hr : tgs.all (fun t => gFin y t k && decide (gTy t k = .boolean)) = true) (kk : gWP C y Q (pc + 3) ls st (gsetI h a k x) cc ss) : gWP C y Q pc ls (.inl x :: .inr (some a) :: st) h cc ss := by
  obtain ⟨tg, n, h1, h2⟩ := gtin_of hg
  have h3 := g_allof hr h2
  simp only [Bool.and_eq_true, decide_eq_true_eq] at h3
  exact w_putI hi h1 (x_fl hq h2) h3.1 (by rw [h3.2]; rfl) (by rw [h3.2]; exact isZ_nar hz) kk
theorem x_putR {o : Option Nat} (hg : gtin (gtag h a) tgs = true) (hi : gLk pc y.T = some (.putfield idx, 3)) (hq : gLk idx (gFs y.O) = some (k, tgs, rf, i1, i2)) (hr : tgs.all (fun t => gFin y t k && gisR (gTy t k)) = true) (kk : gWP C y Q (pc + 3) ls st (gsetR h a k o) cc ss) : gWP C y Q pc ls (.inr o :: .inr (some a) :: st) h cc ss := by
  obtain ⟨tg, n, h1, h2⟩ := gtin_of hg
  have h3 := g_allof hr h2
  simp only [Bool.and_eq_true] at h3
  exact w_putR hi h1 (x_fl hq h2) h3.1 h3.2 kk
theorem x_len {t : Nat × Nat} (ht : gtag h a = some t) (hg : (Nat.ble 20 t.1 && Nat.ble t.1 24) = true) (hi : gLk pc y.T = some (.arraylength, 1)) (kk : gWP C y Q (pc + 1) ls (.inl (Int32.ofNat t.2) :: st) h cc ss) : gWP C y Q pc ls (.inr (some a) :: st) h cc ss := by
  simp only [Bool.and_eq_true] at hg
  exact w_len (n := t.2) hi ht (Nat.le_of_ble_eq_true hg.1) (Nat.le_of_ble_eq_true hg.2) kk
theorem x_ld {j : Int32} (hg : gArr (gtag h a) 20 j = true) (hi : gLk pc y.T = some (.iaload, 1)) (kk : gWP C y Q (pc + 1) ls (.inl (gint h a (ix j)) :: st) h cc ss) : gWP C y Q pc ls (.inl j :: .inr (some a) :: st) h cc ss := by
  obtain ⟨n, h1, h2⟩ := gArr_of hg
  exact w_iald hi h1 (Or.inl rfl) h2 kk
theorem x_lds {j : Int32} (hg : gArr (gtag h a) 24 j = true) (hi : gLk pc y.T = some (.iaload, 1)) (kk : gWP C y Q (pc + 1) ls (.inl (gint h a (ix j)) :: st) h cc ss) : gWP C y Q pc ls (.inl j :: .inr (some a) :: st) h cc ss := by
  obtain ⟨n, h1, h2⟩ := gArr_of hg
  exact w_iald hi h1 (Or.inr rfl) h2 kk
theorem x_zld {j : Int32} (hg : gArr (gtag h a) 21 j = true) (hi : gLk pc y.T = some (.baload, 1)) (kk : gWP C y Q (pc + 1) ls (.inl (gint h a (ix j)) :: st) h cc ss) : gWP C y Q pc ls (.inl j :: .inr (some a) :: st) h cc ss := by
  obtain ⟨n, h1, h2⟩ := gArr_of hg
  exact w_zald hi h1 h2 kk
theorem x_ald {j : Int32} (hg : (gArr (gtag h a) 22 j || gArr (gtag h a) 23 j) = true) (hi : gLk pc y.T = some (.aaload, 1)) (kk : gWP C y Q (pc + 1) ls (.inr (gref h a (ix j)) :: st) h cc ss) : gWP C y Q pc ls (.inl j :: .inr (some a) :: st) h cc ss := by
  simp only [Bool.or_eq_true] at hg
  rcases hg with hg | hg
  · obtain ⟨n, h1, h2⟩ := gArr_of hg
    exact w_aald hi h1 (Or.inl rfl) h2 kk
  · obtain ⟨n, h1, h2⟩ := gArr_of hg
    exact w_aald hi h1 (Or.inr rfl) h2 kk
theorem x_st {j x : Int32} (hg : gArr (gtag h a) 20 j = true) (hi : gLk pc y.T = some (.iastore, 1)) (kk : gWP C y Q (pc + 1) ls st (gsetI h a (ix j) x) cc ss) : gWP C y Q pc ls (.inl x :: .inl j :: .inr (some a) :: st) h cc ss := by
  obtain ⟨n, h1, h2⟩ := gArr_of hg
  exact w_iast hi h1 h2 kk
theorem x_zst {j x : Int32} (hg : gArr (gtag h a) 21 j = true) (hz : isZ x = true) (hi : gLk pc y.T = some (.bastore, 1)) (kk : gWP C y Q (pc + 1) ls st (gsetI h a (ix j) x) cc ss) : gWP C y Q pc ls (.inl x :: .inl j :: .inr (some a) :: st) h cc ss := by
  obtain ⟨n, h1, h2⟩ := gArr_of hg
  exact w_zast hi h1 h2 (isZ_nar hz) kk
theorem x_ast {j : Int32} {o : Option Nat} (hg : gArr (gtag h a) 22 j = true) (hp : gPnk h o = true) (hi : gLk pc y.T = some (.aastore, 1)) (kk : gWP C y Q (pc + 1) ls st (gsetR h a (ix j) o) cc ss) : gWP C y Q pc ls (.inr o :: .inl j :: .inr (some a) :: st) h cc ss := by
  obtain ⟨n, h1, h2⟩ := gArr_of hg
  refine gWP.step hi (Or.inl rfl) ⟨a, j, o, st, n, rfl, h1, h2, fun b hb => ?_, kk⟩
  subst hb
  unfold gPnk at hp
  cases ht : gtag h b with
  | none => simp [ht] at hp
  | some t =>
    simp only [ht, Bool.or_eq_true, decide_eq_true_eq] at hp
    exact ⟨t.1, t.2, rfl, hp.elim (fun q => Or.inl (Nat.eq_of_beq_eq_true q)) Or.inr⟩
theorem x_cast {o : Option Nat} {c : String} (hg : gCas h o c = true) (hi : gLk pc y.T = some (.checkcast idx, 3)) (hc : gCk y.O idx = some c) (kk : gWP C y Q (pc + 3) ls (.inr o :: st) h cc ss) : gWP C y Q pc ls (.inr o :: st) h cc ss := by
  refine gWP.step hi (Or.inl rfl) ⟨c, o, st, hc, rfl, fun b hb => ?_, kk⟩
  subst hb
  unfold gCas at hg
  cases ht : gtag h b with
  | none => simp [ht] at hg
  | some t =>
    simp only [ht, decide_eq_true_eq] at hg
    exact ⟨t.1, t.2, rfl, hg⟩
theorem x_inst {o : Option Nat} {c : String} {v : Int32} (hg : gInst h o c = some v) (hi : gLk pc y.T = some (.instanceof idx, 3)) (hc : gCk y.O idx = some c) (kk : gWP C y Q (pc + 3) ls (.inl v :: st) h cc ss) : gWP C y Q pc ls (.inr o :: st) h cc ss := by
  refine gWP.step hi (Or.inl rfl) ⟨c, o, st, hc, rfl, fun hb => ?_, fun b hb => ?_⟩
  · subst hb
    cases hg
    exact kk
  · subst hb
    obtain ⟨t, h1, h2⟩ := g_bind hg
    exact ⟨t.1, t.2, v, h1, h2, kk⟩
theorem x_virt {q : Nat × MethodName × Nat × List (Nat × gMeth × Nat × String × Nat × Nat × Nat × Nat)} {z : gMeth × Nat × String × Nat × Nat × Nat × Nat} (tg : Nat) (as r : List gv) (hg : gtis (gtag h a) tg = true) (hi : gLk pc y.T = some (.invokevirtual idx, 3)) (hq : gLk idx (gVts y.O) = some q) (he : st = as.reverse ++ .inr (some a) :: r) (hn : as.length = q.1) (hr : r.length ≤ 8) (hz : gLk tg q.2.2.2 = some z) (hc : cc + z.1.mc ≤ y.mc) (hs : ss + z.1.ms ≤ y.ms) (kk : C z.1 (.inr (some a) :: as) h (fun v h' => gWP C y Q (pc + 3) ls (v.toList ++ r) h' (cc + z.1.mc) (ss + z.1.ms))) : gWP C y Q pc ls st h cc ss := by
  obtain ⟨n, h1⟩ := gtis_of hg
  exact w_virtual as r hi hq he hn hr h1 hz hc hs kk
theorem x_math {b : Bool} {x z : Int32} (hi : gLk pc y.T = some (.invokestatic idx, 3)) (hb : gMth y.O idx = some b) (hr : st.length ≤ 8) (hc : cc ≤ y.mc) (hs : ss ≤ y.ms) (kk : gWP C y Q (pc + 3) ls (.inl (bif b then (if x < z then z else x) else (if z < x then z else x)) :: st) h cc ss) : gWP C y Q pc ls (.inl z :: .inl x :: st) h cc ss := gWP.step hi (Or.inl rfl) (Or.inr (Or.inr ⟨b, x, z, st, hb, rfl, hr, hc, hs, kk⟩))
/-- what System.arraycopy asks of two rows of numbers -/
def gCpk (h : gHp) (a b : Nat) (sp dp n : Int32) : Bool := match gtag h a, gtag h b with
  | some t, some u => Nat.beq t.1 20 && Nat.beq u.1 20 && decide (¬ sp < 0) && decide (¬ dp < 0) && decide (¬ n < 0) && Nat.ble (ix sp + ix n) t.2 && Nat.ble (ix dp + ix n) u.2
  | _, _ => false
theorem x_copy {b : Nat} {sp dp n : Int32} (hg : gCpk h a b sp dp n = true) (hi : gLk pc y.T = some (.invokestatic idx, 3)) (hb : gIsCpy y.O idx = true) (hr : st.length ≤ 8) (kk : gWP C y Q (pc + 3) ls st (gcpy h a b (ix sp) (ix dp) (ix n)) cc ss) : gWP C y Q pc ls (.inl n :: .inl dp :: .inr (some b) :: .inl sp :: .inr (some a) :: st) h cc ss := by
  unfold gCpk at hg
  cases ha : gtag h a with
  | none => simp [ha] at hg
  | some t =>
    cases hb2 : gtag h b with
    | none => simp [ha, hb2] at hg
    | some u =>
      simp only [ha, hb2, Bool.and_eq_true, decide_eq_true_eq] at hg
      obtain ⟨⟨⟨⟨⟨⟨e1, e2⟩, h1⟩, h2⟩, h3⟩, h4⟩, h5⟩ := hg
      have e1 := Nat.eq_of_beq_eq_true e1
      have e2 := Nat.eq_of_beq_eq_true e2
      exact gWP.step hi (Or.inl rfl) (Or.inr (Or.inl ⟨a, b, sp, dp, n, st, t.2, u.2, hb, rfl, hr, by rw [ha, ← e1], by rw [hb2, ← e2], h1, h2, h3, Nat.le_of_ble_eq_true h4, Nat.le_of_ble_eq_true h5, kk⟩))
end GXR
