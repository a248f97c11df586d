/-! ===== the reference's state: its numbers and rows, by the numbers of its fields ===== -/
abbrev MS : Type := (Nat → Int32) × (Nat → Nat → Int32)
def MS.f (S : MS) (k : Nat) (x : Int32) : MS := (fun j => if j = k then x else S.1 j, S.2)
def MS.a (S : MS) (k j : Nat) (x : Int32) : MS := (S.1, fun k' j' => if k' = k ∧ j' = j then x else S.2 k' j')
def mTg (k : Nat) : Nat := match k with
  | 4 => 21
  | 19 => 21
  | 21 => 21
  | _ => 20
def mLn (k : Nat) : Nat := match k with
  | 21 => 244
  | 24 => 2440
  | 26 => 24400
  | 27 => 24400
  | 28 => 24400
  | 29 => 87840
  | 30 => 87840
  | 31 => 87840
  | 37 => 244
  | 39 => 900
  | 40 => 900
  | 43 => 924
  | _ => 61
/-- the reference stands at m, with its rows at ad, and holds S; nothing else has changed since h0 -/
def MR (h0 h : gHp) (m : Nat) (ad : Nat → Nat) (S : MS) : Prop :=
  gtag h m = some (10, 44) ∧ (∀ k, gisR (gTy 10 k) = false → gint h m k = S.1 k) ∧
  (∀ k, k < 44 → gisR (gTy 10 k) = true → gref h m k = some (ad k) ∧ gtag h (ad k) = some (mTg k, mLn k) ∧ ∀ j, gint h (ad k) j = S.2 k j) ∧
  (∀ k k', k < 44 → k' < 44 → gisR (gTy 10 k) = true → gisR (gTy 10 k') = true → ad k = ad k' → k = k') ∧
  (∀ b, gtag h b = gtag h0 b) ∧ (∀ b j, b ≠ m → (∀ k, k < 44 → gisR (gTy 10 k) = true → b ≠ ad k) → gint h b j = gint h0 b j) ∧ (∀ b j, gref h b j = gref h0 b j)
theorem mTg_or (k : Nat) : mTg k = 20 ∨ mTg k = 21 := by
  unfold mTg
  split <;> simp
theorem MR.ne {h0 h : gHp} {m : Nat} {ad : Nat → Nat} {S : MS} (hM : MR h0 h m ad S) {k : Nat} (hk : k < 44) (hr : gisR (gTy 10 k) = true) : ad k ≠ m := by
  intro e
  have h1 := (hM.2.2.1 k hk hr).2.1
  rw [e, hM.1] at h1
  have h2 : (10 : Nat) = mTg k := congrArg Prod.fst (Option.some.inj h1)
  rcases mTg_or k with q | q <;> omega
theorem MR.setF {h0 h : gHp} {m : Nat} {ad : Nat → Nat} {S : MS} (hM : MR h0 h m ad S) {k : Nat} (hr : gisR (gTy 10 k) = false) (x : Int32) : MR h0 (gsetI h m k x) m ad (S.f k x) := by
  obtain ⟨h1, h2, h3, h4, h5, h6, h7⟩ := id hM
  refine ⟨h1, fun j hj => ?_, fun j hj hjr => ⟨(h3 j hj hjr).1, (h3 j hj hjr).2.1, fun i => ?_⟩, h4, h5, fun b j hb hk => ?_, h7⟩
  · rw [gint_setI]
    show _ = if j = k then x else S.1 j
    by_cases e : j = k
    · rw [if_pos ⟨rfl, e⟩, if_pos e]
    · rw [if_neg (fun q => e q.2), if_neg e]
      exact h2 j hj
  · rw [gint_setI, if_neg (fun q => hM.ne hj hjr q.1)]
    exact (h3 j hj hjr).2.2 i
  · rw [gint_setI, if_neg (fun q => hb q.1)]
    exact h6 b j hb hk
theorem MR.setA {h0 h : gHp} {m : Nat} {ad : Nat → Nat} {S : MS} (hM : MR h0 h m ad S) {k : Nat} (hk : k < 44) (hr : gisR (gTy 10 k) = true) (j : Nat) (x : Int32) : MR h0 (gsetI h (ad k) j x) m ad (S.a k j x) := by
  obtain ⟨h1, h2, h3, h4, h5, h6, h7⟩ := id hM
  refine ⟨h1, fun i hi => ?_, fun i hi hir => ⟨(h3 i hi hir).1, (h3 i hi hir).2.1, fun i' => ?_⟩, h4, h5, fun b i hb hbk => ?_, h7⟩
  · rw [gint_setI, if_neg (fun q => hM.ne hk hr q.1.symm)]
    exact h2 i hi
  · rw [gint_setI]
    show _ = if i = k ∧ i' = j then x else S.2 i i'
    by_cases e : i = k
    · subst e
      by_cases e2 : i' = j
      · rw [if_pos ⟨rfl, e2⟩, if_pos ⟨rfl, e2⟩]
      · rw [if_neg (fun q => e2 q.2), if_neg (fun q => e2 q.2)]
        exact (h3 i hi hir).2.2 i'
    · rw [if_neg (fun q => e (h4 i k hi hk hir hr q.1)), if_neg (fun q => e q.1)]
      exact (h3 i hi hir).2.2 i'
  · rw [gint_setI, if_neg (fun q => hbk k hk hr q.1)]
    exact h6 b i hb hbk
section GM
variable {C : gMeth → List gv → gHp → (Option gv → gHp → Prop) → Prop} {y : gMeth} {Q : Option gv → gHp → Prop} {pc : Nat} {ls : List (Option gv)} {st : List gv} {h0 h : gHp} {cc ss : Nat} {m : Nat} {ad : Nat → Nat} {S : MS} {idx k : Nat}
theorem m_getI (hM : MR h0 h m ad S) (hi : gLk pc y.T = some (.getfield idx, 3)) (hf : gFl y.O idx 10 = some k) (hr : gisR (gTy 10 k) = false) (kk : gWP C y Q (pc + 3) ls (.inl (S.1 k) :: st) h cc ss) : gWP C y Q pc ls (.inr (some m) :: st) h cc ss :=
  w_getI hi hM.1 hf hr (by rw [hM.2.1 k hr]; exact kk)
theorem m_getR (hM : MR h0 h m ad S) (hi : gLk pc y.T = some (.getfield idx, 3)) (hf : gFl y.O idx 10 = some k) (hr : gisR (gTy 10 k) = true) (hk : k < 44) (kk : gWP C y Q (pc + 3) ls (.inr (some (ad k)) :: st) h cc ss) : gWP C y Q pc ls (.inr (some m) :: st) h cc ss :=
  w_getR hi hM.1 hf hr (by rw [(hM.2.2.1 k hk hr).1]; exact kk)
theorem m_ld {j : Int32} (hM : MR h0 h m ad S) (hi : gLk pc y.T = some (.iaload, 1)) (hr : gisR (gTy 10 k) = true) (hk : k < 44) (ht : mTg k = 20) (hb : inB j (mLn k) = true) (kk : gWP C y Q (pc + 1) ls (.inl (S.2 k (ix j)) :: st) h cc ss) : gWP C y Q pc ls (.inl j :: .inr (some (ad k)) :: st) h cc ss := by
  obtain ⟨-, h2, h3⟩ := hM.2.2.1 k hk hr
  exact w_iald hi h2 (Or.inl ht) (inB_in hb) (by rw [h3]; exact kk)
theorem m_zld {j : Int32} (hM : MR h0 h m ad S) (hi : gLk pc y.T = some (.baload, 1)) (hr : gisR (gTy 10 k) = true) (hk : k < 44) (ht : mTg k = 21) (hb : inB j (mLn k) = true) (kk : gWP C y Q (pc + 1) ls (.inl (S.2 k (ix j)) :: st) h cc ss) : gWP C y Q pc ls (.inl j :: .inr (some (ad k)) :: st) h cc ss := by
  obtain ⟨-, h2, h3⟩ := hM.2.2.1 k hk hr
  rw [ht] at h2
  exact w_zald hi h2 (inB_in hb) (by rw [h3]; exact kk)
theorem m_st {j x : Int32} (hM : MR h0 h m ad S) (hi : gLk pc y.T = some (.iastore, 1)) (hr : gisR (gTy 10 k) = true) (hk : k < 44) (ht : mTg k = 20) (hb : inB j (mLn k) = true) (kk : ∀ h', MR h0 h' m ad (S.a k (ix j) x) → gWP C y Q (pc + 1) ls st h' cc ss) : gWP C y Q pc ls (.inl x :: .inl j :: .inr (some (ad k)) :: st) h cc ss := by
  obtain ⟨-, h2, h3⟩ := hM.2.2.1 k hk hr
  rw [ht] at h2
  exact w_iast hi h2 (inB_in hb) (kk _ (hM.setA hk hr _ _))
theorem m_zst {j x : Int32} (hM : MR h0 h m ad S) (hi : gLk pc y.T = some (.bastore, 1)) (hr : gisR (gTy 10 k) = true) (hk : k < 44) (ht : mTg k = 21) (hb : inB j (mLn k) = true) (hx : isZ x = true) (kk : ∀ h', MR h0 h' m ad (S.a k (ix j) x) → gWP C y Q (pc + 1) ls st h' cc ss) : gWP C y Q pc ls (.inl x :: .inl j :: .inr (some (ad k)) :: st) h cc ss := by
  obtain ⟨-, h2, h3⟩ := hM.2.2.1 k hk hr
  rw [ht] at h2
  exact w_zast hi h2 (inB_in hb) (isZ_nar hx) (kk _ (hM.setA hk hr _ _))
theorem m_putI {x : Int32} (hM : MR h0 h m ad S) (hi : gLk pc y.T = some (.putfield idx, 3)) (hf : gFl y.O idx 10 = some k) (hfin : gFin y 10 k = true) (hr : gisR (gTy 10 k) = false) (hn : gNar (gTy 10 k) x) (kk : ∀ h', MR h0 h' m ad (S.f k x) → gWP C y Q (pc + 3) ls st h' cc ss) : gWP C y Q pc ls (.inl x :: .inr (some m) :: st) h cc ss :=
  w_putI hi hM.1 hf hfin hr hn (kk _ (hM.setF hr _))
end GM
theorem g_enter {d : Nat} {y : gMeth} {as : List gv} {h : gHp} {Q : Option gv → gHp → Prop} (hl : as.length ≤ y.L) (hw : gWP (gCall d) y Q 0 (gEntry y as) [] h 0 0) : gCall (d + 1) y as h Q := ⟨hl, hw⟩
theorem nar_int (x : Int32) : gNar .int x := ⟨rfl, rfl⟩
