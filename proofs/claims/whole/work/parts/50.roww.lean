/-! ===== rows that make objects, and constructors' calls ===== -/
section GW
variable {C : gMeth → List gv → gHp → (Option gv → gHp → Prop) → Prop} {y : gMeth} {Q : Option gv → gHp → Prop} {pc : Nat} {ls : List (Option gv)} {st : List gv} {h : gHp} {cc ss : Nat} {idx a : Nat}
theorem xw_new {c : String} {tg n : Nat} {r : vw_C} (hi : gLk pc y.T = some (.new idx, 3)) (hck : gCk y.O idx = some c) (htg : gTag c = some tg) (hr : gC[tg]? = some r) (hn : r.2.2 = n) (hc : cc + 1 ≤ y.mc) (hs : ss + n ≤ y.ms) (k : ∀ a, gtag h a = none → gWP C y Q (pc + 3) ls (.inr (some a) :: st) (gnew h a tg n) (cc + 1) (ss + n)) : gWP C y Q pc ls st h cc ss := by
  subst hn
  exact gWP.step hi (Or.inl rfl) ⟨c, tg, r, hck, htg, hr, hc, hs, k⟩
theorem xw_newa {ty : ArrayType} {tg N : Nat} {j : Int32} (hi : gLk pc y.T = some (.newarray ty, 2)) (hty : gAty ty = some tg) (hN : j.toNatClampNeg = N) (h0 : ¬ j < 0) (h1 : N ≤ 100000) (hc : cc + 1 ≤ y.mc) (hs : ss + N ≤ y.ms) (k : ∀ a, gtag h a = none → gWP C y Q (pc + 2) ls (.inr (some a) :: st) (gnew h a tg N) (cc + 1) (ss + N)) : gWP C y Q pc ls (.inl j :: st) h cc ss := by
  subst hN
  exact gWP.step hi (Or.inl rfl) ⟨j, st, tg, rfl, h0, h1, hty, hc, hs, k⟩
theorem xw_newq {N : Nat} {j : Int32} (hi : gLk pc y.T = some (.anewarray idx, 3)) (hck : gCk y.O idx = some "GlkPanes$Pane") (hN : j.toNatClampNeg = N) (h0 : ¬ j < 0) (h1 : N ≤ 100000) (hc : cc + 1 ≤ y.mc) (hs : ss + N ≤ y.ms) (k : ∀ a, gtag h a = none → gWP C y Q (pc + 3) ls (.inr (some a) :: st) (gnew h a 22 N) (cc + 1) (ss + N)) : gWP C y Q pc ls (.inl j :: st) h cc ss := by
  subst hN
  exact gWP.step hi (Or.inl rfl) ⟨j, st, rfl, h0, h1, hck, hc, hs, k⟩
theorem xw_multi {N M : Nat} {j k : Int32} (hi : gLk pc y.T = some (.multianewarray idx 2, 4)) (hck : gCk y.O idx = some "[[I") (hN : j.toNatClampNeg = N) (hM : k.toNatClampNeg = M) (h0 : ¬ j < 0) (h1 : ¬ k < 0) (h2 : N ≤ 1000) (h3 : M ≤ 1000) (hc : cc + (1 + N) ≤ y.mc) (hs : ss + (N + N * M) ≤ y.ms) (kk : ∀ a, (∀ i, i ≤ N → gtag h (a + i) = none) → gWP C y Q (pc + 4) ls (.inr (some a) :: st) (gnew2 h a N M) (cc + 1 + N) (ss + N + N * M)) : gWP C y Q pc ls (.inl k :: .inl j :: st) h cc ss := by
  subst hN
  subst hM
  exact gWP.step hi (Or.inl rfl) ⟨j, k, st, rfl, rfl, h0, h1, h2, h3, hck, hc, hs, kk⟩
theorem w_special {q : gMeth × Nat × Nat × Nat × Nat} (as r : List gv) (hi : gLk pc y.T = some (.invokespecial idx, 3)) (hq : gLk idx (gSps y.O) = some q) (he : st = as.reverse ++ .inr (some a) :: r) (hn : as.length = q.2.1) (hr : r.length ≤ 8) (hc : cc + q.1.mc ≤ y.mc) (hs : ss + q.1.ms ≤ y.ms) (k : C q.1 (.inr (some a) :: as) h (fun v h' => gWP C y Q (pc + 3) ls (v.toList ++ r) h' (cc + q.1.mc) (ss + q.1.ms))) : gWP C y Q pc ls st h cc ss := gWP.step hi (Or.inl rfl) (Or.inl ⟨q, a, as, r, hq, he, hn, hr, hc, hs, k⟩)
theorem w_obj (hi : gLk pc y.T = some (.invokespecial idx, 3)) (hq : gIsObj y.O idx = true) (hr : st.length ≤ 8) (k : gWP C y Q (pc + 3) ls st h cc ss) : gWP C y Q pc ls (.inr (some a) :: st) h cc ss := gWP.step hi (Or.inl rfl) (Or.inr ⟨a, st, hq, rfl, hr, k⟩)
end GW
theorem g_out_1_3 {x : Int32} (c0 : ¬ x = 1) (c1 : ¬ x = 2) (c2 : ¬ x = 3) : x.toInt < 1 ∨ 3 < x.toInt := by
  have h0 := ne_toInt (v := 1) c0 (by decide)
  have h1 := ne_toInt (v := 2) c1 (by decide)
  have h2 := ne_toInt (v := 3) c2 (by decide)
  omega
