section GX
variable {C : gMeth → List gv → gHp → (Option gv → gHp → Prop) → Prop} {y : gMeth} {Q : Option gv → gHp → Prop} {pc : Nat} {ls : List (Option gv)} {st : List gv} {h : gHp} {cc ss : Nat}
theorem w_tswIn {x c : Int32} {d lo hh : Int} {offs : Array Int} {len : Nat} {off : Int} {t : Nat} (hx : x = c) (hi : gLk pc y.T = some (.tableswitch d lo hh offs, len)) (h1 : ¬ c.toInt < lo) (h2 : ¬ hh < c.toInt) (ho : offs[(c.toInt - lo).toNat]? = some off) (ht : (pc : Int) + off = (t : Int)) (k : gWP C y Q t ls st h cc ss) : gWP C y Q pc ls (.inl x :: st) h cc ss := by
  subst hx
  exact gWP.step hi (Or.inr rfl) ⟨x, st, rfl, fun q => (q.elim (fun q => absurd q h1) (fun q => absurd q h2)), fun _ _ => ⟨off, t, ho, ht, k⟩⟩
theorem w_tswOut {x : Int32} {d lo hh : Int} {offs : Array Int} {len : Nat} {t : Nat} (hi : gLk pc y.T = some (.tableswitch d lo hh offs, len)) (hx : x.toInt < lo ∨ hh < x.toInt) (ht : (pc : Int) + d = (t : Int)) (k : gWP C y Q t ls st h cc ss) : gWP C y Q pc ls (.inl x :: st) h cc ss :=
  gWP.step hi (Or.inr rfl) ⟨x, st, rfl, fun _ => ⟨t, ht, k⟩, fun h1 h2 => (hx.elim (fun q => absurd q h1) (fun q => absurd q h2))⟩
end GX
theorem ne_toInt {x c : Int32} {v : Int} (h : ¬ x = c) (hv : c.toInt = v) : x.toInt ≠ v := fun q => h (Int32.toInt_inj.mp (q.trans hv.symm))
theorem g_out5 {x : Int32} (c0 : ¬ x = 0) (c1 : ¬ x = 1) (c2 : ¬ x = 2) (c3 : ¬ x = 3) (c4 : ¬ x = 4) : x.toInt < 0 ∨ 4 < x.toInt := by
  have h0 := ne_toInt (v := 0) c0 (by decide)
  have h1 := ne_toInt (v := 1) c1 (by decide)
  have h2 := ne_toInt (v := 2) c2 (by decide)
  have h3 := ne_toInt (v := 3) c3 (by decide)
  have h4 := ne_toInt (v := 4) c4 (by decide)
  omega
theorem g_out6 {x : Int32} (c0 : ¬ x = 0) (c1 : ¬ x = 1) (c2 : ¬ x = 2) (c3 : ¬ x = 3) (c4 : ¬ x = 4) (c5 : ¬ x = 5) : x.toInt < 0 ∨ 5 < x.toInt := by
  have h0 := ne_toInt (v := 0) c0 (by decide)
  have h1 := ne_toInt (v := 1) c1 (by decide)
  have h2 := ne_toInt (v := 2) c2 (by decide)
  have h3 := ne_toInt (v := 3) c3 (by decide)
  have h4 := ne_toInt (v := 4) c4 (by decide)
  have h5 := ne_toInt (v := 5) c5 (by decide)
  omega
theorem g_out9 {x : Int32} (c0 : ¬ x = 0) (c1 : ¬ x = 1) (c2 : ¬ x = 2) (c3 : ¬ x = 3) (c4 : ¬ x = 4) (c5 : ¬ x = 5) (c6 : ¬ x = 6) (c7 : ¬ x = 7) (c8 : ¬ x = 8) : x.toInt < 0 ∨ 8 < x.toInt := by
  have h0 := ne_toInt (v := 0) c0 (by decide)
  have h1 := ne_toInt (v := 1) c1 (by decide)
  have h2 := ne_toInt (v := 2) c2 (by decide)
  have h3 := ne_toInt (v := 3) c3 (by decide)
  have h4 := ne_toInt (v := 4) c4 (by decide)
  have h5 := ne_toInt (v := 5) c5 (by decide)
  have h6 := ne_toInt (v := 6) c6 (by decide)
  have h7 := ne_toInt (v := 7) c7 (by decide)
  have h8 := ne_toInt (v := 8) c8 (by decide)
  omega
theorem g_out10 {x : Int32} (c0 : ¬ x = 0) (c1 : ¬ x = 1) (c2 : ¬ x = 2) (c3 : ¬ x = 3) (c4 : ¬ x = 4) (c5 : ¬ x = 5) (c6 : ¬ x = 6) (c7 : ¬ x = 7) (c8 : ¬ x = 8) (c9 : ¬ x = 9) : x.toInt < 0 ∨ 9 < x.toInt := by
  have h0 := ne_toInt (v := 0) c0 (by decide)
  have h1 := ne_toInt (v := 1) c1 (by decide)
  have h2 := ne_toInt (v := 2) c2 (by decide)
  have h3 := ne_toInt (v := 3) c3 (by decide)
  have h4 := ne_toInt (v := 4) c4 (by decide)
  have h5 := ne_toInt (v := 5) c5 (by decide)
  have h6 := ne_toInt (v := 6) c6 (by decide)
  have h7 := ne_toInt (v := 7) c7 (by decide)
  have h8 := ne_toInt (v := 8) c8 (by decide)
  have h9 := ne_toInt (v := 9) c9 (by decide)
  omega
theorem g_out26 {x : Int32} (c0 : ¬ x = 0) (c1 : ¬ x = 1) (c2 : ¬ x = 2) (c3 : ¬ x = 3) (c4 : ¬ x = 4) (c5 : ¬ x = 5) (c6 : ¬ x = 6) (c7 : ¬ x = 7) (c8 : ¬ x = 8) (c9 : ¬ x = 9) (c10 : ¬ x = 10) (c11 : ¬ x = 11) (c12 : ¬ x = 12) (c13 : ¬ x = 13) (c14 : ¬ x = 14) (c15 : ¬ x = 15) (c16 : ¬ x = 16) (c17 : ¬ x = 17) (c18 : ¬ x = 18) (c19 : ¬ x = 19) (c20 : ¬ x = 20) (c21 : ¬ x = 21) (c22 : ¬ x = 22) (c23 : ¬ x = 23) (c24 : ¬ x = 24) (c25 : ¬ x = 25) : x.toInt < 0 ∨ 25 < x.toInt := by
  have h0 := ne_toInt (v := 0) c0 (by decide)
  have h1 := ne_toInt (v := 1) c1 (by decide)
  have h2 := ne_toInt (v := 2) c2 (by decide)
  have h3 := ne_toInt (v := 3) c3 (by decide)
  have h4 := ne_toInt (v := 4) c4 (by decide)
  have h5 := ne_toInt (v := 5) c5 (by decide)
  have h6 := ne_toInt (v := 6) c6 (by decide)
  have h7 := ne_toInt (v := 7) c7 (by decide)
  have h8 := ne_toInt (v := 8) c8 (by decide)
  have h9 := ne_toInt (v := 9) c9 (by decide)
  have h10 := ne_toInt (v := 10) c10 (by decide)
  have h11 := ne_toInt (v := 11) c11 (by decide)
  have h12 := ne_toInt (v := 12) c12 (by decide)
  have h13 := ne_toInt (v := 13) c13 (by decide)
  have h14 := ne_toInt (v := 14) c14 (by decide)
  have h15 := ne_toInt (v := 15) c15 (by decide)
  have h16 := ne_toInt (v := 16) c16 (by decide)
  have h17 := ne_toInt (v := 17) c17 (by decide)
  have h18 := ne_toInt (v := 18) c18 (by decide)
  have h19 := ne_toInt (v := 19) c19 (by decide)
  have h20 := ne_toInt (v := 20) c20 (by decide)
  have h21 := ne_toInt (v := 21) c21 (by decide)
  have h22 := ne_toInt (v := 22) c22 (by decide)
  have h23 := ne_toInt (v := 23) c23 (by decide)
  have h24 := ne_toInt (v := 24) c24 (by decide)
  have h25 := ne_toInt (v := 25) c25 (by decide)
  omega
