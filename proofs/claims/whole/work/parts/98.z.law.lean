/-! ===== the law ===== -/
theorem iv_tags {b L ax am j : Nat} {h : gHp} (hI : Iv b L ax am j h) : gtag h b = some (24, L) ∧ gtag h ax = some (9, 2) := by
  obtain ⟨A, ρ, K, S, a, e, ly, rfl, rfl, rfl, H⟩ := hI
  exact ⟨H.1.tag (c := 17) (p := 0) rfl, H.1.tag (c := 0) (p := 0) rfl⟩
theorem law_wp (b L : Nat) (xs : Nat → Int32) (hL : L ≤ 2562) : gWP (gCall 100) m_Law_law (fun v _ => v = some (.inl 1)) 0 (gEntry m_Law_law [.inr (some b)]) [] (gh0 b L xs) 0 0 := by
  obtain ⟨n, hn⟩ : ∃ n, 6000 ≤ n := ⟨6000, Nat.le_refl _⟩
  have hn5 : 5000 ≤ n := by omega
  refine law_of (n := n) hL (fun ax am j => Iv b L ax am j) (law0_ok hL) (fun ax am h j hj hI => ?_)
  have hj' : j < 50000 := by omega
  exact lawB_of (Iv := Iv b L ax am j) (Iv' := Iv b L ax am (j + 1)) hL (fun h hI => hI.mono (Nat.le_succ j)) (fun h hI => iv_tags hI) (fun h i hI hr => p_open0 hI (iv_tags hI).1 hn hr)
    (fun h hI z1 => p_close hI hn z1) (fun h hI z1 z2 z3 z4 => p_arrange hI hn z1 z2 z3 z4) (fun h hI z1 z2 => p_pane hI z1 z2) (fun h hI z1 z2 => p_pair hI z1 z2) (fun h hI => p_root hI) (fun h hI z1 z2 => p_resize hI hn z1 z2) (fun h hI z1 z2 => p_sign hI hn5 hj' z1 z2) (fun h hI z1 z2 => p_style hI z1 z2) (fun h hI z1 z2 => p_link hI z1 z2) (fun h hI z1 z2 z3 => p_cursor hI z1 z2 z3) (fun h hI z1 z2 => p_at hI z1 z2) (fun h hI z1 => p_wipe hI hn5 z1) (fun h hI z1 z2 => p_picture hI z1 z2) (fun h hI z1 z2 z3 z4 => p_shown hI hn5 hj' z1 z2 z3 z4) (fun h hI z1 => p_lines hI hn5 z1) (fun h hI z1 z2 => p_drawn hI hn5 hj' z1 z2) (fun h hI z1 z2 => p_under hI hn5 z1 z2) (fun h hI z1 z2 z3 => p_ask hI z1 z2 z3) (fun h hI z1 z2 => p_cancel hI hn5 hj' z1 z2) (fun h hI z1 z2 => p_type hI hn5 hj' z1 z2) (fun h hI z1 z2 => p_click hI hn5 hj' z1 z2) (fun h hI => p_take hI hn5) (fun h hI z1 => p_event hI z1) (fun h hI z1 => p_count hI hn5 z1) (fun h hI z1 z2 hz => p_echo hI z1 z2 hz) hI hj
