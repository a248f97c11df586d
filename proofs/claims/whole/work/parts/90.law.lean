theorem law_wp (b L : Nat) (xs : Nat → Int32) (hL : L ≤ 2562) : gWP (gCall 100) m_Law_law (fun v _ => v = some (.inl 1)) 0 (gEntry m_Law_law [.inr (some b)]) [] (gh0 b L xs) 0 0 := by
  sorry
