def f_M_root (n : Nat) (S : MS) : Option (Int32 × MS) := (if ((S).1 3) = (0 : Int32) then some ((-2 : Int32), S) else some ((S).1 3, S))
set_option maxHeartbeats 4000000 in
set_option maxRecDepth 100000 in
theorem t_M_root {d m n : Nat} {ad : Nat → Nat} {h0 h : gHp} {Q : Option gv → gHp → Prop} {S : MS} {res : Int32 × MS} (hf : f_M_root n S  = some res) (hM : MR h0 h m ad S) (hQ : ∀ h', MR h0 h' m ad res.2 → Q (some (.inl res.1)) h') : gCall (d + 1) m_M_root [.inr (some m)] h Q := by
  unfold f_M_root at hf
  refine g_enter (d := d + 0) (Nat.le_of_ble_eq_true rfl) ?_
  show gWP (gCall (d + 0)) m_M_root Q 0 [some (.inr (some m))] [] h 0 0
  refine w_aload_n rfl rfl ?_
  refine m_getI hM rfl rfl rfl ?_
  refine w_if (t := 12) rfl (by decide) (fun c1 => ?_) (fun c1 => ?_)
  · have c1 : ¬ (((S).1 3) = (0 : Int32)) := c1
    rw [if_neg c1] at hf
    refine w_aload_n rfl rfl ?_
    refine m_getI hM rfl rfl rfl ?_
    cases hf
    exact w_ireturn rfl (int_ret _) (Nat.le_refl _) (Nat.le_refl _) (hQ _ hM)
  · have c1 : ((S).1 3) = (0 : Int32) := Classical.not_not.mp c1
    rw [if_pos c1] at hf
    refine w_bipush (v := (-2 : Int32)) rfl (by decide) ?_
    refine w_goto (t := 16) rfl (by decide) ?_
    cases hf
    exact w_ireturn rfl (int_ret _) (Nat.le_refl _) (Nat.le_refl _) (hQ _ hM)
def f_M_in (n : Nat) (S : MS) (x0 : Int32) (x1 : Int32) (x2 : Int32) : Option (Int32 × MS) := (if x0 < x1 then some ((0 : Int32), S) else (if x2 < x0 then some ((0 : Int32), S) else some ((1 : Int32), S)))
set_option maxHeartbeats 4000000 in
set_option maxRecDepth 100000 in
theorem t_M_in {d m n : Nat} {ad : Nat → Nat} {h0 h : gHp} {Q : Option gv → gHp → Prop} {S : MS} {x0 : Int32} {x1 : Int32} {x2 : Int32} {res : Int32 × MS} (hf : f_M_in n S x0 x1 x2 = some res) (hM : MR h0 h m ad S) (hQ : ∀ h', MR h0 h' m ad res.2 → Q (some (.inl res.1)) h') : gCall (d + 1) m_M_in [.inl x0, .inl x1, .inl x2] h Q := by
  unfold f_M_in at hf
  refine g_enter (d := d + 0) (Nat.le_of_ble_eq_true rfl) ?_
  show gWP (gCall (d + 0)) m_M_in Q 0 [some (.inl x0), some (.inl x1), some (.inl x2)] [] h 0 0
  refine w_iload_n rfl rfl ?_
  refine w_iload_n rfl rfl ?_
  refine w_icmp (t := 14) rfl (by decide) (fun c1 => ?_) (fun c1 => ?_)
  · have c1 : x0 < x1 := c1
    rw [if_pos c1] at hf
    refine w_iconst (v := (0 : Int32)) rfl (by decide) ?_
    cases hf
    exact w_ireturn rfl (isZ_ret rfl) (Nat.le_refl _) (Nat.le_refl _) (hQ _ hM)
  · have c1 : ¬ (x0 < x1) := c1
    rw [if_neg c1] at hf
    refine w_iload_n rfl rfl ?_
    refine w_iload_n rfl rfl ?_
    refine w_icmp (t := 14) rfl (by decide) (fun c2 => ?_) (fun c2 => ?_)
    · have c2 : x2 < x0 := c2
      rw [if_pos c2] at hf
      refine w_iconst (v := (0 : Int32)) rfl (by decide) ?_
      cases hf
      exact w_ireturn rfl (isZ_ret rfl) (Nat.le_refl _) (Nat.le_refl _) (hQ _ hM)
    · have c2 : ¬ (x2 < x0) := c2
      rw [if_neg c2] at hf
      refine w_iconst (v := (1 : Int32)) rfl (by decide) ?_
      refine w_goto (t := 15) rfl (by decide) ?_
      cases hf
      exact w_ireturn rfl (isZ_ret rfl) (Nat.le_refl _) (Nat.le_refl _) (hQ _ hM)
def f_M_nearest (n : Nat) (S : MS) (x0 : Int32) (x1 : Int32) (x2 : Int32) : Option (Int32 × MS) := (if x1 ≤ x0 then (if x0 ≤ x2 then some (x0, S) else some (x2, S)) else some (x1, S))
set_option maxHeartbeats 4000000 in
set_option maxRecDepth 100000 in
theorem t_M_nearest {d m n : Nat} {ad : Nat → Nat} {h0 h : gHp} {Q : Option gv → gHp → Prop} {S : MS} {x0 : Int32} {x1 : Int32} {x2 : Int32} {res : Int32 × MS} (hf : f_M_nearest n S x0 x1 x2 = some res) (hM : MR h0 h m ad S) (hQ : ∀ h', MR h0 h' m ad res.2 → Q (some (.inl res.1)) h') : gCall (d + 1) m_M_nearest [.inl x0, .inl x1, .inl x2] h Q := by
  unfold f_M_nearest at hf
  refine g_enter (d := d + 0) (Nat.le_of_ble_eq_true rfl) ?_
  show gWP (gCall (d + 0)) m_M_nearest Q 0 [some (.inl x0), some (.inl x1), some (.inl x2)] [] h 0 0
  refine w_iload_n rfl rfl ?_
  refine w_iload_n rfl rfl ?_
  refine w_icmp (t := 9) rfl (by decide) (fun c1 => ?_) (fun c1 => ?_)
  · have c1 : x1 ≤ x0 := c1
    rw [if_pos c1] at hf
    refine w_iload_n rfl rfl ?_
    refine w_iload_n rfl rfl ?_
    refine w_icmp (t := 18) rfl (by decide) (fun c2 => ?_) (fun c2 => ?_)
    · have c2 : x0 ≤ x2 := c2
      rw [if_pos c2] at hf
      refine w_iload_n rfl rfl ?_
      cases hf
      exact w_ireturn rfl (int_ret _) (Nat.le_refl _) (Nat.le_refl _) (hQ _ hM)
    · have c2 : ¬ (x0 ≤ x2) := c2
      rw [if_neg c2] at hf
      refine w_iload_n rfl rfl ?_
      refine w_goto (t := 19) rfl (by decide) ?_
      cases hf
      exact w_ireturn rfl (int_ret _) (Nat.le_refl _) (Nat.le_refl _) (hQ _ hM)
  · have c1 : ¬ (x1 ≤ x0) := c1
    rw [if_neg c1] at hf
    refine w_iload_n rfl rfl ?_
    refine w_goto (t := 19) rfl (by decide) ?_
    cases hf
    exact w_ireturn rfl (int_ret _) (Nat.le_refl _) (Nat.le_refl _) (hQ _ hM)
def f_M_nextRow (n : Nat) (S : MS) (x1 : Int32) : Option (MS) := (bif inB (x1) 61 then (bif inB (x1) 61 then (bif inB (x1) 61 then some (((S).a 34 (ix (x1)) ((0 : Int32))).a 35 (ix (x1)) ((((S).a 34 (ix (x1)) ((0 : Int32))).2 35 (ix (x1))) + (1 : Int32))) else none) else none) else none)
set_option maxHeartbeats 4000000 in
set_option maxRecDepth 100000 in
theorem t_M_nextRow {d m n : Nat} {ad : Nat → Nat} {h0 h : gHp} {Q : Option gv → gHp → Prop} {S : MS} {x1 : Int32} {res : MS} (hf : f_M_nextRow n S x1 = some res) (hM : MR h0 h m ad S) (hQ : ∀ h', MR h0 h' m ad res → Q (none) h') : gCall (d + 1) m_M_nextRow [.inr (some m), .inl x1] h Q := by
  unfold f_M_nextRow at hf
  refine g_enter (d := d + 0) (Nat.le_of_ble_eq_true rfl) ?_
  show gWP (gCall (d + 0)) m_M_nextRow Q 0 [some (.inr (some m)), some (.inl x1)] [] h 0 0
  refine w_aload_n rfl rfl ?_
  refine m_getR hM rfl rfl rfl (by decide) ?_
  refine w_iload_n rfl rfl ?_
  refine w_iconst (v := (0 : Int32)) rfl (by decide) ?_
  obtain ⟨hb, hf⟩ := g_guard hf
  refine m_st hM rfl rfl (by decide) rfl hb (fun h hM => ?_)
  refine w_aload_n rfl rfl ?_
  refine m_getR hM rfl rfl rfl (by decide) ?_
  refine w_iload_n rfl rfl ?_
  refine w_dup2 rfl ?_
  obtain ⟨hb, hf⟩ := g_guard hf
  refine m_ld hM rfl rfl (by decide) rfl hb ?_
  refine w_iconst (v := (1 : Int32)) rfl (by decide) ?_
  refine w_iadd rfl ?_
  obtain ⟨hb, hf⟩ := g_guard hf
  refine m_st hM rfl rfl (by decide) rfl hb (fun h hM => ?_)
  cases hf
  exact w_return rfl rfl (Nat.le_refl _) (Nat.le_refl _) (hQ _ hM)
def f_M_blank (n : Nat) (S : MS) (x1 : Int32) : Option (MS) := (bif inB (x1) 87840 then (bif inB (x1) 87840 then (bif inB (x1) 87840 then some ((((S).a 29 (ix (x1)) ((32 : Int32))).a 30 (ix (x1)) ((0 : Int32))).a 31 (ix (x1)) ((0 : Int32))) else none) else none) else none)
set_option maxHeartbeats 4000000 in
set_option maxRecDepth 100000 in
theorem t_M_blank {d m n : Nat} {ad : Nat → Nat} {h0 h : gHp} {Q : Option gv → gHp → Prop} {S : MS} {x1 : Int32} {res : MS} (hf : f_M_blank n S x1 = some res) (hM : MR h0 h m ad S) (hQ : ∀ h', MR h0 h' m ad res → Q (none) h') : gCall (d + 1) m_M_blank [.inr (some m), .inl x1] h Q := by
  unfold f_M_blank at hf
  refine g_enter (d := d + 0) (Nat.le_of_ble_eq_true rfl) ?_
  show gWP (gCall (d + 0)) m_M_blank Q 0 [some (.inr (some m)), some (.inl x1)] [] h 0 0
  refine w_aload_n rfl rfl ?_
  refine m_getR hM rfl rfl rfl (by decide) ?_
  refine w_iload_n rfl rfl ?_
  refine w_bipush (v := (32 : Int32)) rfl (by decide) ?_
  obtain ⟨hb, hf⟩ := g_guard hf
  refine m_st hM rfl rfl (by decide) rfl hb (fun h hM => ?_)
  refine w_aload_n rfl rfl ?_
  refine m_getR hM rfl rfl rfl (by decide) ?_
  refine w_iload_n rfl rfl ?_
  refine w_iconst (v := (0 : Int32)) rfl (by decide) ?_
  obtain ⟨hb, hf⟩ := g_guard hf
  refine m_st hM rfl rfl (by decide) rfl hb (fun h hM => ?_)
  refine w_aload_n rfl rfl ?_
  refine m_getR hM rfl rfl rfl (by decide) ?_
  refine w_iload_n rfl rfl ?_
  refine w_iconst (v := (0 : Int32)) rfl (by decide) ?_
  obtain ⟨hb, hf⟩ := g_guard hf
  refine m_st hM rfl rfl (by decide) rfl hb (fun h hM => ?_)
  cases hf
  exact w_return rfl rfl (Nat.le_refl _) (Nat.le_refl _) (hQ _ hM)
def f_M_isWritable (n : Nat) (S : MS) (x1 : Int32) : Option (Int32 × MS) := (bif inB (x1) 61 then (if ((S).2 5 (ix (x1))) = (1 : Int32) then some ((1 : Int32), S) else (bif inB (x1) 61 then (if ((S).2 5 (ix (x1))) = (2 : Int32) then some ((1 : Int32), S) else some ((0 : Int32), S)) else none)) else none)
set_option maxHeartbeats 4000000 in
set_option maxRecDepth 100000 in
theorem t_M_isWritable {d m n : Nat} {ad : Nat → Nat} {h0 h : gHp} {Q : Option gv → gHp → Prop} {S : MS} {x1 : Int32} {res : Int32 × MS} (hf : f_M_isWritable n S x1 = some res) (hM : MR h0 h m ad S) (hQ : ∀ h', MR h0 h' m ad res.2 → Q (some (.inl res.1)) h') : gCall (d + 1) m_M_isWritable [.inr (some m), .inl x1] h Q := by
  unfold f_M_isWritable at hf
  refine g_enter (d := d + 0) (Nat.le_of_ble_eq_true rfl) ?_
  show gWP (gCall (d + 0)) m_M_isWritable Q 0 [some (.inr (some m)), some (.inl x1)] [] h 0 0
  refine w_aload_n rfl rfl ?_
  refine m_getR hM rfl rfl rfl (by decide) ?_
  refine w_iload_n rfl rfl ?_
  obtain ⟨hb, hf⟩ := g_guard hf
  refine m_ld hM rfl rfl (by decide) rfl hb ?_
  refine w_iconst (v := (1 : Int32)) rfl (by decide) ?_
  refine w_icmp (t := 20) rfl (by decide) (fun c1 => ?_) (fun c1 => ?_)
  · have c1 : ((S).2 5 (ix (x1))) = (1 : Int32) := c1
    rw [if_pos c1] at hf
    refine w_iconst (v := (1 : Int32)) rfl (by decide) ?_
    refine w_goto (t := 25) rfl (by decide) ?_
    cases hf
    exact w_ireturn rfl (isZ_ret rfl) (Nat.le_refl _) (Nat.le_refl _) (hQ _ hM)
  · have c1 : ¬ (((S).2 5 (ix (x1))) = (1 : Int32)) := c1
    rw [if_neg c1] at hf
    refine w_aload_n rfl rfl ?_
    refine m_getR hM rfl rfl rfl (by decide) ?_
    refine w_iload_n rfl rfl ?_
    obtain ⟨hb, hf⟩ := g_guard hf
    refine m_ld hM rfl rfl (by decide) rfl hb ?_
    refine w_iconst (v := (2 : Int32)) rfl (by decide) ?_
    refine w_icmp (t := 24) rfl (by decide) (fun c2 => ?_) (fun c2 => ?_)
    · have c2 : ¬ (((S).2 5 (ix (x1))) = (2 : Int32)) := c2
      rw [if_neg c2] at hf
      refine w_iconst (v := (0 : Int32)) rfl (by decide) ?_
      cases hf
      exact w_ireturn rfl (isZ_ret rfl) (Nat.le_refl _) (Nat.le_refl _) (hQ _ hM)
    · have c2 : ((S).2 5 (ix (x1))) = (2 : Int32) := Classical.not_not.mp c2
      rw [if_pos c2] at hf
      refine w_iconst (v := (1 : Int32)) rfl (by decide) ?_
      refine w_goto (t := 25) rfl (by decide) ?_
      cases hf
      exact w_ireturn rfl (isZ_ret rfl) (Nat.le_refl _) (Nat.le_refl _) (hQ _ hM)
def f_M_isCell (n : Nat) (S : MS) (x1 : Int32) (x2 : Int32) (x3 : Int32) : Option (Int32 × MS) := (bif inB (x1) 61 then (if ((S).2 14 (ix (x1))) ≤ x2 then some ((0 : Int32), S) else (bif inB (x1) 61 then (if ((S).2 15 (ix (x1))) ≤ x3 then some ((0 : Int32), S) else some ((1 : Int32), S)) else none)) else none)
set_option maxHeartbeats 4000000 in
set_option maxRecDepth 100000 in
theorem t_M_isCell {d m n : Nat} {ad : Nat → Nat} {h0 h : gHp} {Q : Option gv → gHp → Prop} {S : MS} {x1 : Int32} {x2 : Int32} {x3 : Int32} {res : Int32 × MS} (hf : f_M_isCell n S x1 x2 x3 = some res) (hM : MR h0 h m ad S) (hQ : ∀ h', MR h0 h' m ad res.2 → Q (some (.inl res.1)) h') : gCall (d + 1) m_M_isCell [.inr (some m), .inl x1, .inl x2, .inl x3] h Q := by
  unfold f_M_isCell at hf
  refine g_enter (d := d + 0) (Nat.le_of_ble_eq_true rfl) ?_
  show gWP (gCall (d + 0)) m_M_isCell Q 0 [some (.inr (some m)), some (.inl x1), some (.inl x2), some (.inl x3)] [] h 0 0
  refine w_iload_n rfl rfl ?_
  refine w_aload_n rfl rfl ?_
  refine m_getR hM rfl rfl rfl (by decide) ?_
  refine w_iload_n rfl rfl ?_
  obtain ⟨hb, hf⟩ := g_guard hf
  refine m_ld hM rfl rfl (by decide) rfl hb ?_
  refine w_icmp (t := 24) rfl (by decide) (fun c1 => ?_) (fun c1 => ?_)
  · have c1 : ((S).2 14 (ix (x1))) ≤ x2 := c1
    rw [if_pos c1] at hf
    refine w_iconst (v := (0 : Int32)) rfl (by decide) ?_
    cases hf
    exact w_ireturn rfl (isZ_ret rfl) (Nat.le_refl _) (Nat.le_refl _) (hQ _ hM)
  · have c1 : ¬ (((S).2 14 (ix (x1))) ≤ x2) := c1
    rw [if_neg c1] at hf
    refine w_iload_n rfl rfl ?_
    refine w_aload_n rfl rfl ?_
    refine m_getR hM rfl rfl rfl (by decide) ?_
    refine w_iload_n rfl rfl ?_
    obtain ⟨hb, hf⟩ := g_guard hf
    refine m_ld hM rfl rfl (by decide) rfl hb ?_
    refine w_icmp (t := 24) rfl (by decide) (fun c2 => ?_) (fun c2 => ?_)
    · have c2 : ((S).2 15 (ix (x1))) ≤ x3 := c2
      rw [if_pos c2] at hf
      refine w_iconst (v := (0 : Int32)) rfl (by decide) ?_
      cases hf
      exact w_ireturn rfl (isZ_ret rfl) (Nat.le_refl _) (Nat.le_refl _) (hQ _ hM)
    · have c2 : ¬ (((S).2 15 (ix (x1))) ≤ x3) := c2
      rw [if_neg c2] at hf
      refine w_iconst (v := (1 : Int32)) rfl (by decide) ?_
      refine w_goto (t := 25) rfl (by decide) ?_
      cases hf
      exact w_ireturn rfl (isZ_ret rfl) (Nat.le_refl _) (Nat.le_refl _) (hQ _ hM)
def f_M_line (n : Nat) (S : MS) (x1 : Int32) (x2 : Int32) : Option (MS) := (bif inB ((S).1 38) 900 then (bif inB (((S).a 39 (ix ((S).1 38)) (x1)).1 38) 900 then some ((((S).a 39 (ix ((S).1 38)) (x1)).a 40 (ix (((S).a 39 (ix ((S).1 38)) (x1)).1 38)) (x2)).f 38 (((((S).a 39 (ix ((S).1 38)) (x1)).a 40 (ix (((S).a 39 (ix ((S).1 38)) (x1)).1 38)) (x2)).1 38) + (1 : Int32))) else none) else none)
set_option maxHeartbeats 4000000 in
set_option maxRecDepth 100000 in
theorem t_M_line {d m n : Nat} {ad : Nat → Nat} {h0 h : gHp} {Q : Option gv → gHp → Prop} {S : MS} {x1 : Int32} {x2 : Int32} {res : MS} (hf : f_M_line n S x1 x2 = some res) (hM : MR h0 h m ad S) (hQ : ∀ h', MR h0 h' m ad res → Q (none) h') : gCall (d + 1) m_M_line [.inr (some m), .inl x1, .inl x2] h Q := by
  unfold f_M_line at hf
  refine g_enter (d := d + 0) (Nat.le_of_ble_eq_true rfl) ?_
  show gWP (gCall (d + 0)) m_M_line Q 0 [some (.inr (some m)), some (.inl x1), some (.inl x2)] [] h 0 0
  refine w_aload_n rfl rfl ?_
  refine m_getR hM rfl rfl rfl (by decide) ?_
  refine w_aload_n rfl rfl ?_
  refine m_getI hM rfl rfl rfl ?_
  refine w_iload_n rfl rfl ?_
  obtain ⟨hb, hf⟩ := g_guard hf
  refine m_st hM rfl rfl (by decide) rfl hb (fun h hM => ?_)
  refine w_aload_n rfl rfl ?_
  refine m_getR hM rfl rfl rfl (by decide) ?_
  refine w_aload_n rfl rfl ?_
  refine m_getI hM rfl rfl rfl ?_
  refine w_iload_n rfl rfl ?_
  obtain ⟨hb, hf⟩ := g_guard hf
  refine m_st hM rfl rfl (by decide) rfl hb (fun h hM => ?_)
  refine w_aload_n rfl rfl ?_
  refine w_dup rfl ?_
  refine m_getI hM rfl rfl rfl ?_
  refine w_iconst (v := (1 : Int32)) rfl (by decide) ?_
  refine w_iadd rfl ?_
  refine m_putI hM rfl rfl rfl rfl (nar_int _) (fun h hM => ?_)
  cases hf
  exact w_return rfl rfl (Nat.le_refl _) (Nat.le_refl _) (hQ _ hM)
def f_M_isWithin_B2 : Nat → MS → Int32 → Int32 → Option (Int32 × MS)
  | 0, _, _, _ => none
  | n + 1, S, x2, x3 => (if x3 ≤ (0 : Int32) then (if x3 = x2 then some ((1 : Int32), S) else some ((0 : Int32), S)) else (if x3 = x2 then (if x3 = x2 then some ((1 : Int32), S) else some ((0 : Int32), S)) else (bif inB (x3) 61 then f_M_isWithin_B2 n (S) (x2) ((S).2 6 (ix (x3))) else none)))
set_option maxHeartbeats 4000000 in
set_option maxRecDepth 100000 in
theorem t_M_isWithin_B2 {d m : Nat} {ad : Nat → Nat} {h0 : gHp} {Q : Option gv → gHp → Prop} {res : Int32 × MS} (hQ : ∀ h', MR h0 h' m ad res.2 → Q (some (.inl res.1)) h') : ∀ (n : Nat) (S : MS) (x2 : Int32) (x3 : Int32) (u1 : Option gv) (h : gHp), f_M_isWithin_B2 n S x2 x3  = some res → MR h0 h m ad S → gWP (gCall (d + 0)) m_M_isWithin Q 2 [some (.inr (some m)), u1, some (.inl x2), some (.inl x3)] [] h 0 0 := by
  intro n
  induction n with
  | zero =>
    intro S x2 x3  u1 h hf
    cases hf
  | succ n ih =>
    intro S x2 x3  u1 h hf hM
    unfold f_M_isWithin_B2 at hf
    refine w_iload_n rfl rfl ?_
    refine w_if (t := 21) rfl (by decide) (fun c1 => ?_) (fun c1 => ?_)
    · have c1 : x3 ≤ (0 : Int32) := c1
      rw [if_pos c1] at hf
      refine w_iload_n rfl rfl ?_
      refine w_iload_n rfl rfl ?_
      refine w_icmp (t := 30) rfl (by decide) (fun c2 => ?_) (fun c2 => ?_)
      · have c2 : ¬ (x3 = x2) := c2
        rw [if_neg c2] at hf
        refine w_iconst (v := (0 : Int32)) rfl (by decide) ?_
        cases hf
        exact w_ireturn rfl (isZ_ret rfl) (Nat.le_refl _) (Nat.le_refl _) (hQ _ hM)
      · have c2 : x3 = x2 := Classical.not_not.mp c2
        rw [if_pos c2] at hf
        refine w_iconst (v := (1 : Int32)) rfl (by decide) ?_
        refine w_goto (t := 31) rfl (by decide) ?_
        cases hf
        exact w_ireturn rfl (isZ_ret rfl) (Nat.le_refl _) (Nat.le_refl _) (hQ _ hM)
    · have c1 : ¬ (x3 ≤ (0 : Int32)) := c1
      rw [if_neg c1] at hf
      refine w_iload_n rfl rfl ?_
      refine w_iload_n rfl rfl ?_
      refine w_icmp (t := 21) rfl (by decide) (fun c2 => ?_) (fun c2 => ?_)
      · have c2 : x3 = x2 := c2
        rw [if_pos c2] at hf
        refine w_iload_n rfl rfl ?_
        refine w_iload_n rfl rfl ?_
        refine w_icmp (t := 30) rfl (by decide) (fun c3 => ?_) (fun c3 => ?_)
        · have c3 : ¬ (x3 = x2) := c3
          rw [if_neg c3] at hf
          refine w_iconst (v := (0 : Int32)) rfl (by decide) ?_
          cases hf
          exact w_ireturn rfl (isZ_ret rfl) (Nat.le_refl _) (Nat.le_refl _) (hQ _ hM)
        · have c3 : x3 = x2 := Classical.not_not.mp c3
          rw [if_pos c3] at hf
          refine w_iconst (v := (1 : Int32)) rfl (by decide) ?_
          refine w_goto (t := 31) rfl (by decide) ?_
          cases hf
          exact w_ireturn rfl (isZ_ret rfl) (Nat.le_refl _) (Nat.le_refl _) (hQ _ hM)
      · have c2 : ¬ (x3 = x2) := c2
        rw [if_neg c2] at hf
        refine w_aload_n rfl rfl ?_
        refine m_getR hM rfl rfl rfl (by decide) ?_
        refine w_iload_n rfl rfl ?_
        obtain ⟨hb, hf⟩ := g_guard hf
        refine m_ld hM rfl rfl (by decide) rfl hb ?_
        refine w_istore_n rfl (Nat.le_of_ble_eq_true rfl) rfl ?_
        refine w_goto (t := 2) rfl (by decide) ?_
        exact ih _ (x2) ((S).2 6 (ix (x3))) _ _ hf hM
def f_M_isWithin (n : Nat) (S : MS) (x1 : Int32) (x2 : Int32) : Option (Int32 × MS) := f_M_isWithin_B2  n (S) (x2) (x1)
set_option maxHeartbeats 4000000 in
set_option maxRecDepth 100000 in
theorem t_M_isWithin {d m n : Nat} {ad : Nat → Nat} {h0 h : gHp} {Q : Option gv → gHp → Prop} {S : MS} {x1 : Int32} {x2 : Int32} {res : Int32 × MS} (hf : f_M_isWithin n S x1 x2 = some res) (hM : MR h0 h m ad S) (hQ : ∀ h', MR h0 h' m ad res.2 → Q (some (.inl res.1)) h') : gCall (d + 1) m_M_isWithin [.inr (some m), .inl x1, .inl x2] h Q := by
  unfold f_M_isWithin at hf
  refine g_enter (d := d + 0) (Nat.le_of_ble_eq_true rfl) ?_
  show gWP (gCall (d + 0)) m_M_isWithin Q 0 [some (.inr (some m)), some (.inl x1), some (.inl x2), none] [] h 0 0
  refine w_iload_n rfl rfl ?_
  refine w_istore_n rfl (Nat.le_of_ble_eq_true rfl) rfl ?_
  exact t_M_isWithin_B2  hQ _ _ (x2) (x1) _ _ hf hM
def f_M_move_B2 : Nat → MS → Int32 → Int32 → Int32 → Option (MS)
  | 0, _, _, _, _ => none
  | n + 1, S, x1, x2, x3 => (if (44 : Int32) ≤ x3 then some (S) else (bif inB (((44 : Int32) * x1) + x3) 924 then (bif inB (((44 : Int32) * x2) + x3) 924 then f_M_move_B2 n ((S).a 43 (ix (((44 : Int32) * x2) + x3)) ((S).2 43 (ix (((44 : Int32) * x1) + x3)))) (x1) (x2) (x3 + (1 : Int32)) else none) else none))
set_option maxHeartbeats 4000000 in
set_option maxRecDepth 100000 in
theorem t_M_move_B2 {d m : Nat} {ad : Nat → Nat} {h0 : gHp} {Q : Option gv → gHp → Prop} {res : MS} (hQ : ∀ h', MR h0 h' m ad res → Q (none) h') : ∀ (n : Nat) (S : MS) (x1 : Int32) (x2 : Int32) (x3 : Int32) (h : gHp), f_M_move_B2 n S x1 x2 x3  = some res → MR h0 h m ad S → gWP (gCall (d + 0)) m_M_move Q 2 [some (.inr (some m)), some (.inl x1), some (.inl x2), some (.inl x3)] [] h 0 0 := by
  intro n
  induction n with
  | zero =>
    intro S x1 x2 x3   h hf
    cases hf
  | succ n ih =>
    intro S x1 x2 x3   h hf hM
    unfold f_M_move_B2 at hf
    refine w_iload_n rfl rfl ?_
    refine w_bipush (v := (44 : Int32)) rfl (by decide) ?_
    refine w_icmp (t := 36) rfl (by decide) (fun c1 => ?_) (fun c1 => ?_)
    · have c1 : (44 : Int32) ≤ x3 := c1
      rw [if_pos c1] at hf
      cases hf
      exact w_return rfl rfl (Nat.le_refl _) (Nat.le_refl _) (hQ _ hM)
    · have c1 : ¬ ((44 : Int32) ≤ x3) := c1
      rw [if_neg c1] at hf
      refine w_aload_n rfl rfl ?_
      refine m_getR hM rfl rfl rfl (by decide) ?_
      refine w_bipush (v := (44 : Int32)) rfl (by decide) ?_
      refine w_iload_n rfl rfl ?_
      refine w_imul rfl ?_
      refine w_iload_n rfl rfl ?_
      refine w_iadd rfl ?_
      refine w_aload_n rfl rfl ?_
      refine m_getR hM rfl rfl rfl (by decide) ?_
      refine w_bipush (v := (44 : Int32)) rfl (by decide) ?_
      refine w_iload_n rfl rfl ?_
      refine w_imul rfl ?_
      refine w_iload_n rfl rfl ?_
      refine w_iadd rfl ?_
      obtain ⟨hb, hf⟩ := g_guard hf
      refine m_ld hM rfl rfl (by decide) rfl hb ?_
      obtain ⟨hb, hf⟩ := g_guard hf
      refine m_st hM rfl rfl (by decide) rfl hb (fun h hM => ?_)
      refine w_iinc (v := (1 : Int32)) rfl rfl (by decide) rfl ?_
      refine w_goto (t := 2) rfl (by decide) ?_
      exact ih _ (x1) (x2) (x3 + (1 : Int32))  _ hf hM
def f_M_move (n : Nat) (S : MS) (x1 : Int32) (x2 : Int32) : Option (MS) := f_M_move_B2  n (S) (x1) (x2) ((0 : Int32))
set_option maxHeartbeats 4000000 in
set_option maxRecDepth 100000 in
theorem t_M_move {d m n : Nat} {ad : Nat → Nat} {h0 h : gHp} {Q : Option gv → gHp → Prop} {S : MS} {x1 : Int32} {x2 : Int32} {res : MS} (hf : f_M_move n S x1 x2 = some res) (hM : MR h0 h m ad S) (hQ : ∀ h', MR h0 h' m ad res → Q (none) h') : gCall (d + 1) m_M_move [.inr (some m), .inl x1, .inl x2] h Q := by
  unfold f_M_move at hf
  refine g_enter (d := d + 0) (Nat.le_of_ble_eq_true rfl) ?_
  show gWP (gCall (d + 0)) m_M_move Q 0 [some (.inr (some m)), some (.inl x1), some (.inl x2), none] [] h 0 0
  refine w_iconst (v := (0 : Int32)) rfl (by decide) ?_
  refine w_istore_n rfl (Nat.le_of_ble_eq_true rfl) rfl ?_
  exact t_M_move_B2  hQ _ _ (x1) (x2) ((0 : Int32))  _ hf hM
def f_M_make (n : Nat) (S : MS) (x1 : Int32) : Option (Int32 × MS) := (bif inB (((S).f 2 (((S).1 2) + (1 : Int32))).1 2) 61 then (bif isZ ((1 : Int32)) then (bif inB (((S).f 2 (((S).1 2) + (1 : Int32))).1 2) 61 then (bif inB (((S).f 2 (((S).1 2) + (1 : Int32))).1 2) 61 then some (((S).f 2 (((S).1 2) + (1 : Int32))).1 2, ((((S).f 2 (((S).1 2) + (1 : Int32))).a 4 (ix (((S).f 2 (((S).1 2) + (1 : Int32))).1 2)) ((1 : Int32))).a 5 (ix (((S).f 2 (((S).1 2) + (1 : Int32))).1 2)) (x1)).a 6 (ix (((S).f 2 (((S).1 2) + (1 : Int32))).1 2)) ((0 : Int32))) else none) else none) else none) else none)
set_option maxHeartbeats 4000000 in
set_option maxRecDepth 100000 in
theorem t_M_make {d m n : Nat} {ad : Nat → Nat} {h0 h : gHp} {Q : Option gv → gHp → Prop} {S : MS} {x1 : Int32} {res : Int32 × MS} (hf : f_M_make n S x1 = some res) (hM : MR h0 h m ad S) (hQ : ∀ h', MR h0 h' m ad res.2 → Q (some (.inl res.1)) h') : gCall (d + 1) m_M_make [.inr (some m), .inl x1] h Q := by
  unfold f_M_make at hf
  refine g_enter (d := d + 0) (Nat.le_of_ble_eq_true rfl) ?_
  show gWP (gCall (d + 0)) m_M_make Q 0 [some (.inr (some m)), some (.inl x1), none] [] h 0 0
  refine w_aload_n rfl rfl ?_
  refine w_dup rfl ?_
  refine m_getI hM rfl rfl rfl ?_
  refine w_iconst (v := (1 : Int32)) rfl (by decide) ?_
  refine w_iadd rfl ?_
  refine m_putI hM rfl rfl rfl rfl (nar_int _) (fun h hM => ?_)
  refine w_aload_n rfl rfl ?_
  refine m_getI hM rfl rfl rfl ?_
  refine w_istore_n rfl (Nat.le_of_ble_eq_true rfl) rfl ?_
  refine w_aload_n rfl rfl ?_
  refine m_getR hM rfl rfl rfl (by decide) ?_
  refine w_iload_n rfl rfl ?_
  refine w_iconst (v := (1 : Int32)) rfl (by decide) ?_
  obtain ⟨hb, hf⟩ := g_guard hf
  obtain ⟨hz, hf⟩ := g_guard hf
  refine m_zst hM rfl rfl (by decide) rfl hb hz (fun h hM => ?_)
  refine w_aload_n rfl rfl ?_
  refine m_getR hM rfl rfl rfl (by decide) ?_
  refine w_iload_n rfl rfl ?_
  refine w_iload_n rfl rfl ?_
  obtain ⟨hb, hf⟩ := g_guard hf
  refine m_st hM rfl rfl (by decide) rfl hb (fun h hM => ?_)
  refine w_aload_n rfl rfl ?_
  refine m_getR hM rfl rfl rfl (by decide) ?_
  refine w_iload_n rfl rfl ?_
  refine w_iconst (v := (0 : Int32)) rfl (by decide) ?_
  obtain ⟨hb, hf⟩ := g_guard hf
  refine m_st hM rfl rfl (by decide) rfl hb (fun h hM => ?_)
  refine w_iload_n rfl rfl ?_
  cases hf
  exact w_ireturn rfl (int_ret _) (Nat.le_refl _) (Nat.le_refl _) (hQ _ hM)
def f_M_leaves_B4 : Nat → MS → Int32 → Int32 → Option (Int32 × MS)
  | 0, _, _, _ => none
  | n + 1, S, x1, x2 => (if ((S).1 2) < x2 then some (x1, S) else (bif inB (x2) 61 then (if ((S).2 4 (ix (x2))) = (0 : Int32) then f_M_leaves_B4 n (S) (x1 + (0 : Int32)) (x2 + (1 : Int32)) else (bif inB (x2) 61 then (if ((S).2 5 (ix (x2))) = (4 : Int32) then f_M_leaves_B4 n (S) (x1 + (0 : Int32)) (x2 + (1 : Int32)) else f_M_leaves_B4 n (S) (x1 + (1 : Int32)) (x2 + (1 : Int32))) else none)) else none))
set_option maxHeartbeats 4000000 in
set_option maxRecDepth 100000 in
theorem t_M_leaves_B4 {d m : Nat} {ad : Nat → Nat} {h0 : gHp} {Q : Option gv → gHp → Prop} {res : Int32 × MS} (hQ : ∀ h', MR h0 h' m ad res.2 → Q (some (.inl res.1)) h') : ∀ (n : Nat) (S : MS) (x1 : Int32) (x2 : Int32) (h : gHp), f_M_leaves_B4 n S x1 x2  = some res → MR h0 h m ad S → gWP (gCall (d + 0)) m_M_leaves Q 4 [some (.inr (some m)), some (.inl x1), some (.inl x2)] [] h 0 0 := by
  intro n
  induction n with
  | zero =>
    intro S x1 x2   h hf
    cases hf
  | succ n ih =>
    intro S x1 x2   h hf hM
    unfold f_M_leaves_B4 at hf
    refine w_iload_n rfl rfl ?_
    refine w_aload_n rfl rfl ?_
    refine m_getI hM rfl rfl rfl ?_
    refine w_icmp (t := 45) rfl (by decide) (fun c1 => ?_) (fun c1 => ?_)
    · have c1 : ((S).1 2) < x2 := c1
      rw [if_pos c1] at hf
      refine w_iload_n rfl rfl ?_
      cases hf
      exact w_ireturn rfl (int_ret _) (Nat.le_refl _) (Nat.le_refl _) (hQ _ hM)
    · have c1 : ¬ (((S).1 2) < x2) := c1
      rw [if_neg c1] at hf
      refine w_iload_n rfl rfl ?_
      refine w_aload_n rfl rfl ?_
      refine m_getR hM rfl rfl rfl (by decide) ?_
      refine w_iload_n rfl rfl ?_
      obtain ⟨hb, hf⟩ := g_guard hf
      refine m_zld hM rfl rfl (by decide) rfl hb ?_
      refine w_if (t := 36) rfl (by decide) (fun c2 => ?_) (fun c2 => ?_)
      · have c2 : ((S).2 4 (ix (x2))) = (0 : Int32) := c2
        rw [if_pos c2] at hf
        refine w_iconst (v := (0 : Int32)) rfl (by decide) ?_
        refine w_iadd rfl ?_
        refine w_istore_n rfl (Nat.le_of_ble_eq_true rfl) rfl ?_
        refine w_iinc (v := (1 : Int32)) rfl rfl (by decide) rfl ?_
        refine w_goto (t := 4) rfl (by decide) ?_
        exact ih _ (x1 + (0 : Int32)) (x2 + (1 : Int32))  _ hf hM
      · have c2 : ¬ (((S).2 4 (ix (x2))) = (0 : Int32)) := c2
        rw [if_neg c2] at hf
        refine w_aload_n rfl rfl ?_
        refine m_getR hM rfl rfl rfl (by decide) ?_
        refine w_iload_n rfl rfl ?_
        obtain ⟨hb, hf⟩ := g_guard hf
        refine m_ld hM rfl rfl (by decide) rfl hb ?_
        refine w_iconst (v := (4 : Int32)) rfl (by decide) ?_
        refine w_icmp (t := 36) rfl (by decide) (fun c3 => ?_) (fun c3 => ?_)
        · have c3 : ((S).2 5 (ix (x2))) = (4 : Int32) := c3
          rw [if_pos c3] at hf
          refine w_iconst (v := (0 : Int32)) rfl (by decide) ?_
          refine w_iadd rfl ?_
          refine w_istore_n rfl (Nat.le_of_ble_eq_true rfl) rfl ?_
          refine w_iinc (v := (1 : Int32)) rfl rfl (by decide) rfl ?_
          refine w_goto (t := 4) rfl (by decide) ?_
          exact ih _ (x1 + (0 : Int32)) (x2 + (1 : Int32))  _ hf hM
        · have c3 : ¬ (((S).2 5 (ix (x2))) = (4 : Int32)) := c3
          rw [if_neg c3] at hf
          refine w_iconst (v := (1 : Int32)) rfl (by decide) ?_
          refine w_goto (t := 37) rfl (by decide) ?_
          refine w_iadd rfl ?_
          refine w_istore_n rfl (Nat.le_of_ble_eq_true rfl) rfl ?_
          refine w_iinc (v := (1 : Int32)) rfl rfl (by decide) rfl ?_
          refine w_goto (t := 4) rfl (by decide) ?_
          exact ih _ (x1 + (1 : Int32)) (x2 + (1 : Int32))  _ hf hM
def f_M_leaves (n : Nat) (S : MS) : Option (Int32 × MS) := f_M_leaves_B4  n (S) ((0 : Int32)) ((1 : Int32))
set_option maxHeartbeats 4000000 in
set_option maxRecDepth 100000 in
theorem t_M_leaves {d m n : Nat} {ad : Nat → Nat} {h0 h : gHp} {Q : Option gv → gHp → Prop} {S : MS} {res : Int32 × MS} (hf : f_M_leaves n S  = some res) (hM : MR h0 h m ad S) (hQ : ∀ h', MR h0 h' m ad res.2 → Q (some (.inl res.1)) h') : gCall (d + 1) m_M_leaves [.inr (some m)] h Q := by
  unfold f_M_leaves at hf
  refine g_enter (d := d + 0) (Nat.le_of_ble_eq_true rfl) ?_
  show gWP (gCall (d + 0)) m_M_leaves Q 0 [some (.inr (some m)), none, none] [] h 0 0
  refine w_iconst (v := (0 : Int32)) rfl (by decide) ?_
  refine w_istore_n rfl (Nat.le_of_ble_eq_true rfl) rfl ?_
  refine w_iconst (v := (1 : Int32)) rfl (by decide) ?_
  refine w_istore_n rfl (Nat.le_of_ble_eq_true rfl) rfl ?_
  exact t_M_leaves_B4  hQ _ _ ((0 : Int32)) ((1 : Int32))  _ hf hM
def f_M_signAt (n : Nat) (S : MS) (x1 : Int32) (x2 : Int32) : Option (Int32 × MS) := (bif inB (x1) 61 then (if ((S).2 25 (ix (x1))) ≤ x2 then (bif inB (x1) 61 then (bif inB ((((40 : Int32) * x1) + x2) - ((S).2 25 (ix (x1)))) 2440 then some ((S).2 24 (ix ((((40 : Int32) * x1) + x2) - ((S).2 25 (ix (x1))))), S) else none) else none) else (bif inB (((400 : Int32) * x1) + x2) 24400 then some ((S).2 26 (ix (((400 : Int32) * x1) + x2)), S) else none)) else none)
set_option maxHeartbeats 4000000 in
set_option maxRecDepth 100000 in
theorem t_M_signAt {d m n : Nat} {ad : Nat → Nat} {h0 h : gHp} {Q : Option gv → gHp → Prop} {S : MS} {x1 : Int32} {x2 : Int32} {res : Int32 × MS} (hf : f_M_signAt n S x1 x2 = some res) (hM : MR h0 h m ad S) (hQ : ∀ h', MR h0 h' m ad res.2 → Q (some (.inl res.1)) h') : gCall (d + 1) m_M_signAt [.inr (some m), .inl x1, .inl x2] h Q := by
  unfold f_M_signAt at hf
  refine g_enter (d := d + 0) (Nat.le_of_ble_eq_true rfl) ?_
  show gWP (gCall (d + 0)) m_M_signAt Q 0 [some (.inr (some m)), some (.inl x1), some (.inl x2)] [] h 0 0
  refine w_iload_n rfl rfl ?_
  refine w_aload_n rfl rfl ?_
  refine m_getR hM rfl rfl rfl (by decide) ?_
  refine w_iload_n rfl rfl ?_
  obtain ⟨hb, hf⟩ := g_guard hf
  refine m_ld hM rfl rfl (by decide) rfl hb ?_
  refine w_icmp (t := 25) rfl (by decide) (fun c1 => ?_) (fun c1 => ?_)
  · have c1 : ((S).2 25 (ix (x1))) ≤ x2 := c1
    rw [if_pos c1] at hf
    refine w_aload_n rfl rfl ?_
    refine m_getR hM rfl rfl rfl (by decide) ?_
    refine w_bipush (v := (40 : Int32)) rfl (by decide) ?_
    refine w_iload_n rfl rfl ?_
    refine w_imul rfl ?_
    refine w_iload_n rfl rfl ?_
    refine w_iadd rfl ?_
    refine w_aload_n rfl rfl ?_
    refine m_getR hM rfl rfl rfl (by decide) ?_
    refine w_iload_n rfl rfl ?_
    obtain ⟨hb, hf⟩ := g_guard hf
    refine m_ld hM rfl rfl (by decide) rfl hb ?_
    refine w_isub rfl ?_
    obtain ⟨hb, hf⟩ := g_guard hf
    refine m_ld hM rfl rfl (by decide) rfl hb ?_
    cases hf
    exact w_ireturn rfl (int_ret _) (Nat.le_refl _) (Nat.le_refl _) (hQ _ hM)
  · have c1 : ¬ (((S).2 25 (ix (x1))) ≤ x2) := c1
    rw [if_neg c1] at hf
    refine w_aload_n rfl rfl ?_
    refine m_getR hM rfl rfl rfl (by decide) ?_
    refine w_sipush (v := (400 : Int32)) rfl (by decide) ?_
    refine w_iload_n rfl rfl ?_
    refine w_imul rfl ?_
    refine w_iload_n rfl rfl ?_
    refine w_iadd rfl ?_
    obtain ⟨hb, hf⟩ := g_guard hf
    refine m_ld hM rfl rfl (by decide) rfl hb ?_
    refine w_goto (t := 43) rfl (by decide) ?_
    cases hf
    exact w_ireturn rfl (int_ret _) (Nat.le_refl _) (Nat.le_refl _) (hQ _ hM)
def f_M_put (n : Nat) (S : MS) (x1 : Int32) (x2 : Int32) : Option (MS) := (bif inB (x2) 61 then (bif inB (x1) 61 then (if ((S).2 6 (ix (x2))) = (0 : Int32) then some (((S).a 6 (ix (x1)) ((S).2 6 (ix (x2)))).f 3 (x1)) else (bif inB ((S).2 6 (ix (x2))) 61 then (if (((S).a 6 (ix (x1)) ((S).2 6 (ix (x2)))).2 7 (ix ((S).2 6 (ix (x2))))) = x2 then (bif inB ((S).2 6 (ix (x2))) 61 then some (((S).a 6 (ix (x1)) ((S).2 6 (ix (x2)))).a 7 (ix ((S).2 6 (ix (x2)))) (x1)) else none) else (bif inB ((S).2 6 (ix (x2))) 61 then some (((S).a 6 (ix (x1)) ((S).2 6 (ix (x2)))).a 8 (ix ((S).2 6 (ix (x2)))) (x1)) else none)) else none)) else none) else none)
set_option maxHeartbeats 4000000 in
set_option maxRecDepth 100000 in
theorem t_M_put {d m n : Nat} {ad : Nat → Nat} {h0 h : gHp} {Q : Option gv → gHp → Prop} {S : MS} {x1 : Int32} {x2 : Int32} {res : MS} (hf : f_M_put n S x1 x2 = some res) (hM : MR h0 h m ad S) (hQ : ∀ h', MR h0 h' m ad res → Q (none) h') : gCall (d + 1) m_M_put [.inr (some m), .inl x1, .inl x2] h Q := by
  unfold f_M_put at hf
  refine g_enter (d := d + 0) (Nat.le_of_ble_eq_true rfl) ?_
  show gWP (gCall (d + 0)) m_M_put Q 0 [some (.inr (some m)), some (.inl x1), some (.inl x2), none] [] h 0 0
  refine w_aload_n rfl rfl ?_
  refine m_getR hM rfl rfl rfl (by decide) ?_
  refine w_iload_n rfl rfl ?_
  obtain ⟨hb, hf⟩ := g_guard hf
  refine m_ld hM rfl rfl (by decide) rfl hb ?_
  refine w_istore_n rfl (Nat.le_of_ble_eq_true rfl) rfl ?_
  refine w_aload_n rfl rfl ?_
  refine m_getR hM rfl rfl rfl (by decide) ?_
  refine w_iload_n rfl rfl ?_
  refine w_iload_n rfl rfl ?_
  obtain ⟨hb, hf⟩ := g_guard hf
  refine m_st hM rfl rfl (by decide) rfl hb (fun h hM => ?_)
  refine w_iload_n rfl rfl ?_
  refine w_if (t := 26) rfl (by decide) (fun c1 => ?_) (fun c1 => ?_)
  · have c1 : ¬ (((S).2 6 (ix (x2))) = (0 : Int32)) := c1
    rw [if_neg c1] at hf
    refine w_aload_n rfl rfl ?_
    refine m_getR hM rfl rfl rfl (by decide) ?_
    refine w_iload_n rfl rfl ?_
    obtain ⟨hb, hf⟩ := g_guard hf
    refine m_ld hM rfl rfl (by decide) rfl hb ?_
    refine w_iload_n rfl rfl ?_
    refine w_icmp (t := 46) rfl (by decide) (fun c2 => ?_) (fun c2 => ?_)
    · have c2 : ¬ ((((S).a 6 (ix (x1)) ((S).2 6 (ix (x2)))).2 7 (ix ((S).2 6 (ix (x2))))) = x2) := c2
      rw [if_neg c2] at hf
      refine w_aload_n rfl rfl ?_
      refine m_getR hM rfl rfl rfl (by decide) ?_
      refine w_iload_n rfl rfl ?_
      refine w_iload_n rfl rfl ?_
      obtain ⟨hb, hf⟩ := g_guard hf
      refine m_st hM rfl rfl (by decide) rfl hb (fun h hM => ?_)
      cases hf
      exact w_return rfl rfl (Nat.le_refl _) (Nat.le_refl _) (hQ _ hM)
    · have c2 : (((S).a 6 (ix (x1)) ((S).2 6 (ix (x2)))).2 7 (ix ((S).2 6 (ix (x2))))) = x2 := Classical.not_not.mp c2
      rw [if_pos c2] at hf
      refine w_aload_n rfl rfl ?_
      refine m_getR hM rfl rfl rfl (by decide) ?_
      refine w_iload_n rfl rfl ?_
      refine w_iload_n rfl rfl ?_
      obtain ⟨hb, hf⟩ := g_guard hf
      refine m_st hM rfl rfl (by decide) rfl hb (fun h hM => ?_)
      refine w_goto (t := 53) rfl (by decide) ?_
      cases hf
      exact w_return rfl rfl (Nat.le_refl _) (Nat.le_refl _) (hQ _ hM)
  · have c1 : ((S).2 6 (ix (x2))) = (0 : Int32) := Classical.not_not.mp c1
    rw [if_pos c1] at hf
    refine w_aload_n rfl rfl ?_
    refine w_iload_n rfl rfl ?_
    refine m_putI hM rfl rfl rfl rfl (nar_int _) (fun h hM => ?_)
    refine w_goto (t := 53) rfl (by decide) ?_
    cases hf
    exact w_return rfl rfl (Nat.le_refl _) (Nat.le_refl _) (hQ _ hM)
def f_M_room_B48 (n : Nat) (S : MS) (x1 : Int32) (x4 : Int32) (x5 : Int32) (x6 : Int32) (s0 : Int32) (s1 : Int32) : Option (MS) := (bif inB (s1) 61 then (if x6 = (0 : Int32) then (bif inB (x1) 61 then (if x6 = (0 : Int32) then (bif inB (x1) 61 then some ((((S).a 13 (ix (s1)) (s0)).a 14 (ix (x1)) ((0 : Int32))).a 15 (ix (x1)) ((0 : Int32))) else none) else (bif inB (x1) 61 then some ((((S).a 13 (ix (s1)) (s0)).a 14 (ix (x1)) ((0 : Int32))).a 15 (ix (x1)) (x5)) else none)) else none) else (bif inB (x1) 61 then (if x6 = (0 : Int32) then (bif inB (x1) 61 then some ((((S).a 13 (ix (s1)) (s0)).a 14 (ix (x1)) (x4)).a 15 (ix (x1)) ((0 : Int32))) else none) else (bif inB (x1) 61 then some ((((S).a 13 (ix (s1)) (s0)).a 14 (ix (x1)) (x4)).a 15 (ix (x1)) (x5)) else none)) else none)) else none)
set_option maxHeartbeats 4000000 in
set_option maxRecDepth 100000 in
theorem t_M_room_B48 {d m : Nat} {ad : Nat → Nat} {h0 : gHp} {Q : Option gv → gHp → Prop} {res : MS} (hQ : ∀ h', MR h0 h' m ad res → Q (none) h') (n : Nat) (S : MS) (x1 : Int32) (x4 : Int32) (x5 : Int32) (x6 : Int32) (s0 : Int32) (s1 : Int32) (u2 : Option gv) (u3 : Option gv) (h : gHp) (hf : f_M_room_B48 n S x1 x4 x5 x6 s0 s1 = some res) (hM : MR h0 h m ad S) : gWP (gCall (d + 0)) m_M_room Q 48 [some (.inr (some m)), some (.inl x1), u2, u3, some (.inl x4), some (.inl x5), some (.inl x6)] [.inl s0, .inl s1, .inr (some (ad 13))] h 0 0 := by
  unfold f_M_room_B48 at hf
  obtain ⟨hb, hf⟩ := g_guard hf
  refine m_st hM rfl rfl (by decide) rfl hb (fun h hM => ?_)
  refine w_aload_n rfl rfl ?_
  refine m_getR hM rfl rfl rfl (by decide) ?_
  refine w_iload_n rfl rfl ?_
  refine w_iload rfl rfl ?_
  refine w_if (t := 64) rfl (by decide) (fun c1 => ?_) (fun c1 => ?_)
  · have c1 : x6 = (0 : Int32) := c1
    rw [if_pos c1] at hf
    refine w_iconst (v := (0 : Int32)) rfl (by decide) ?_
    obtain ⟨hb, hf⟩ := g_guard hf
    refine m_st hM rfl rfl (by decide) rfl hb (fun h hM => ?_)
    refine w_aload_n rfl rfl ?_
    refine m_getR hM rfl rfl rfl (by decide) ?_
    refine w_iload_n rfl rfl ?_
    refine w_iload rfl rfl ?_
    refine w_if (t := 81) rfl (by decide) (fun c2 => ?_) (fun c2 => ?_)
    · have c2 : x6 = (0 : Int32) := c2
      rw [if_pos c2] at hf
      refine w_iconst (v := (0 : Int32)) rfl (by decide) ?_
      obtain ⟨hb, hf⟩ := g_guard hf
      refine m_st hM rfl rfl (by decide) rfl hb (fun h hM => ?_)
      cases hf
      exact w_return rfl rfl (Nat.le_refl _) (Nat.le_refl _) (hQ _ hM)
    · have c2 : ¬ (x6 = (0 : Int32)) := c2
      rw [if_neg c2] at hf
      refine w_iload rfl rfl ?_
      refine w_goto (t := 82) rfl (by decide) ?_
      obtain ⟨hb, hf⟩ := g_guard hf
      refine m_st hM rfl rfl (by decide) rfl hb (fun h hM => ?_)
      cases hf
      exact w_return rfl rfl (Nat.le_refl _) (Nat.le_refl _) (hQ _ hM)
  · have c1 : ¬ (x6 = (0 : Int32)) := c1
    rw [if_neg c1] at hf
    refine w_iload rfl rfl ?_
    refine w_goto (t := 65) rfl (by decide) ?_
    obtain ⟨hb, hf⟩ := g_guard hf
    refine m_st hM rfl rfl (by decide) rfl hb (fun h hM => ?_)
    refine w_aload_n rfl rfl ?_
    refine m_getR hM rfl rfl rfl (by decide) ?_
    refine w_iload_n rfl rfl ?_
    refine w_iload rfl rfl ?_
    refine w_if (t := 81) rfl (by decide) (fun c2 => ?_) (fun c2 => ?_)
    · have c2 : x6 = (0 : Int32) := c2
      rw [if_pos c2] at hf
      refine w_iconst (v := (0 : Int32)) rfl (by decide) ?_
      obtain ⟨hb, hf⟩ := g_guard hf
      refine m_st hM rfl rfl (by decide) rfl hb (fun h hM => ?_)
      cases hf
      exact w_return rfl rfl (Nat.le_refl _) (Nat.le_refl _) (hQ _ hM)
    · have c2 : ¬ (x6 = (0 : Int32)) := c2
      rw [if_neg c2] at hf
      refine w_iload rfl rfl ?_
      refine w_goto (t := 82) rfl (by decide) ?_
      obtain ⟨hb, hf⟩ := g_guard hf
      refine m_st hM rfl rfl (by decide) rfl hb (fun h hM => ?_)
      cases hf
      exact w_return rfl rfl (Nat.le_refl _) (Nat.le_refl _) (hQ _ hM)
def f_M_room_B32 (n : Nat) (S : MS) (x1 : Int32) (x3 : Int32) (x4 : Int32) (x5 : Int32) (x6 : Int32) (s0 : Int32) (s1 : Int32) : Option (MS) := (bif inB (s1) 61 then (if x6 = (0 : Int32) then f_M_room_B48  n ((S).a 12 (ix (s1)) (s0)) (x1) (x4) (x5) (x6) ((0 : Int32)) (x1) else f_M_room_B48  n ((S).a 12 (ix (s1)) (s0)) (x1) (x4) (x5) (x6) (x3) (x1)) else none)
set_option maxHeartbeats 4000000 in
set_option maxRecDepth 100000 in
theorem t_M_room_B32 {d m : Nat} {ad : Nat → Nat} {h0 : gHp} {Q : Option gv → gHp → Prop} {res : MS} (hQ : ∀ h', MR h0 h' m ad res → Q (none) h') (n : Nat) (S : MS) (x1 : Int32) (x3 : Int32) (x4 : Int32) (x5 : Int32) (x6 : Int32) (s0 : Int32) (s1 : Int32) (u2 : Option gv) (h : gHp) (hf : f_M_room_B32 n S x1 x3 x4 x5 x6 s0 s1 = some res) (hM : MR h0 h m ad S) : gWP (gCall (d + 0)) m_M_room Q 32 [some (.inr (some m)), some (.inl x1), u2, some (.inl x3), some (.inl x4), some (.inl x5), some (.inl x6)] [.inl s0, .inl s1, .inr (some (ad 12))] h 0 0 := by
  unfold f_M_room_B32 at hf
  obtain ⟨hb, hf⟩ := g_guard hf
  refine m_st hM rfl rfl (by decide) rfl hb (fun h hM => ?_)
  refine w_aload_n rfl rfl ?_
  refine m_getR hM rfl rfl rfl (by decide) ?_
  refine w_iload_n rfl rfl ?_
  refine w_iload rfl rfl ?_
  refine w_if (t := 47) rfl (by decide) (fun c1 => ?_) (fun c1 => ?_)
  · have c1 : x6 = (0 : Int32) := c1
    rw [if_pos c1] at hf
    refine w_iconst (v := (0 : Int32)) rfl (by decide) ?_
    exact t_M_room_B48  hQ _ _ (x1) (x4) (x5) (x6) ((0 : Int32)) (x1) _ _ _ hf hM
  · have c1 : ¬ (x6 = (0 : Int32)) := c1
    rw [if_neg c1] at hf
    refine w_iload_n rfl rfl ?_
    refine w_goto (t := 48) rfl (by decide) ?_
    exact t_M_room_B48  hQ _ _ (x1) (x4) (x5) (x6) (x3) (x1) _ _ _ hf hM
def f_M_room_B15 (n : Nat) (S : MS) (x1 : Int32) (x2 : Int32) (x3 : Int32) (x4 : Int32) (x5 : Int32) (s0 : Int32) : Option (MS) := (if s0 = (0 : Int32) then f_M_room_B32  n (S) (x1) (x3) (x4) (x5) (s0) ((0 : Int32)) (x1) else f_M_room_B32  n (S) (x1) (x3) (x4) (x5) (s0) (x2) (x1))
set_option maxHeartbeats 4000000 in
set_option maxRecDepth 100000 in
theorem t_M_room_B15 {d m : Nat} {ad : Nat → Nat} {h0 : gHp} {Q : Option gv → gHp → Prop} {res : MS} (hQ : ∀ h', MR h0 h' m ad res → Q (none) h') (n : Nat) (S : MS) (x1 : Int32) (x2 : Int32) (x3 : Int32) (x4 : Int32) (x5 : Int32) (s0 : Int32) (u6 : Option gv) (h : gHp) (hf : f_M_room_B15 n S x1 x2 x3 x4 x5 s0 = some res) (hM : MR h0 h m ad S) : gWP (gCall (d + 0)) m_M_room Q 15 [some (.inr (some m)), some (.inl x1), some (.inl x2), some (.inl x3), some (.inl x4), some (.inl x5), u6] [.inl s0] h 0 0 := by
  unfold f_M_room_B15 at hf
  refine w_istore rfl (Nat.le_of_ble_eq_true rfl) rfl ?_
  refine w_aload_n rfl rfl ?_
  refine m_getR hM rfl rfl rfl (by decide) ?_
  refine w_iload_n rfl rfl ?_
  refine w_iload rfl rfl ?_
  refine w_if (t := 31) rfl (by decide) (fun c1 => ?_) (fun c1 => ?_)
  · have c1 : s0 = (0 : Int32) := c1
    rw [if_pos c1] at hf
    refine w_iconst (v := (0 : Int32)) rfl (by decide) ?_
    exact t_M_room_B32  hQ _ _ (x1) (x3) (x4) (x5) (s0) ((0 : Int32)) (x1) _ _ hf hM
  · have c1 : ¬ (s0 = (0 : Int32)) := c1
    rw [if_neg c1] at hf
    refine w_iload_n rfl rfl ?_
    refine w_goto (t := 32) rfl (by decide) ?_
    exact t_M_room_B32  hQ _ _ (x1) (x3) (x4) (x5) (s0) (x2) (x1) _ _ hf hM
def f_M_room_B14 (n : Nat) (S : MS) (x1 : Int32) (x2 : Int32) (x3 : Int32) (x4 : Int32) (x5 : Int32) : Option (MS) := f_M_room_B15  n (S) (x1) (x2) (x3) (x4) (x5) ((0 : Int32))
set_option maxHeartbeats 4000000 in
set_option maxRecDepth 100000 in
theorem t_M_room_B14 {d m : Nat} {ad : Nat → Nat} {h0 : gHp} {Q : Option gv → gHp → Prop} {res : MS} (hQ : ∀ h', MR h0 h' m ad res → Q (none) h') (n : Nat) (S : MS) (x1 : Int32) (x2 : Int32) (x3 : Int32) (x4 : Int32) (x5 : Int32) (u6 : Option gv) (h : gHp) (hf : f_M_room_B14 n S x1 x2 x3 x4 x5  = some res) (hM : MR h0 h m ad S) : gWP (gCall (d + 0)) m_M_room Q 14 [some (.inr (some m)), some (.inl x1), some (.inl x2), some (.inl x3), some (.inl x4), some (.inl x5), u6] [] h 0 0 := by
  unfold f_M_room_B14 at hf
  refine w_iconst (v := (0 : Int32)) rfl (by decide) ?_
  exact t_M_room_B15  hQ _ _ (x1) (x2) (x3) (x4) (x5) ((0 : Int32)) _ _ hf hM
def f_M_room (n : Nat) (S : MS) (x1 : Int32) (x2 : Int32) (x3 : Int32) (x4 : Int32) (x5 : Int32) : Option (MS) := (if x4 ≤ (0 : Int32) then f_M_room_B14  n (S) (x1) (x2) (x3) (x4) (x5)  else (if x5 ≤ (0 : Int32) then f_M_room_B14  n (S) (x1) (x2) (x3) (x4) (x5)  else f_M_room_B15  n (S) (x1) (x2) (x3) (x4) (x5) ((1 : Int32))))
set_option maxHeartbeats 4000000 in
set_option maxRecDepth 100000 in
theorem t_M_room {d m n : Nat} {ad : Nat → Nat} {h0 h : gHp} {Q : Option gv → gHp → Prop} {S : MS} {x1 : Int32} {x2 : Int32} {x3 : Int32} {x4 : Int32} {x5 : Int32} {res : MS} (hf : f_M_room n S x1 x2 x3 x4 x5 = some res) (hM : MR h0 h m ad S) (hQ : ∀ h', MR h0 h' m ad res → Q (none) h') : gCall (d + 1) m_M_room [.inr (some m), .inl x1, .inl x2, .inl x3, .inl x4, .inl x5] h Q := by
  unfold f_M_room at hf
  refine g_enter (d := d + 0) (Nat.le_of_ble_eq_true rfl) ?_
  show gWP (gCall (d + 0)) m_M_room Q 0 [some (.inr (some m)), some (.inl x1), some (.inl x2), some (.inl x3), some (.inl x4), some (.inl x5), none] [] h 0 0
  refine w_iload rfl rfl ?_
  refine w_if (t := 14) rfl (by decide) (fun c1 => ?_) (fun c1 => ?_)
  · have c1 : x4 ≤ (0 : Int32) := c1
    rw [if_pos c1] at hf
    exact t_M_room_B14  hQ _ _ (x1) (x2) (x3) (x4) (x5)  _ _ hf hM
  · have c1 : ¬ (x4 ≤ (0 : Int32)) := c1
    rw [if_neg c1] at hf
    refine w_iload rfl rfl ?_
    refine w_if (t := 14) rfl (by decide) (fun c2 => ?_) (fun c2 => ?_)
    · have c2 : x5 ≤ (0 : Int32) := c2
      rw [if_pos c2] at hf
      exact t_M_room_B14  hQ _ _ (x1) (x2) (x3) (x4) (x5)  _ _ hf hM
    · have c2 : ¬ (x5 ≤ (0 : Int32)) := c2
      rw [if_neg c2] at hf
      refine w_iconst (v := (1 : Int32)) rfl (by decide) ?_
      refine w_goto (t := 15) rfl (by decide) ?_
      exact t_M_room_B15  hQ _ _ (x1) (x2) (x3) (x4) (x5) ((1 : Int32)) _ _ hf hM
def f_M_wanted_B60 (n : Nat) (S : MS) (x1 : Int32) (x4 : Int32) (s0 : Int32) : Option (Int32 × MS) := (if x4 = (1 : Int32) then (bif inB (x1) 61 then some ((S).2 10 (ix (x1)), S) else none) else (if x4 = (2 : Int32) then (bif inB (x1) 61 then some ((S).2 10 (ix (x1)), S) else none) else (if x4 = (3 : Int32) then (bif inB (x1) 61 then (bif decide (¬ s0 = 0) then some (((((S).2 10 (ix (x1))) + s0) - (1 : Int32)) / s0, S) else none) else none) else some ((0 : Int32), S))))
set_option maxHeartbeats 4000000 in
set_option maxRecDepth 100000 in
theorem t_M_wanted_B60 {d m : Nat} {ad : Nat → Nat} {h0 : gHp} {Q : Option gv → gHp → Prop} {res : Int32 × MS} (hQ : ∀ h', MR h0 h' m ad res.2 → Q (some (.inl res.1)) h') (n : Nat) (S : MS) (x1 : Int32) (x4 : Int32) (s0 : Int32) (u2 : Option gv) (u3 : Option gv) (u5 : Option gv) (h : gHp) (hf : f_M_wanted_B60 n S x1 x4 s0 = some res) (hM : MR h0 h m ad S) : gWP (gCall (d + 0)) m_M_wanted Q 60 [some (.inr (some m)), some (.inl x1), u2, u3, some (.inl x4), u5] [.inl s0] h 0 0 := by
  unfold f_M_wanted_B60 at hf
  refine w_istore rfl (Nat.le_of_ble_eq_true rfl) rfl ?_
  refine w_iload rfl rfl ?_
  refine w_iconst (v := (1 : Int32)) rfl (by decide) ?_
  refine w_icmp (t := 74) rfl (by decide) (fun c1 => ?_) (fun c1 => ?_)
  · have c1 : x4 = (1 : Int32) := c1
    rw [if_pos c1] at hf
    refine w_aload_n rfl rfl ?_
    refine m_getR hM rfl rfl rfl (by decide) ?_
    refine w_iload_n rfl rfl ?_
    obtain ⟨hb, hf⟩ := g_guard hf
    refine m_ld hM rfl rfl (by decide) rfl hb ?_
    refine w_goto (t := 107) rfl (by decide) ?_
    cases hf
    exact w_ireturn rfl (int_ret _) (Nat.le_refl _) (Nat.le_refl _) (hQ _ hM)
  · have c1 : ¬ (x4 = (1 : Int32)) := c1
    rw [if_neg c1] at hf
    refine w_iload rfl rfl ?_
    refine w_iconst (v := (2 : Int32)) rfl (by decide) ?_
    refine w_icmp (t := 83) rfl (by decide) (fun c2 => ?_) (fun c2 => ?_)
    · have c2 : ¬ (x4 = (2 : Int32)) := c2
      rw [if_neg c2] at hf
      refine w_iload rfl rfl ?_
      refine w_iconst (v := (3 : Int32)) rfl (by decide) ?_
      refine w_icmp (t := 106) rfl (by decide) (fun c3 => ?_) (fun c3 => ?_)
      · have c3 : ¬ (x4 = (3 : Int32)) := c3
        rw [if_neg c3] at hf
        refine w_iconst (v := (0 : Int32)) rfl (by decide) ?_
        cases hf
        exact w_ireturn rfl (int_ret _) (Nat.le_refl _) (Nat.le_refl _) (hQ _ hM)
      · have c3 : x4 = (3 : Int32) := Classical.not_not.mp c3
        rw [if_pos c3] at hf
        refine w_aload_n rfl rfl ?_
        refine m_getR hM rfl rfl rfl (by decide) ?_
        refine w_iload_n rfl rfl ?_
        obtain ⟨hb, hf⟩ := g_guard hf
        refine m_ld hM rfl rfl (by decide) rfl hb ?_
        refine w_iload rfl rfl ?_
        refine w_iadd rfl ?_
        refine w_iconst (v := (1 : Int32)) rfl (by decide) ?_
        refine w_isub rfl ?_
        refine w_iload rfl rfl ?_
        obtain ⟨hb, hf⟩ := g_guard hf
        refine w_idiv rfl (of_decide_eq_true hb) ?_
        refine w_goto (t := 107) rfl (by decide) ?_
        cases hf
        exact w_ireturn rfl (int_ret _) (Nat.le_refl _) (Nat.le_refl _) (hQ _ hM)
    · have c2 : x4 = (2 : Int32) := Classical.not_not.mp c2
      rw [if_pos c2] at hf
      refine w_aload_n rfl rfl ?_
      refine m_getR hM rfl rfl rfl (by decide) ?_
      refine w_iload_n rfl rfl ?_
      obtain ⟨hb, hf⟩ := g_guard hf
      refine m_ld hM rfl rfl (by decide) rfl hb ?_
      refine w_goto (t := 107) rfl (by decide) ?_
      cases hf
      exact w_ireturn rfl (int_ret _) (Nat.le_refl _) (Nat.le_refl _) (hQ _ hM)
def f_M_wanted_B47 (n : Nat) (S : MS) (x1 : Int32) (x3 : Int32) (s0 : Int32) : Option (Int32 × MS) := (if x3 = (0 : Int32) then f_M_wanted_B60  n (S) (x1) (s0) ((16 : Int32)) else f_M_wanted_B60  n (S) (x1) (s0) ((8 : Int32)))
set_option maxHeartbeats 4000000 in
set_option maxRecDepth 100000 in
theorem t_M_wanted_B47 {d m : Nat} {ad : Nat → Nat} {h0 : gHp} {Q : Option gv → gHp → Prop} {res : Int32 × MS} (hQ : ∀ h', MR h0 h' m ad res.2 → Q (some (.inl res.1)) h') (n : Nat) (S : MS) (x1 : Int32) (x3 : Int32) (s0 : Int32) (u2 : Option gv) (u4 : Option gv) (u5 : Option gv) (h : gHp) (hf : f_M_wanted_B47 n S x1 x3 s0 = some res) (hM : MR h0 h m ad S) : gWP (gCall (d + 0)) m_M_wanted Q 47 [some (.inr (some m)), some (.inl x1), u2, some (.inl x3), u4, u5] [.inl s0] h 0 0 := by
  unfold f_M_wanted_B47 at hf
  refine w_istore rfl (Nat.le_of_ble_eq_true rfl) rfl ?_
  refine w_iload_n rfl rfl ?_
  refine w_if (t := 58) rfl (by decide) (fun c1 => ?_) (fun c1 => ?_)
  · have c1 : x3 = (0 : Int32) := c1
    rw [if_pos c1] at hf
    refine w_bipush (v := (16 : Int32)) rfl (by decide) ?_
    exact t_M_wanted_B60  hQ _ _ (x1) (s0) ((16 : Int32)) _ _ _ _ hf hM
  · have c1 : ¬ (x3 = (0 : Int32)) := c1
    rw [if_neg c1] at hf
    refine w_bipush (v := (8 : Int32)) rfl (by decide) ?_
    refine w_goto (t := 60) rfl (by decide) ?_
    exact t_M_wanted_B60  hQ _ _ (x1) (s0) ((8 : Int32)) _ _ _ _ hf hM
def f_M_wanted (n : Nat) (S : MS) (x1 : Int32) (x2 : Int32) (x3 : Int32) : Option (Int32 × MS) := (bif inB (x1) 61 then (if (((S).2 9 (ix (x1))) &&& (4 : Int32)) = (0 : Int32) then (bif inB (x1) 61 then (if ((S).2 11 (ix (x1))) = (0 : Int32) then f_M_wanted_B47  n (S) (x1) (x3) ((0 : Int32)) else (bif inB (x1) 61 then (bif inB ((S).2 11 (ix (x1))) 61 then f_M_wanted_B47  n (S) (x1) (x3) ((S).2 5 (ix ((S).2 11 (ix (x1))))) else none) else none)) else none) else (bif inB (x1) 61 then (bif decide (¬ (100 : Int32) = 0) then some ((x2 * ((S).2 10 (ix (x1)))) / (100 : Int32), S) else none) else none)) else none)
set_option maxHeartbeats 4000000 in
set_option maxRecDepth 100000 in
theorem t_M_wanted {d m n : Nat} {ad : Nat → Nat} {h0 h : gHp} {Q : Option gv → gHp → Prop} {S : MS} {x1 : Int32} {x2 : Int32} {x3 : Int32} {res : Int32 × MS} (hf : f_M_wanted n S x1 x2 x3 = some res) (hM : MR h0 h m ad S) (hQ : ∀ h', MR h0 h' m ad res.2 → Q (some (.inl res.1)) h') : gCall (d + 1) m_M_wanted [.inr (some m), .inl x1, .inl x2, .inl x3] h Q := by
  unfold f_M_wanted at hf
  refine g_enter (d := d + 0) (Nat.le_of_ble_eq_true rfl) ?_
  show gWP (gCall (d + 0)) m_M_wanted Q 0 [some (.inr (some m)), some (.inl x1), some (.inl x2), some (.inl x3), none, none] [] h 0 0
  refine w_aload_n rfl rfl ?_
  refine m_getR hM rfl rfl rfl (by decide) ?_
  refine w_iload_n rfl rfl ?_
  obtain ⟨hb, hf⟩ := g_guard hf
  refine m_ld hM rfl rfl (by decide) rfl hb ?_
  refine w_iconst (v := (4 : Int32)) rfl (by decide) ?_
  refine w_iand rfl ?_
  refine w_if (t := 23) rfl (by decide) (fun c1 => ?_) (fun c1 => ?_)
  · have c1 : (((S).2 9 (ix (x1))) &&& (4 : Int32)) = (0 : Int32) := c1
    rw [if_pos c1] at hf
    refine w_aload_n rfl rfl ?_
    refine m_getR hM rfl rfl rfl (by decide) ?_
    refine w_iload_n rfl rfl ?_
    obtain ⟨hb, hf⟩ := g_guard hf
    refine m_ld hM rfl rfl (by decide) rfl hb ?_
    refine w_if (t := 36) rfl (by decide) (fun c2 => ?_) (fun c2 => ?_)
    · have c2 : ¬ (((S).2 11 (ix (x1))) = (0 : Int32)) := c2
      rw [if_neg c2] at hf
      refine w_aload_n rfl rfl ?_
      refine m_getR hM rfl rfl rfl (by decide) ?_
      refine w_aload_n rfl rfl ?_
      refine m_getR hM rfl rfl rfl (by decide) ?_
      refine w_iload_n rfl rfl ?_
      obtain ⟨hb, hf⟩ := g_guard hf
      refine m_ld hM rfl rfl (by decide) rfl hb ?_
      obtain ⟨hb, hf⟩ := g_guard hf
      refine m_ld hM rfl rfl (by decide) rfl hb ?_
      exact t_M_wanted_B47  hQ _ _ (x1) (x3) ((S).2 5 (ix ((S).2 11 (ix (x1))))) _ _ _ _ hf hM
    · have c2 : ((S).2 11 (ix (x1))) = (0 : Int32) := Classical.not_not.mp c2
      rw [if_pos c2] at hf
      refine w_iconst (v := (0 : Int32)) rfl (by decide) ?_
      refine w_goto (t := 47) rfl (by decide) ?_
      exact t_M_wanted_B47  hQ _ _ (x1) (x3) ((0 : Int32)) _ _ _ _ hf hM
  · have c1 : ¬ ((((S).2 9 (ix (x1))) &&& (4 : Int32)) = (0 : Int32)) := c1
    rw [if_neg c1] at hf
    refine w_iload_n rfl rfl ?_
    refine w_aload_n rfl rfl ?_
    refine m_getR hM rfl rfl rfl (by decide) ?_
    refine w_iload_n rfl rfl ?_
    obtain ⟨hb, hf⟩ := g_guard hf
    refine m_ld hM rfl rfl (by decide) rfl hb ?_
    refine w_imul rfl ?_
    refine w_bipush (v := (100 : Int32)) rfl (by decide) ?_
    obtain ⟨hb, hf⟩ := g_guard hf
    refine w_idiv rfl (of_decide_eq_true hb) ?_
    cases hf
    exact w_ireturn rfl (int_ret _) (Nat.le_refl _) (Nat.le_refl _) (hQ _ hM)
def f_M_add_B181 (n : Nat) (S : MS) (x1 : Int32) (x2 : Int32) (x3 : Int32) (x4 : Int32) : Option (MS) := (bif inB (x1) 61 then (bif inB (((400 : Int32) * x1) + ((S).2 25 (ix (x1)))) 24400 then (bif inB (((400 : Int32) * x1) + ((S).2 25 (ix (x1)))) 24400 then (bif inB (((400 : Int32) * x1) + ((S).2 25 (ix (x1)))) 24400 then (bif inB (x1) 61 then (bif inB (x1) 61 then some (((((S).a 26 (ix (((400 : Int32) * x1) + ((S).2 25 (ix (x1))))) (x2)).a 27 (ix (((400 : Int32) * x1) + ((S).2 25 (ix (x1))))) (x3)).a 28 (ix (((400 : Int32) * x1) + ((S).2 25 (ix (x1))))) (x4)).a 25 (ix (x1)) ((((((S).a 26 (ix (((400 : Int32) * x1) + ((S).2 25 (ix (x1))))) (x2)).a 27 (ix (((400 : Int32) * x1) + ((S).2 25 (ix (x1))))) (x3)).a 28 (ix (((400 : Int32) * x1) + ((S).2 25 (ix (x1))))) (x4)).2 25 (ix (x1))) + (1 : Int32))) else none) else none) else none) else none) else none) else none)
set_option maxHeartbeats 4000000 in
set_option maxRecDepth 100000 in
theorem t_M_add_B181 {d m : Nat} {ad : Nat → Nat} {h0 : gHp} {Q : Option gv → gHp → Prop} {res : MS} (hQ : ∀ h', MR h0 h' m ad res → Q (none) h') (n : Nat) (S : MS) (x1 : Int32) (x2 : Int32) (x3 : Int32) (x4 : Int32) (u5 : Option gv) (u6 : Option gv) (h : gHp) (hf : f_M_add_B181 n S x1 x2 x3 x4  = some res) (hM : MR h0 h m ad S) : gWP (gCall (d + 0)) m_M_add Q 181 [some (.inr (some m)), some (.inl x1), some (.inl x2), some (.inl x3), some (.inl x4), u5, u6] [] h 0 0 := by
  unfold f_M_add_B181 at hf
  refine w_sipush (v := (400 : Int32)) rfl (by decide) ?_
  refine w_iload_n rfl rfl ?_
  refine w_imul rfl ?_
  refine w_aload_n rfl rfl ?_
  refine m_getR hM rfl rfl rfl (by decide) ?_
  refine w_iload_n rfl rfl ?_
  obtain ⟨hb, hf⟩ := g_guard hf
  refine m_ld hM rfl rfl (by decide) rfl hb ?_
  refine w_iadd rfl ?_
  refine w_istore rfl (Nat.le_of_ble_eq_true rfl) rfl ?_
  refine w_aload_n rfl rfl ?_
  refine m_getR hM rfl rfl rfl (by decide) ?_
  refine w_iload rfl rfl ?_
  refine w_iload_n rfl rfl ?_
  obtain ⟨hb, hf⟩ := g_guard hf
  refine m_st hM rfl rfl (by decide) rfl hb (fun h hM => ?_)
  refine w_aload_n rfl rfl ?_
  refine m_getR hM rfl rfl rfl (by decide) ?_
  refine w_iload rfl rfl ?_
  refine w_iload_n rfl rfl ?_
  obtain ⟨hb, hf⟩ := g_guard hf
  refine m_st hM rfl rfl (by decide) rfl hb (fun h hM => ?_)
  refine w_aload_n rfl rfl ?_
  refine m_getR hM rfl rfl rfl (by decide) ?_
  refine w_iload rfl rfl ?_
  refine w_iload rfl rfl ?_
  obtain ⟨hb, hf⟩ := g_guard hf
  refine m_st hM rfl rfl (by decide) rfl hb (fun h hM => ?_)
  refine w_aload_n rfl rfl ?_
  refine m_getR hM rfl rfl rfl (by decide) ?_
  refine w_iload_n rfl rfl ?_
  refine w_dup2 rfl ?_
  obtain ⟨hb, hf⟩ := g_guard hf
  refine m_ld hM rfl rfl (by decide) rfl hb ?_
  refine w_iconst (v := (1 : Int32)) rfl (by decide) ?_
  refine w_iadd rfl ?_
  obtain ⟨hb, hf⟩ := g_guard hf
  refine m_st hM rfl rfl (by decide) rfl hb (fun h hM => ?_)
  cases hf
  exact w_return rfl rfl (Nat.le_refl _) (Nat.le_refl _) (hQ _ hM)
def f_M_add_B69 : Nat → MS → Int32 → Int32 → Int32 → Int32 → Int32 → Int32 → Option (MS)
  | 0, _, _, _, _, _, _, _ => none
  | n + 1, S, x1, x2, x3, x4, x5, x6 => (if (400 : Int32) ≤ x6 then (bif inB (x1) 61 then (bif inB (x1) 61 then f_M_add_B181  n ((S).a 25 (ix (x1)) (((S).2 25 (ix (x1))) - x5)) (x1) (x2) (x3) (x4)  else none) else none) else (bif inB (((400 : Int32) * x1) + x6) 24400 then (bif inB ((((400 : Int32) * x1) + x6) - x5) 24400 then (bif inB (((400 : Int32) * x1) + x6) 24400 then (bif inB ((((400 : Int32) * x1) + x6) - x5) 24400 then (bif inB (((400 : Int32) * x1) + x6) 24400 then (bif inB ((((400 : Int32) * x1) + x6) - x5) 24400 then f_M_add_B69 n ((((S).a 26 (ix ((((400 : Int32) * x1) + x6) - x5)) ((S).2 26 (ix (((400 : Int32) * x1) + x6)))).a 27 (ix ((((400 : Int32) * x1) + x6) - x5)) (((S).a 26 (ix ((((400 : Int32) * x1) + x6) - x5)) ((S).2 26 (ix (((400 : Int32) * x1) + x6)))).2 27 (ix (((400 : Int32) * x1) + x6)))).a 28 (ix ((((400 : Int32) * x1) + x6) - x5)) ((((S).a 26 (ix ((((400 : Int32) * x1) + x6) - x5)) ((S).2 26 (ix (((400 : Int32) * x1) + x6)))).a 27 (ix ((((400 : Int32) * x1) + x6) - x5)) (((S).a 26 (ix ((((400 : Int32) * x1) + x6) - x5)) ((S).2 26 (ix (((400 : Int32) * x1) + x6)))).2 27 (ix (((400 : Int32) * x1) + x6)))).2 28 (ix (((400 : Int32) * x1) + x6)))) (x1) (x2) (x3) (x4) (x5) (x6 + (1 : Int32)) else none) else none) else none) else none) else none) else none))
set_option maxHeartbeats 4000000 in
set_option maxRecDepth 100000 in
theorem t_M_add_B69 {d m : Nat} {ad : Nat → Nat} {h0 : gHp} {Q : Option gv → gHp → Prop} {res : MS} (hQ : ∀ h', MR h0 h' m ad res → Q (none) h') : ∀ (n : Nat) (S : MS) (x1 : Int32) (x2 : Int32) (x3 : Int32) (x4 : Int32) (x5 : Int32) (x6 : Int32) (h : gHp), f_M_add_B69 n S x1 x2 x3 x4 x5 x6  = some res → MR h0 h m ad S → gWP (gCall (d + 0)) m_M_add Q 69 [some (.inr (some m)), some (.inl x1), some (.inl x2), some (.inl x3), some (.inl x4), some (.inl x5), some (.inl x6)] [] h 0 0 := by
  intro n
  induction n with
  | zero =>
    intro S x1 x2 x3 x4 x5 x6   h hf
    cases hf
  | succ n ih =>
    intro S x1 x2 x3 x4 x5 x6   h hf hM
    unfold f_M_add_B69 at hf
    refine w_iload rfl rfl ?_
    refine w_sipush (v := (400 : Int32)) rfl (by decide) ?_
    refine w_icmp (t := 170) rfl (by decide) (fun c1 => ?_) (fun c1 => ?_)
    · have c1 : (400 : Int32) ≤ x6 := c1
      rw [if_pos c1] at hf
      refine w_aload_n rfl rfl ?_
      refine m_getR hM rfl rfl rfl (by decide) ?_
      refine w_iload_n rfl rfl ?_
      refine w_dup2 rfl ?_
      obtain ⟨hb, hf⟩ := g_guard hf
      refine m_ld hM rfl rfl (by decide) rfl hb ?_
      refine w_iload rfl rfl ?_
      refine w_isub rfl ?_
      obtain ⟨hb, hf⟩ := g_guard hf
      refine m_st hM rfl rfl (by decide) rfl hb (fun h hM => ?_)
      exact t_M_add_B181  hQ _ _ (x1) (x2) (x3) (x4)  _ _ _ hf hM
    · have c1 : ¬ ((400 : Int32) ≤ x6) := c1
      rw [if_neg c1] at hf
      refine w_aload_n rfl rfl ?_
      refine m_getR hM rfl rfl rfl (by decide) ?_
      refine w_sipush (v := (400 : Int32)) rfl (by decide) ?_
      refine w_iload_n rfl rfl ?_
      refine w_imul rfl ?_
      refine w_iload rfl rfl ?_
      refine w_iadd rfl ?_
      refine w_iload rfl rfl ?_
      refine w_isub rfl ?_
      refine w_aload_n rfl rfl ?_
      refine m_getR hM rfl rfl rfl (by decide) ?_
      refine w_sipush (v := (400 : Int32)) rfl (by decide) ?_
      refine w_iload_n rfl rfl ?_
      refine w_imul rfl ?_
      refine w_iload rfl rfl ?_
      refine w_iadd rfl ?_
      obtain ⟨hb, hf⟩ := g_guard hf
      refine m_ld hM rfl rfl (by decide) rfl hb ?_
      obtain ⟨hb, hf⟩ := g_guard hf
      refine m_st hM rfl rfl (by decide) rfl hb (fun h hM => ?_)
      refine w_aload_n rfl rfl ?_
      refine m_getR hM rfl rfl rfl (by decide) ?_
      refine w_sipush (v := (400 : Int32)) rfl (by decide) ?_
      refine w_iload_n rfl rfl ?_
      refine w_imul rfl ?_
      refine w_iload rfl rfl ?_
      refine w_iadd rfl ?_
      refine w_iload rfl rfl ?_
      refine w_isub rfl ?_
      refine w_aload_n rfl rfl ?_
      refine m_getR hM rfl rfl rfl (by decide) ?_
      refine w_sipush (v := (400 : Int32)) rfl (by decide) ?_
      refine w_iload_n rfl rfl ?_
      refine w_imul rfl ?_
      refine w_iload rfl rfl ?_
      refine w_iadd rfl ?_
      obtain ⟨hb, hf⟩ := g_guard hf
      refine m_ld hM rfl rfl (by decide) rfl hb ?_
      obtain ⟨hb, hf⟩ := g_guard hf
      refine m_st hM rfl rfl (by decide) rfl hb (fun h hM => ?_)
      refine w_aload_n rfl rfl ?_
      refine m_getR hM rfl rfl rfl (by decide) ?_
      refine w_sipush (v := (400 : Int32)) rfl (by decide) ?_
      refine w_iload_n rfl rfl ?_
      refine w_imul rfl ?_
      refine w_iload rfl rfl ?_
      refine w_iadd rfl ?_
      refine w_iload rfl rfl ?_
      refine w_isub rfl ?_
      refine w_aload_n rfl rfl ?_
      refine m_getR hM rfl rfl rfl (by decide) ?_
      refine w_sipush (v := (400 : Int32)) rfl (by decide) ?_
      refine w_iload_n rfl rfl ?_
      refine w_imul rfl ?_
      refine w_iload rfl rfl ?_
      refine w_iadd rfl ?_
      obtain ⟨hb, hf⟩ := g_guard hf
      refine m_ld hM rfl rfl (by decide) rfl hb ?_
      obtain ⟨hb, hf⟩ := g_guard hf
      refine m_st hM rfl rfl (by decide) rfl hb (fun h hM => ?_)
      refine w_iinc (v := (1 : Int32)) rfl rfl (by decide) rfl ?_
      refine w_goto (t := 69) rfl (by decide) ?_
      exact ih _ (x1) (x2) (x3) (x4) (x5) (x6 + (1 : Int32))  _ hf hM
def f_M_add_B63 (n : Nat) (S : MS) (x1 : Int32) (x2 : Int32) (x3 : Int32) (x4 : Int32) (s0 : Int32) : Option (MS) := f_M_add_B69  n (S) (x1) (x2) (x3) (x4) (s0) (s0)
set_option maxHeartbeats 4000000 in
set_option maxRecDepth 100000 in
theorem t_M_add_B63 {d m : Nat} {ad : Nat → Nat} {h0 : gHp} {Q : Option gv → gHp → Prop} {res : MS} (hQ : ∀ h', MR h0 h' m ad res → Q (none) h') (n : Nat) (S : MS) (x1 : Int32) (x2 : Int32) (x3 : Int32) (x4 : Int32) (s0 : Int32) (u5 : Option gv) (u6 : Option gv) (h : gHp) (hf : f_M_add_B63 n S x1 x2 x3 x4 s0 = some res) (hM : MR h0 h m ad S) : gWP (gCall (d + 0)) m_M_add Q 63 [some (.inr (some m)), some (.inl x1), some (.inl x2), some (.inl x3), some (.inl x4), u5, u6] [.inl s0] h 0 0 := by
  unfold f_M_add_B63 at hf
  refine w_istore rfl (Nat.le_of_ble_eq_true rfl) rfl ?_
  refine w_iload rfl rfl ?_
  refine w_istore rfl (Nat.le_of_ble_eq_true rfl) rfl ?_
  exact t_M_add_B69  hQ _ _ (x1) (x2) (x3) (x4) (s0) (s0)  _ hf hM
def f_M_add_B47 (n : Nat) (S : MS) (x1 : Int32) (x2 : Int32) (x3 : Int32) (x4 : Int32) (x5 : Int32) : Option (MS) := (if x5 = (400 : Int32) then f_M_add_B63  n (S) (x1) (x2) (x3) (x4) ((1 : Int32)) else f_M_add_B63  n (S) (x1) (x2) (x3) (x4) (x5 + (1 : Int32)))
set_option maxHeartbeats 4000000 in
set_option maxRecDepth 100000 in
theorem t_M_add_B47 {d m : Nat} {ad : Nat → Nat} {h0 : gHp} {Q : Option gv → gHp → Prop} {res : MS} (hQ : ∀ h', MR h0 h' m ad res → Q (none) h') (n : Nat) (S : MS) (x1 : Int32) (x2 : Int32) (x3 : Int32) (x4 : Int32) (x5 : Int32) (u6 : Option gv) (h : gHp) (hf : f_M_add_B47 n S x1 x2 x3 x4 x5  = some res) (hM : MR h0 h m ad S) : gWP (gCall (d + 0)) m_M_add Q 47 [some (.inr (some m)), some (.inl x1), some (.inl x2), some (.inl x3), some (.inl x4), some (.inl x5), u6] [] h 0 0 := by
  unfold f_M_add_B47 at hf
  refine w_iload rfl rfl ?_
  refine w_sipush (v := (400 : Int32)) rfl (by decide) ?_
  refine w_icmp (t := 59) rfl (by decide) (fun c1 => ?_) (fun c1 => ?_)
  · have c1 : ¬ (x5 = (400 : Int32)) := c1
    rw [if_neg c1] at hf
    refine w_iload rfl rfl ?_
    refine w_iconst (v := (1 : Int32)) rfl (by decide) ?_
    refine w_iadd rfl ?_
    exact t_M_add_B63  hQ _ _ (x1) (x2) (x3) (x4) (x5 + (1 : Int32)) _ _ _ hf hM
  · have c1 : x5 = (400 : Int32) := Classical.not_not.mp c1
    rw [if_pos c1] at hf
    refine w_iconst (v := (1 : Int32)) rfl (by decide) ?_
    refine w_goto (t := 63) rfl (by decide) ?_
    exact t_M_add_B63  hQ _ _ (x1) (x2) (x3) (x4) ((1 : Int32)) _ _ _ hf hM
def f_M_add_B15 : Nat → MS → Int32 → Int32 → Int32 → Int32 → Int32 → Option (MS)
  | 0, _, _, _, _, _, _ => none
  | n + 1, S, x1, x2, x3, x4, x5 => (if (400 : Int32) ≤ x5 then f_M_add_B47  n (S) (x1) (x2) (x3) (x4) (x5)  else (bif inB (((400 : Int32) * x1) + x5) 24400 then (if ((S).2 26 (ix (((400 : Int32) * x1) + x5))) = (10 : Int32) then f_M_add_B47  n (S) (x1) (x2) (x3) (x4) (x5)  else f_M_add_B15 n (S) (x1) (x2) (x3) (x4) (x5 + (1 : Int32))) else none))
set_option maxHeartbeats 4000000 in
set_option maxRecDepth 100000 in
theorem t_M_add_B15 {d m : Nat} {ad : Nat → Nat} {h0 : gHp} {Q : Option gv → gHp → Prop} {res : MS} (hQ : ∀ h', MR h0 h' m ad res → Q (none) h') : ∀ (n : Nat) (S : MS) (x1 : Int32) (x2 : Int32) (x3 : Int32) (x4 : Int32) (x5 : Int32) (u6 : Option gv) (h : gHp), f_M_add_B15 n S x1 x2 x3 x4 x5  = some res → MR h0 h m ad S → gWP (gCall (d + 0)) m_M_add Q 15 [some (.inr (some m)), some (.inl x1), some (.inl x2), some (.inl x3), some (.inl x4), some (.inl x5), u6] [] h 0 0 := by
  intro n
  induction n with
  | zero =>
    intro S x1 x2 x3 x4 x5  u6 h hf
    cases hf
  | succ n ih =>
    intro S x1 x2 x3 x4 x5  u6 h hf hM
    unfold f_M_add_B15 at hf
    refine w_iload rfl rfl ?_
    refine w_sipush (v := (400 : Int32)) rfl (by decide) ?_
    refine w_icmp (t := 47) rfl (by decide) (fun c1 => ?_) (fun c1 => ?_)
    · have c1 : (400 : Int32) ≤ x5 := c1
      rw [if_pos c1] at hf
      exact t_M_add_B47  hQ _ _ (x1) (x2) (x3) (x4) (x5)  _ _ hf hM
    · have c1 : ¬ ((400 : Int32) ≤ x5) := c1
      rw [if_neg c1] at hf
      refine w_aload_n rfl rfl ?_
      refine m_getR hM rfl rfl rfl (by decide) ?_
      refine w_sipush (v := (400 : Int32)) rfl (by decide) ?_
      refine w_iload_n rfl rfl ?_
      refine w_imul rfl ?_
      refine w_iload rfl rfl ?_
      refine w_iadd rfl ?_
      obtain ⟨hb, hf⟩ := g_guard hf
      refine m_ld hM rfl rfl (by decide) rfl hb ?_
      refine w_bipush (v := (10 : Int32)) rfl (by decide) ?_
      refine w_icmp (t := 47) rfl (by decide) (fun c2 => ?_) (fun c2 => ?_)
      · have c2 : ((S).2 26 (ix (((400 : Int32) * x1) + x5))) = (10 : Int32) := c2
        rw [if_pos c2] at hf
        exact t_M_add_B47  hQ _ _ (x1) (x2) (x3) (x4) (x5)  _ _ hf hM
      · have c2 : ¬ (((S).2 26 (ix (((400 : Int32) * x1) + x5))) = (10 : Int32)) := c2
        rw [if_neg c2] at hf
        refine w_iinc (v := (1 : Int32)) rfl rfl (by decide) rfl ?_
        refine w_goto (t := 15) rfl (by decide) ?_
        exact ih _ (x1) (x2) (x3) (x4) (x5 + (1 : Int32)) _ _ hf hM
def f_M_add (n : Nat) (S : MS) (x1 : Int32) (x2 : Int32) (x3 : Int32) (x4 : Int32) : Option (MS) := (bif inB (x1) 61 then (if ((S).2 25 (ix (x1))) = (400 : Int32) then f_M_add_B15  n (S) (x1) (x2) (x3) (x4) ((0 : Int32)) else f_M_add_B181  n (S) (x1) (x2) (x3) (x4) ) else none)
set_option maxHeartbeats 4000000 in
set_option maxRecDepth 100000 in
theorem t_M_add {d m n : Nat} {ad : Nat → Nat} {h0 h : gHp} {Q : Option gv → gHp → Prop} {S : MS} {x1 : Int32} {x2 : Int32} {x3 : Int32} {x4 : Int32} {res : MS} (hf : f_M_add n S x1 x2 x3 x4 = some res) (hM : MR h0 h m ad S) (hQ : ∀ h', MR h0 h' m ad res → Q (none) h') : gCall (d + 1) m_M_add [.inr (some m), .inl x1, .inl x2, .inl x3, .inl x4] h Q := by
  unfold f_M_add at hf
  refine g_enter (d := d + 0) (Nat.le_of_ble_eq_true rfl) ?_
  show gWP (gCall (d + 0)) m_M_add Q 0 [some (.inr (some m)), some (.inl x1), some (.inl x2), some (.inl x3), some (.inl x4), none, none] [] h 0 0
  refine w_aload_n rfl rfl ?_
  refine m_getR hM rfl rfl rfl (by decide) ?_
  refine w_iload_n rfl rfl ?_
  obtain ⟨hb, hf⟩ := g_guard hf
  refine m_ld hM rfl rfl (by decide) rfl hb ?_
  refine w_sipush (v := (400 : Int32)) rfl (by decide) ?_
  refine w_icmp (t := 181) rfl (by decide) (fun c1 => ?_) (fun c1 => ?_)
  · have c1 : ¬ (((S).2 25 (ix (x1))) = (400 : Int32)) := c1
    rw [if_neg c1] at hf
    exact t_M_add_B181  hQ _ _ (x1) (x2) (x3) (x4)  _ _ _ hf hM
  · have c1 : ((S).2 25 (ix (x1))) = (400 : Int32) := Classical.not_not.mp c1
    rw [if_pos c1] at hf
    refine w_iconst (v := (0 : Int32)) rfl (by decide) ?_
    refine w_istore rfl (Nat.le_of_ble_eq_true rfl) rfl ?_
    exact t_M_add_B15  hQ _ _ (x1) (x2) (x3) (x4) ((0 : Int32)) _ _ hf hM
