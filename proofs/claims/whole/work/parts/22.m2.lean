def f_M_take (n : Nat) (S : MS) : Option (Int32 × MS) := (if ((S).1 41) = (0 : Int32) then some ((-2 : Int32), S) else ((f_M_move n (S) ((0 : Int32)) ((20 : Int32))).bind (fun q2 => (bif isZ ((1 : Int32)) then ((f_M_drop n ((q2).f 42 ((1 : Int32))) ).bind (fun q3 => (bif inB ((880 : Int32)) 924 then some ((q3).2 43 (ix ((880 : Int32))), q3) else none))) else none))))
set_option maxHeartbeats 4000000 in
set_option maxRecDepth 100000 in
theorem t_M_take {d m n : Nat} {ad : Nat → Nat} {h0 h : gHp} {Q : Option gv → gHp → Prop} {S : MS} {res : Int32 × MS} (hf : f_M_take n S  = some res) (hM : MR h0 h m ad S) (hQ : ∀ h', MR h0 h' m ad res.2 → Q (some (.inl res.1)) h') : gCall (d + 3) m_M_take [.inr (some m)] h Q := by
  unfold f_M_take at hf
  refine g_enter (d := d + 2) (Nat.le_of_ble_eq_true rfl) ?_
  show gWP (gCall (d + 2)) m_M_take Q 0 [some (.inr (some m))] [] h 0 0
  refine w_aload_n rfl rfl ?_
  refine m_getI hM rfl rfl rfl ?_
  refine w_if (t := 10) rfl (by decide) (fun c1 => ?_) (fun c1 => ?_)
  · have c1 : ¬ (((S).1 41) = (0 : Int32)) := c1
    rw [if_neg c1] at hf
    refine w_aload_n rfl rfl ?_
    refine w_iconst (v := (0 : Int32)) rfl (by decide) ?_
    refine w_bipush (v := (20 : Int32)) rfl (by decide) ?_
    obtain ⟨q2, hc, hf⟩ := g_bind hf
    refine w_virtual [_, _] _ rfl rfl rfl rfl (Nat.le_of_ble_eq_true rfl) hM.1 rfl (Nat.le_of_ble_eq_true rfl) (Nat.le_of_ble_eq_true rfl) (t_M_move (d := d + 1) hc hM (fun h hM => ?_))
    refine w_aload_n rfl rfl ?_
    refine w_iconst (v := (1 : Int32)) rfl (by decide) ?_
    obtain ⟨hz, hf⟩ := g_guard hf
    refine m_putI hM rfl rfl rfl rfl (isZ_nar hz) (fun h hM => ?_)
    refine w_aload_n rfl rfl ?_
    obtain ⟨q3, hc, hf⟩ := g_bind hf
    refine w_virtual [] _ rfl rfl rfl rfl (Nat.le_of_ble_eq_true rfl) hM.1 rfl (Nat.le_of_ble_eq_true rfl) (Nat.le_of_ble_eq_true rfl) (t_M_drop (d := d + 0) hc hM (fun h hM => ?_))
    refine w_aload_n rfl rfl ?_
    refine m_getR hM rfl rfl rfl (by decide) ?_
    refine w_sipush (v := (880 : Int32)) rfl (by decide) ?_
    obtain ⟨hb, hf⟩ := g_guard hf
    refine m_ld hM rfl rfl (by decide) rfl hb ?_
    cases hf
    exact w_ireturn rfl (int_ret _) (Nat.le_refl _) (Nat.le_refl _) (hQ _ hM)
  · have c1 : ((S).1 41) = (0 : Int32) := Classical.not_not.mp c1
    rw [if_pos c1] at hf
    refine w_bipush (v := (-2 : Int32)) rfl (by decide) ?_
    cases hf
    exact w_ireturn rfl (int_ret _) (Nat.le_refl _) (Nat.le_refl _) (hQ _ hM)
def f_M_style (n : Nat) (S : MS) (x1 : Int32) (x2 : Int32) : Option (Int32 × MS) := ((f_M_isPane n (S) (x1)).bind (fun q1 => (if q1.1 = (0 : Int32) then some ((-1 : Int32), q1.2) else ((f_M_in n (q1.2) (x2) ((0 : Int32)) ((10 : Int32))).bind (fun q3 => (if q3.1 = (0 : Int32) then some ((-1 : Int32), q3.2) else (bif inB (x1) 61 then (if ((q3.2).2 5 (ix (x1))) = (4 : Int32) then some ((-3 : Int32), q3.2) else (bif inB (x1) 61 then (bif inB (x1) 61 then some ((q3.2).2 16 (ix (x1)), (q3.2).a 16 (ix (x1)) (x2)) else none) else none)) else none)))))))
set_option maxHeartbeats 4000000 in
set_option maxRecDepth 100000 in
theorem t_M_style {d m n : Nat} {ad : Nat → Nat} {h0 h : gHp} {Q : Option gv → gHp → Prop} {S : MS} {x1 : Int32} {x2 : Int32} {res : Int32 × MS} (hf : f_M_style n S x1 x2 = some res) (hM : MR h0 h m ad S) (hQ : ∀ h', MR h0 h' m ad res.2 → Q (some (.inl res.1)) h') : gCall (d + 3) m_M_style [.inr (some m), .inl x1, .inl x2] h Q := by
  unfold f_M_style at hf
  refine g_enter (d := d + 2) (Nat.le_of_ble_eq_true rfl) ?_
  show gWP (gCall (d + 2)) m_M_style Q 0 [some (.inr (some m)), some (.inl x1), some (.inl x2), none] [] h 0 0
  refine w_aload_n rfl rfl ?_
  refine w_iload_n rfl rfl ?_
  obtain ⟨q1, hc, hf⟩ := g_bind hf
  refine w_virtual [_] _ rfl rfl rfl rfl (Nat.le_of_ble_eq_true rfl) hM.1 rfl (Nat.le_of_ble_eq_true rfl) (Nat.le_of_ble_eq_true rfl) (t_M_isPane (d := d + 0) hc hM (fun h hM => ?_))
  refine w_if (t := 18) rfl (by decide) (fun c2 => ?_) (fun c2 => ?_)
  · have c2 : q1.1 = (0 : Int32) := c2
    rw [if_pos c2] at hf
    refine w_iconst (v := (-1 : Int32)) rfl (by decide) ?_
    cases hf
    exact w_ireturn rfl (int_ret _) (Nat.le_refl _) (Nat.le_refl _) (hQ _ hM)
  · have c2 : ¬ (q1.1 = (0 : Int32)) := c2
    rw [if_neg c2] at hf
    refine w_iload_n rfl rfl ?_
    refine w_iconst (v := (0 : Int32)) rfl (by decide) ?_
    refine w_bipush (v := (10 : Int32)) rfl (by decide) ?_
    obtain ⟨q3, hc, hf⟩ := g_bind hf
    refine w_static [_, _, _] _ rfl rfl rfl rfl (Nat.le_of_ble_eq_true rfl) (Nat.le_of_ble_eq_true rfl) (Nat.le_of_ble_eq_true rfl) (t_M_in (d := d + 1) hc hM (fun h hM => ?_))
    refine w_if (t := 20) rfl (by decide) (fun c4 => ?_) (fun c4 => ?_)
    · have c4 : ¬ (q3.1 = (0 : Int32)) := c4
      rw [if_neg c4] at hf
      refine w_aload_n rfl rfl ?_
      refine m_getR hM rfl rfl rfl (by decide) ?_
      refine w_iload_n rfl rfl ?_
      obtain ⟨hb, hf⟩ := g_guard hf
      refine m_ld hM rfl rfl (by decide) rfl hb ?_
      refine w_iconst (v := (4 : Int32)) rfl (by decide) ?_
      refine w_icmp (t := 33) rfl (by decide) (fun c5 => ?_) (fun c5 => ?_)
      · have c5 : ¬ (((q3.2).2 5 (ix (x1))) = (4 : Int32)) := c5
        rw [if_neg c5] at hf
        refine w_aload_n rfl rfl ?_
        refine m_getR hM rfl rfl rfl (by decide) ?_
        refine w_iload_n rfl rfl ?_
        obtain ⟨hb, hf⟩ := g_guard hf
        refine m_ld hM rfl rfl (by decide) rfl hb ?_
        refine w_istore_n rfl (Nat.le_of_ble_eq_true rfl) rfl ?_
        refine w_aload_n rfl rfl ?_
        refine m_getR hM rfl rfl rfl (by decide) ?_
        refine w_iload_n rfl rfl ?_
        refine w_iload_n rfl rfl ?_
        obtain ⟨hb, hf⟩ := g_guard hf
        refine m_st hM rfl rfl (by decide) rfl hb (fun h hM => ?_)
        refine w_iload_n rfl rfl ?_
        cases hf
        exact w_ireturn rfl (int_ret _) (Nat.le_refl _) (Nat.le_refl _) (hQ _ hM)
      · have c5 : ((q3.2).2 5 (ix (x1))) = (4 : Int32) := Classical.not_not.mp c5
        rw [if_pos c5] at hf
        refine w_bipush (v := (-3 : Int32)) rfl (by decide) ?_
        cases hf
        exact w_ireturn rfl (int_ret _) (Nat.le_refl _) (Nat.le_refl _) (hQ _ hM)
    · have c4 : q3.1 = (0 : Int32) := Classical.not_not.mp c4
      rw [if_pos c4] at hf
      refine w_iconst (v := (-1 : Int32)) rfl (by decide) ?_
      cases hf
      exact w_ireturn rfl (int_ret _) (Nat.le_refl _) (Nat.le_refl _) (hQ _ hM)
def f_M_link (n : Nat) (S : MS) (x1 : Int32) (x2 : Int32) : Option (Int32 × MS) := ((f_M_isPane n (S) (x1)).bind (fun q1 => (if q1.1 = (0 : Int32) then some ((-1 : Int32), q1.2) else ((f_M_in n (q1.2) (x2) ((0 : Int32)) ((999 : Int32))).bind (fun q3 => (if q3.1 = (0 : Int32) then some ((-1 : Int32), q3.2) else (bif inB (x1) 61 then (if ((q3.2).2 5 (ix (x1))) = (4 : Int32) then some ((-3 : Int32), q3.2) else (bif inB (x1) 61 then (bif inB (x1) 61 then some ((q3.2).2 17 (ix (x1)), (q3.2).a 17 (ix (x1)) (x2)) else none) else none)) else none)))))))
set_option maxHeartbeats 4000000 in
set_option maxRecDepth 100000 in
theorem t_M_link {d m n : Nat} {ad : Nat → Nat} {h0 h : gHp} {Q : Option gv → gHp → Prop} {S : MS} {x1 : Int32} {x2 : Int32} {res : Int32 × MS} (hf : f_M_link n S x1 x2 = some res) (hM : MR h0 h m ad S) (hQ : ∀ h', MR h0 h' m ad res.2 → Q (some (.inl res.1)) h') : gCall (d + 3) m_M_link [.inr (some m), .inl x1, .inl x2] h Q := by
  unfold f_M_link at hf
  refine g_enter (d := d + 2) (Nat.le_of_ble_eq_true rfl) ?_
  show gWP (gCall (d + 2)) m_M_link Q 0 [some (.inr (some m)), some (.inl x1), some (.inl x2), none] [] h 0 0
  refine w_aload_n rfl rfl ?_
  refine w_iload_n rfl rfl ?_
  obtain ⟨q1, hc, hf⟩ := g_bind hf
  refine w_virtual [_] _ rfl rfl rfl rfl (Nat.le_of_ble_eq_true rfl) hM.1 rfl (Nat.le_of_ble_eq_true rfl) (Nat.le_of_ble_eq_true rfl) (t_M_isPane (d := d + 0) hc hM (fun h hM => ?_))
  refine w_if (t := 19) rfl (by decide) (fun c2 => ?_) (fun c2 => ?_)
  · have c2 : q1.1 = (0 : Int32) := c2
    rw [if_pos c2] at hf
    refine w_iconst (v := (-1 : Int32)) rfl (by decide) ?_
    cases hf
    exact w_ireturn rfl (int_ret _) (Nat.le_refl _) (Nat.le_refl _) (hQ _ hM)
  · have c2 : ¬ (q1.1 = (0 : Int32)) := c2
    rw [if_neg c2] at hf
    refine w_iload_n rfl rfl ?_
    refine w_iconst (v := (0 : Int32)) rfl (by decide) ?_
    refine w_sipush (v := (999 : Int32)) rfl (by decide) ?_
    obtain ⟨q3, hc, hf⟩ := g_bind hf
    refine w_static [_, _, _] _ rfl rfl rfl rfl (Nat.le_of_ble_eq_true rfl) (Nat.le_of_ble_eq_true rfl) (Nat.le_of_ble_eq_true rfl) (t_M_in (d := d + 1) hc hM (fun h hM => ?_))
    refine w_if (t := 21) rfl (by decide) (fun c4 => ?_) (fun c4 => ?_)
    · have c4 : ¬ (q3.1 = (0 : Int32)) := c4
      rw [if_neg c4] at hf
      refine w_aload_n rfl rfl ?_
      refine m_getR hM rfl rfl rfl (by decide) ?_
      refine w_iload_n rfl rfl ?_
      obtain ⟨hb, hf⟩ := g_guard hf
      refine m_ld hM rfl rfl (by decide) rfl hb ?_
      refine w_iconst (v := (4 : Int32)) rfl (by decide) ?_
      refine w_icmp (t := 34) rfl (by decide) (fun c5 => ?_) (fun c5 => ?_)
      · have c5 : ¬ (((q3.2).2 5 (ix (x1))) = (4 : Int32)) := c5
        rw [if_neg c5] at hf
        refine w_aload_n rfl rfl ?_
        refine m_getR hM rfl rfl rfl (by decide) ?_
        refine w_iload_n rfl rfl ?_
        obtain ⟨hb, hf⟩ := g_guard hf
        refine m_ld hM rfl rfl (by decide) rfl hb ?_
        refine w_istore_n rfl (Nat.le_of_ble_eq_true rfl) rfl ?_
        refine w_aload_n rfl rfl ?_
        refine m_getR hM rfl rfl rfl (by decide) ?_
        refine w_iload_n rfl rfl ?_
        refine w_iload_n rfl rfl ?_
        obtain ⟨hb, hf⟩ := g_guard hf
        refine m_st hM rfl rfl (by decide) rfl hb (fun h hM => ?_)
        refine w_iload_n rfl rfl ?_
        cases hf
        exact w_ireturn rfl (int_ret _) (Nat.le_refl _) (Nat.le_refl _) (hQ _ hM)
      · have c5 : ((q3.2).2 5 (ix (x1))) = (4 : Int32) := Classical.not_not.mp c5
        rw [if_pos c5] at hf
        refine w_bipush (v := (-3 : Int32)) rfl (by decide) ?_
        cases hf
        exact w_ireturn rfl (int_ret _) (Nat.le_refl _) (Nat.le_refl _) (hQ _ hM)
    · have c4 : q3.1 = (0 : Int32) := Classical.not_not.mp c4
      rw [if_pos c4] at hf
      refine w_iconst (v := (-1 : Int32)) rfl (by decide) ?_
      cases hf
      exact w_ireturn rfl (int_ret _) (Nat.le_refl _) (Nat.le_refl _) (hQ _ hM)
def f_M_at (n : Nat) (S : MS) (x1 : Int32) (x2 : Int32) : Option (Int32 × MS) := ((f_M_isPane n (S) (x1)).bind (fun q1 => (if q1.1 = (0 : Int32) then some ((-1 : Int32), q1.2) else ((f_M_in n (q1.2) (x2) ((0 : Int32)) ((1 : Int32))).bind (fun q3 => (if q3.1 = (0 : Int32) then some ((-1 : Int32), q3.2) else (bif inB (x1) 61 then (if ((q3.2).2 5 (ix (x1))) = (2 : Int32) then (if x2 = (0 : Int32) then (bif inB (x1) 61 then some ((q3.2).2 34 (ix (x1)), q3.2) else none) else (bif inB (x1) 61 then some ((q3.2).2 35 (ix (x1)), q3.2) else none)) else some ((-3 : Int32), q3.2)) else none)))))))
set_option maxHeartbeats 4000000 in
set_option maxRecDepth 100000 in
theorem t_M_at {d m n : Nat} {ad : Nat → Nat} {h0 h : gHp} {Q : Option gv → gHp → Prop} {S : MS} {x1 : Int32} {x2 : Int32} {res : Int32 × MS} (hf : f_M_at n S x1 x2 = some res) (hM : MR h0 h m ad S) (hQ : ∀ h', MR h0 h' m ad res.2 → Q (some (.inl res.1)) h') : gCall (d + 3) m_M_at [.inr (some m), .inl x1, .inl x2] h Q := by
  unfold f_M_at at hf
  refine g_enter (d := d + 2) (Nat.le_of_ble_eq_true rfl) ?_
  show gWP (gCall (d + 2)) m_M_at Q 0 [some (.inr (some m)), some (.inl x1), some (.inl x2)] [] h 0 0
  refine w_aload_n rfl rfl ?_
  refine w_iload_n rfl rfl ?_
  obtain ⟨q1, hc, hf⟩ := g_bind hf
  refine w_virtual [_] _ rfl rfl rfl rfl (Nat.le_of_ble_eq_true rfl) hM.1 rfl (Nat.le_of_ble_eq_true rfl) (Nat.le_of_ble_eq_true rfl) (t_M_isPane (d := d + 0) hc hM (fun h hM => ?_))
  refine w_if (t := 17) rfl (by decide) (fun c2 => ?_) (fun c2 => ?_)
  · have c2 : q1.1 = (0 : Int32) := c2
    rw [if_pos c2] at hf
    refine w_iconst (v := (-1 : Int32)) rfl (by decide) ?_
    cases hf
    exact w_ireturn rfl (int_ret _) (Nat.le_refl _) (Nat.le_refl _) (hQ _ hM)
  · have c2 : ¬ (q1.1 = (0 : Int32)) := c2
    rw [if_neg c2] at hf
    refine w_iload_n rfl rfl ?_
    refine w_iconst (v := (0 : Int32)) rfl (by decide) ?_
    refine w_iconst (v := (1 : Int32)) rfl (by decide) ?_
    obtain ⟨q3, hc, hf⟩ := g_bind hf
    refine w_static [_, _, _] _ rfl rfl rfl rfl (Nat.le_of_ble_eq_true rfl) (Nat.le_of_ble_eq_true rfl) (Nat.le_of_ble_eq_true rfl) (t_M_in (d := d + 1) hc hM (fun h hM => ?_))
    refine w_if (t := 19) rfl (by decide) (fun c4 => ?_) (fun c4 => ?_)
    · have c4 : ¬ (q3.1 = (0 : Int32)) := c4
      rw [if_neg c4] at hf
      refine w_aload_n rfl rfl ?_
      refine m_getR hM rfl rfl rfl (by decide) ?_
      refine w_iload_n rfl rfl ?_
      obtain ⟨hb, hf⟩ := g_guard hf
      refine m_ld hM rfl rfl (by decide) rfl hb ?_
      refine w_iconst (v := (2 : Int32)) rfl (by decide) ?_
      refine w_icmp (t := 34) rfl (by decide) (fun c5 => ?_) (fun c5 => ?_)
      · have c5 : ((q3.2).2 5 (ix (x1))) = (2 : Int32) := c5
        rw [if_pos c5] at hf
        refine w_iload_n rfl rfl ?_
        refine w_if (t := 47) rfl (by decide) (fun c6 => ?_) (fun c6 => ?_)
        · have c6 : ¬ (x2 = (0 : Int32)) := c6
          rw [if_neg c6] at hf
          refine w_aload_n rfl rfl ?_
          refine m_getR hM rfl rfl rfl (by decide) ?_
          refine w_iload_n rfl rfl ?_
          obtain ⟨hb, hf⟩ := g_guard hf
          refine m_ld hM rfl rfl (by decide) rfl hb ?_
          cases hf
          exact w_ireturn rfl (int_ret _) (Nat.le_refl _) (Nat.le_refl _) (hQ _ hM)
        · have c6 : x2 = (0 : Int32) := Classical.not_not.mp c6
          rw [if_pos c6] at hf
          refine w_aload_n rfl rfl ?_
          refine m_getR hM rfl rfl rfl (by decide) ?_
          refine w_iload_n rfl rfl ?_
          obtain ⟨hb, hf⟩ := g_guard hf
          refine m_ld hM rfl rfl (by decide) rfl hb ?_
          refine w_goto (t := 53) rfl (by decide) ?_
          cases hf
          exact w_ireturn rfl (int_ret _) (Nat.le_refl _) (Nat.le_refl _) (hQ _ hM)
      · have c5 : ¬ (((q3.2).2 5 (ix (x1))) = (2 : Int32)) := c5
        rw [if_neg c5] at hf
        refine w_bipush (v := (-3 : Int32)) rfl (by decide) ?_
        refine w_goto (t := 53) rfl (by decide) ?_
        cases hf
        exact w_ireturn rfl (int_ret _) (Nat.le_refl _) (Nat.le_refl _) (hQ _ hM)
    · have c4 : q3.1 = (0 : Int32) := Classical.not_not.mp c4
      rw [if_pos c4] at hf
      refine w_iconst (v := (-1 : Int32)) rfl (by decide) ?_
      cases hf
      exact w_ireturn rfl (int_ret _) (Nat.le_refl _) (Nat.le_refl _) (hQ _ hM)
def f_M_picture (n : Nat) (S : MS) (x1 : Int32) (x2 : Int32) : Option (Int32 × MS) := ((f_M_isPane n (S) (x1)).bind (fun q1 => (if q1.1 = (0 : Int32) then some ((-1 : Int32), q1.2) else ((f_M_in n (q1.2) (x2) ((0 : Int32)) ((999 : Int32))).bind (fun q3 => (if q3.1 = (0 : Int32) then some ((-1 : Int32), q3.2) else (bif inB (x1) 61 then (if ((q3.2).2 5 (ix (x1))) = (3 : Int32) then (bif inB (x1) 61 then (bif inB (x1) 61 then some ((q3.2).2 20 (ix (x1)), (q3.2).a 20 (ix (x1)) (x2)) else none) else none) else some ((-3 : Int32), q3.2)) else none)))))))
set_option maxHeartbeats 4000000 in
set_option maxRecDepth 100000 in
theorem t_M_picture {d m n : Nat} {ad : Nat → Nat} {h0 h : gHp} {Q : Option gv → gHp → Prop} {S : MS} {x1 : Int32} {x2 : Int32} {res : Int32 × MS} (hf : f_M_picture n S x1 x2 = some res) (hM : MR h0 h m ad S) (hQ : ∀ h', MR h0 h' m ad res.2 → Q (some (.inl res.1)) h') : gCall (d + 3) m_M_picture [.inr (some m), .inl x1, .inl x2] h Q := by
  unfold f_M_picture at hf
  refine g_enter (d := d + 2) (Nat.le_of_ble_eq_true rfl) ?_
  show gWP (gCall (d + 2)) m_M_picture Q 0 [some (.inr (some m)), some (.inl x1), some (.inl x2), none] [] h 0 0
  refine w_aload_n rfl rfl ?_
  refine w_iload_n rfl rfl ?_
  obtain ⟨q1, hc, hf⟩ := g_bind hf
  refine w_virtual [_] _ rfl rfl rfl rfl (Nat.le_of_ble_eq_true rfl) hM.1 rfl (Nat.le_of_ble_eq_true rfl) (Nat.le_of_ble_eq_true rfl) (t_M_isPane (d := d + 0) hc hM (fun h hM => ?_))
  refine w_if (t := 19) rfl (by decide) (fun c2 => ?_) (fun c2 => ?_)
  · have c2 : q1.1 = (0 : Int32) := c2
    rw [if_pos c2] at hf
    refine w_iconst (v := (-1 : Int32)) rfl (by decide) ?_
    cases hf
    exact w_ireturn rfl (int_ret _) (Nat.le_refl _) (Nat.le_refl _) (hQ _ hM)
  · have c2 : ¬ (q1.1 = (0 : Int32)) := c2
    rw [if_neg c2] at hf
    refine w_iload_n rfl rfl ?_
    refine w_iconst (v := (0 : Int32)) rfl (by decide) ?_
    refine w_sipush (v := (999 : Int32)) rfl (by decide) ?_
    obtain ⟨q3, hc, hf⟩ := g_bind hf
    refine w_static [_, _, _] _ rfl rfl rfl rfl (Nat.le_of_ble_eq_true rfl) (Nat.le_of_ble_eq_true rfl) (Nat.le_of_ble_eq_true rfl) (t_M_in (d := d + 1) hc hM (fun h hM => ?_))
    refine w_if (t := 21) rfl (by decide) (fun c4 => ?_) (fun c4 => ?_)
    · have c4 : ¬ (q3.1 = (0 : Int32)) := c4
      rw [if_neg c4] at hf
      refine w_aload_n rfl rfl ?_
      refine m_getR hM rfl rfl rfl (by decide) ?_
      refine w_iload_n rfl rfl ?_
      obtain ⟨hb, hf⟩ := g_guard hf
      refine m_ld hM rfl rfl (by decide) rfl hb ?_
      refine w_iconst (v := (3 : Int32)) rfl (by decide) ?_
      refine w_icmp (t := 34) rfl (by decide) (fun c5 => ?_) (fun c5 => ?_)
      · have c5 : ((q3.2).2 5 (ix (x1))) = (3 : Int32) := c5
        rw [if_pos c5] at hf
        refine w_aload_n rfl rfl ?_
        refine m_getR hM rfl rfl rfl (by decide) ?_
        refine w_iload_n rfl rfl ?_
        obtain ⟨hb, hf⟩ := g_guard hf
        refine m_ld hM rfl rfl (by decide) rfl hb ?_
        refine w_istore_n rfl (Nat.le_of_ble_eq_true rfl) rfl ?_
        refine w_aload_n rfl rfl ?_
        refine m_getR hM rfl rfl rfl (by decide) ?_
        refine w_iload_n rfl rfl ?_
        refine w_iload_n rfl rfl ?_
        obtain ⟨hb, hf⟩ := g_guard hf
        refine m_st hM rfl rfl (by decide) rfl hb (fun h hM => ?_)
        refine w_iload_n rfl rfl ?_
        cases hf
        exact w_ireturn rfl (int_ret _) (Nat.le_refl _) (Nat.le_refl _) (hQ _ hM)
      · have c5 : ¬ (((q3.2).2 5 (ix (x1))) = (3 : Int32)) := c5
        rw [if_neg c5] at hf
        refine w_bipush (v := (-3 : Int32)) rfl (by decide) ?_
        cases hf
        exact w_ireturn rfl (int_ret _) (Nat.le_refl _) (Nat.le_refl _) (hQ _ hM)
    · have c4 : q3.1 = (0 : Int32) := Classical.not_not.mp c4
      rw [if_pos c4] at hf
      refine w_iconst (v := (-1 : Int32)) rfl (by decide) ?_
      cases hf
      exact w_ireturn rfl (int_ret _) (Nat.le_refl _) (Nat.le_refl _) (hQ _ hM)
def f_M_echo (n : Nat) (S : MS) (x1 : Int32) (x2 : Int32) : Option (Int32 × MS) := ((f_M_isPane n (S) (x1)).bind (fun q1 => (if q1.1 = (0 : Int32) then some ((-1 : Int32), q1.2) else ((f_M_isWritable n (q1.2) (x1)).bind (fun q3 => (if q3.1 = (0 : Int32) then some ((-3 : Int32), q3.2) else (bif inB (x1) 61 then (if ((q3.2).2 19 (ix (x1))) = (0 : Int32) then (if x2 = (0 : Int32) then (bif inB (x1) 61 then (bif isZ ((1 : Int32)) then some ((1 : Int32), (q3.2).a 19 (ix (x1)) ((1 : Int32))) else none) else none) else (bif inB (x1) 61 then (bif isZ ((0 : Int32)) then some ((1 : Int32), (q3.2).a 19 (ix (x1)) ((0 : Int32))) else none) else none)) else (if x2 = (0 : Int32) then (bif inB (x1) 61 then (bif isZ ((1 : Int32)) then some ((0 : Int32), (q3.2).a 19 (ix (x1)) ((1 : Int32))) else none) else none) else (bif inB (x1) 61 then (bif isZ ((0 : Int32)) then some ((0 : Int32), (q3.2).a 19 (ix (x1)) ((0 : Int32))) else none) else none))) else none)))))))
set_option maxHeartbeats 4000000 in
set_option maxRecDepth 100000 in
theorem t_M_echo {d m n : Nat} {ad : Nat → Nat} {h0 h : gHp} {Q : Option gv → gHp → Prop} {S : MS} {x1 : Int32} {x2 : Int32} {res : Int32 × MS} (hf : f_M_echo n S x1 x2 = some res) (hM : MR h0 h m ad S) (hQ : ∀ h', MR h0 h' m ad res.2 → Q (some (.inl res.1)) h') : gCall (d + 3) m_M_echo [.inr (some m), .inl x1, .inl x2] h Q := by
  unfold f_M_echo at hf
  refine g_enter (d := d + 2) (Nat.le_of_ble_eq_true rfl) ?_
  show gWP (gCall (d + 2)) m_M_echo Q 0 [some (.inr (some m)), some (.inl x1), some (.inl x2), none] [] h 0 0
  refine w_aload_n rfl rfl ?_
  refine w_iload_n rfl rfl ?_
  obtain ⟨q1, hc, hf⟩ := g_bind hf
  refine w_virtual [_] _ rfl rfl rfl rfl (Nat.le_of_ble_eq_true rfl) hM.1 rfl (Nat.le_of_ble_eq_true rfl) (Nat.le_of_ble_eq_true rfl) (t_M_isPane (d := d + 0) hc hM (fun h hM => ?_))
  refine w_if (t := 10) rfl (by decide) (fun c2 => ?_) (fun c2 => ?_)
  · have c2 : ¬ (q1.1 = (0 : Int32)) := c2
    rw [if_neg c2] at hf
    refine w_aload_n rfl rfl ?_
    refine w_iload_n rfl rfl ?_
    obtain ⟨q3, hc, hf⟩ := g_bind hf
    refine w_virtual [_] _ rfl rfl rfl rfl (Nat.le_of_ble_eq_true rfl) hM.1 rfl (Nat.le_of_ble_eq_true rfl) (Nat.le_of_ble_eq_true rfl) (t_M_isWritable (d := d + 1) hc hM (fun h hM => ?_))
    refine w_if (t := 21) rfl (by decide) (fun c4 => ?_) (fun c4 => ?_)
    · have c4 : ¬ (q3.1 = (0 : Int32)) := c4
      rw [if_neg c4] at hf
      refine w_aload_n rfl rfl ?_
      refine m_getR hM rfl rfl rfl (by decide) ?_
      refine w_iload_n rfl rfl ?_
      obtain ⟨hb, hf⟩ := g_guard hf
      refine m_zld hM rfl rfl (by decide) rfl hb ?_
      refine w_if (t := 34) rfl (by decide) (fun c5 => ?_) (fun c5 => ?_)
      · have c5 : ((q3.2).2 19 (ix (x1))) = (0 : Int32) := c5
        rw [if_pos c5] at hf
        refine w_iconst (v := (1 : Int32)) rfl (by decide) ?_
        refine w_istore_n rfl (Nat.le_of_ble_eq_true rfl) rfl ?_
        refine w_aload_n rfl rfl ?_
        refine m_getR hM rfl rfl rfl (by decide) ?_
        refine w_iload_n rfl rfl ?_
        refine w_iload_n rfl rfl ?_
        refine w_if (t := 49) rfl (by decide) (fun c6 => ?_) (fun c6 => ?_)
        · have c6 : ¬ (x2 = (0 : Int32)) := c6
          rw [if_neg c6] at hf
          refine w_iconst (v := (0 : Int32)) rfl (by decide) ?_
          obtain ⟨hb, hf⟩ := g_guard hf
          obtain ⟨hz, hf⟩ := g_guard hf
          refine m_zst hM rfl rfl (by decide) rfl hb hz (fun h hM => ?_)
          refine w_iload_n rfl rfl ?_
          cases hf
          exact w_ireturn rfl (int_ret _) (Nat.le_refl _) (Nat.le_refl _) (hQ _ hM)
        · have c6 : x2 = (0 : Int32) := Classical.not_not.mp c6
          rw [if_pos c6] at hf
          refine w_iconst (v := (1 : Int32)) rfl (by decide) ?_
          refine w_goto (t := 50) rfl (by decide) ?_
          obtain ⟨hb, hf⟩ := g_guard hf
          obtain ⟨hz, hf⟩ := g_guard hf
          refine m_zst hM rfl rfl (by decide) rfl hb hz (fun h hM => ?_)
          refine w_iload_n rfl rfl ?_
          cases hf
          exact w_ireturn rfl (int_ret _) (Nat.le_refl _) (Nat.le_refl _) (hQ _ hM)
      · have c5 : ¬ (((q3.2).2 19 (ix (x1))) = (0 : Int32)) := c5
        rw [if_neg c5] at hf
        refine w_iconst (v := (0 : Int32)) rfl (by decide) ?_
        refine w_goto (t := 35) rfl (by decide) ?_
        refine w_istore_n rfl (Nat.le_of_ble_eq_true rfl) rfl ?_
        refine w_aload_n rfl rfl ?_
        refine m_getR hM rfl rfl rfl (by decide) ?_
        refine w_iload_n rfl rfl ?_
        refine w_iload_n rfl rfl ?_
        refine w_if (t := 49) rfl (by decide) (fun c6 => ?_) (fun c6 => ?_)
        · have c6 : ¬ (x2 = (0 : Int32)) := c6
          rw [if_neg c6] at hf
          refine w_iconst (v := (0 : Int32)) rfl (by decide) ?_
          obtain ⟨hb, hf⟩ := g_guard hf
          obtain ⟨hz, hf⟩ := g_guard hf
          refine m_zst hM rfl rfl (by decide) rfl hb hz (fun h hM => ?_)
          refine w_iload_n rfl rfl ?_
          cases hf
          exact w_ireturn rfl (int_ret _) (Nat.le_refl _) (Nat.le_refl _) (hQ _ hM)
        · have c6 : x2 = (0 : Int32) := Classical.not_not.mp c6
          rw [if_pos c6] at hf
          refine w_iconst (v := (1 : Int32)) rfl (by decide) ?_
          refine w_goto (t := 50) rfl (by decide) ?_
          obtain ⟨hb, hf⟩ := g_guard hf
          obtain ⟨hz, hf⟩ := g_guard hf
          refine m_zst hM rfl rfl (by decide) rfl hb hz (fun h hM => ?_)
          refine w_iload_n rfl rfl ?_
          cases hf
          exact w_ireturn rfl (int_ret _) (Nat.le_refl _) (Nat.le_refl _) (hQ _ hM)
    · have c4 : q3.1 = (0 : Int32) := Classical.not_not.mp c4
      rw [if_pos c4] at hf
      refine w_bipush (v := (-3 : Int32)) rfl (by decide) ?_
      cases hf
      exact w_ireturn rfl (int_ret _) (Nat.le_refl _) (Nat.le_refl _) (hQ _ hM)
  · have c2 : q1.1 = (0 : Int32) := Classical.not_not.mp c2
    rw [if_pos c2] at hf
    refine w_iconst (v := (-1 : Int32)) rfl (by decide) ?_
    cases hf
    exact w_ireturn rfl (int_ret _) (Nat.le_refl _) (Nat.le_refl _) (hQ _ hM)
def f_M_paneAt_B6 : Nat → MS → Int32 → Int32 → Int32 → Int32 → Option (Int32 × MS)
  | 0, _, _, _, _, _ => none
  | n + 1, S, x1, x2, x3, x4 => (if ((S).1 2) < x4 then some (x3, S) else (bif inB (x4) 61 then (if ((S).2 4 (ix (x4))) = (0 : Int32) then f_M_paneAt_B6 n (S) (x1) (x2) (x3) (x4 + (1 : Int32)) else (bif inB (x4) 61 then (if ((S).2 5 (ix (x4))) = (4 : Int32) then f_M_paneAt_B6 n (S) (x1) (x2) (x3) (x4 + (1 : Int32)) else ((f_M_has n (S) (x4) (x1) (x2)).bind (fun q4 => (if q4.1 = (0 : Int32) then f_M_paneAt_B6 n (q4.2) (x1) (x2) (x3) (x4 + (1 : Int32)) else f_M_paneAt_B6 n (q4.2) (x1) (x2) (x4) (x4 + (1 : Int32)))))) else none)) else none))
set_option maxHeartbeats 4000000 in
set_option maxRecDepth 100000 in
theorem t_M_paneAt_B6 {d m : Nat} {ad : Nat → Nat} {h0 : gHp} {Q : Option gv → gHp → Prop} {res : Int32 × MS} (hQ : ∀ h', MR h0 h' m ad res.2 → Q (some (.inl res.1)) h') : ∀ (n : Nat) (S : MS) (x1 : Int32) (x2 : Int32) (x3 : Int32) (x4 : Int32) (h : gHp), f_M_paneAt_B6 n S x1 x2 x3 x4  = some res → MR h0 h m ad S → gWP (gCall (d + 2)) m_M_paneAt Q 6 [some (.inr (some m)), some (.inl x1), some (.inl x2), some (.inl x3), some (.inl x4)] [] h 0 0 := by
  intro n
  induction n with
  | zero =>
    intro S x1 x2 x3 x4   h hf
    cases hf
  | succ n ih =>
    intro S x1 x2 x3 x4   h hf hM
    unfold f_M_paneAt_B6 at hf
    refine w_iload rfl rfl ?_
    refine w_aload_n rfl rfl ?_
    refine m_getI hM rfl rfl rfl ?_
    refine w_icmp (t := 60) rfl (by decide) (fun c1 => ?_) (fun c1 => ?_)
    · have c1 : ((S).1 2) < x4 := c1
      rw [if_pos c1] at hf
      refine w_iload_n rfl rfl ?_
      cases hf
      exact w_ireturn rfl (int_ret _) (Nat.le_refl _) (Nat.le_refl _) (hQ _ hM)
    · have c1 : ¬ (((S).1 2) < x4) := c1
      rw [if_neg c1] at hf
      refine w_aload_n rfl rfl ?_
      refine m_getR hM rfl rfl rfl (by decide) ?_
      refine w_iload rfl rfl ?_
      obtain ⟨hb, hf⟩ := g_guard hf
      refine m_zld hM rfl rfl (by decide) rfl hb ?_
      refine w_if (t := 52) rfl (by decide) (fun c2 => ?_) (fun c2 => ?_)
      · have c2 : ((S).2 4 (ix (x4))) = (0 : Int32) := c2
        rw [if_pos c2] at hf
        refine w_iload_n rfl rfl ?_
        refine w_istore_n rfl (Nat.le_of_ble_eq_true rfl) rfl ?_
        refine w_iinc (v := (1 : Int32)) rfl rfl (by decide) rfl ?_
        refine w_goto (t := 6) rfl (by decide) ?_
        exact ih _ (x1) (x2) (x3) (x4 + (1 : Int32))  _ hf hM
      · have c2 : ¬ (((S).2 4 (ix (x4))) = (0 : Int32)) := c2
        rw [if_neg c2] at hf
        refine w_aload_n rfl rfl ?_
        refine m_getR hM rfl rfl rfl (by decide) ?_
        refine w_iload rfl rfl ?_
        obtain ⟨hb, hf⟩ := g_guard hf
        refine m_ld hM rfl rfl (by decide) rfl hb ?_
        refine w_iconst (v := (4 : Int32)) rfl (by decide) ?_
        refine w_icmp (t := 52) rfl (by decide) (fun c3 => ?_) (fun c3 => ?_)
        · have c3 : ((S).2 5 (ix (x4))) = (4 : Int32) := c3
          rw [if_pos c3] at hf
          refine w_iload_n rfl rfl ?_
          refine w_istore_n rfl (Nat.le_of_ble_eq_true rfl) rfl ?_
          refine w_iinc (v := (1 : Int32)) rfl rfl (by decide) rfl ?_
          refine w_goto (t := 6) rfl (by decide) ?_
          exact ih _ (x1) (x2) (x3) (x4 + (1 : Int32))  _ hf hM
        · have c3 : ¬ (((S).2 5 (ix (x4))) = (4 : Int32)) := c3
          rw [if_neg c3] at hf
          refine w_aload_n rfl rfl ?_
          refine w_iload rfl rfl ?_
          refine w_iload_n rfl rfl ?_
          refine w_iload_n rfl rfl ?_
          obtain ⟨q4, hc, hf⟩ := g_bind hf
          refine w_virtual [_, _, _] _ rfl rfl rfl rfl (Nat.le_of_ble_eq_true rfl) hM.1 rfl (Nat.le_of_ble_eq_true rfl) (Nat.le_of_ble_eq_true rfl) (t_M_has (d := d + 0) hc hM (fun h hM => ?_))
          refine w_if (t := 52) rfl (by decide) (fun c5 => ?_) (fun c5 => ?_)
          · have c5 : q4.1 = (0 : Int32) := c5
            rw [if_pos c5] at hf
            refine w_iload_n rfl rfl ?_
            refine w_istore_n rfl (Nat.le_of_ble_eq_true rfl) rfl ?_
            refine w_iinc (v := (1 : Int32)) rfl rfl (by decide) rfl ?_
            refine w_goto (t := 6) rfl (by decide) ?_
            exact ih _ (x1) (x2) (x3) (x4 + (1 : Int32))  _ hf hM
          · have c5 : ¬ (q4.1 = (0 : Int32)) := c5
            rw [if_neg c5] at hf
            refine w_iload rfl rfl ?_
            refine w_goto (t := 53) rfl (by decide) ?_
            refine w_istore_n rfl (Nat.le_of_ble_eq_true rfl) rfl ?_
            refine w_iinc (v := (1 : Int32)) rfl rfl (by decide) rfl ?_
            refine w_goto (t := 6) rfl (by decide) ?_
            exact ih _ (x1) (x2) (x4) (x4 + (1 : Int32))  _ hf hM
def f_M_paneAt (n : Nat) (S : MS) (x1 : Int32) (x2 : Int32) : Option (Int32 × MS) := f_M_paneAt_B6  n (S) (x1) (x2) ((-2 : Int32)) ((1 : Int32))
set_option maxHeartbeats 4000000 in
set_option maxRecDepth 100000 in
theorem t_M_paneAt {d m n : Nat} {ad : Nat → Nat} {h0 h : gHp} {Q : Option gv → gHp → Prop} {S : MS} {x1 : Int32} {x2 : Int32} {res : Int32 × MS} (hf : f_M_paneAt n S x1 x2 = some res) (hM : MR h0 h m ad S) (hQ : ∀ h', MR h0 h' m ad res.2 → Q (some (.inl res.1)) h') : gCall (d + 3) m_M_paneAt [.inr (some m), .inl x1, .inl x2] h Q := by
  unfold f_M_paneAt at hf
  refine g_enter (d := d + 2) (Nat.le_of_ble_eq_true rfl) ?_
  show gWP (gCall (d + 2)) m_M_paneAt Q 0 [some (.inr (some m)), some (.inl x1), some (.inl x2), none, none] [] h 0 0
  refine w_bipush (v := (-2 : Int32)) rfl (by decide) ?_
  refine w_istore_n rfl (Nat.le_of_ble_eq_true rfl) rfl ?_
  refine w_iconst (v := (1 : Int32)) rfl (by decide) ?_
  refine w_istore rfl (Nat.le_of_ble_eq_true rfl) rfl ?_
  exact t_M_paneAt_B6  hQ _ _ (x1) (x2) ((-2 : Int32)) ((1 : Int32))  _ hf hM
def f_M_cursor (n : Nat) (S : MS) (x1 : Int32) (x2 : Int32) (x3 : Int32) : Option (Int32 × MS) := ((f_M_isPane n (S) (x1)).bind (fun q1 => (if q1.1 = (0 : Int32) then some ((-1 : Int32), q1.2) else ((f_M_in n (q1.2) (x2) ((0 : Int32)) ((99 : Int32))).bind (fun q3 => (if q3.1 = (0 : Int32) then some ((-1 : Int32), q3.2) else ((f_M_in n (q3.2) (x3) ((0 : Int32)) ((99 : Int32))).bind (fun q5 => (if q5.1 = (0 : Int32) then some ((-1 : Int32), q5.2) else (bif inB (x1) 61 then (if ((q5.2).2 5 (ix (x1))) = (2 : Int32) then (bif inB (((4 : Int32) * x1) + (1 : Int32)) 244 then (if ((q5.2).2 21 (ix (((4 : Int32) * x1) + (1 : Int32)))) = (0 : Int32) then (bif inB (x1) 61 then (bif inB (x1) 61 then ((f_M_isCell n (((q5.2).a 34 (ix (x1)) (x2)).a 35 (ix (x1)) (x3)) (x1) (x2) (x3)).bind (fun q9 => (if q9.1 = (0 : Int32) then some ((0 : Int32), q9.2) else some ((1 : Int32), q9.2)))) else none) else none) else some ((-3 : Int32), q5.2)) else none) else some ((-3 : Int32), q5.2)) else none))))))))))
set_option maxHeartbeats 4000000 in
set_option maxRecDepth 100000 in
theorem t_M_cursor {d m n : Nat} {ad : Nat → Nat} {h0 h : gHp} {Q : Option gv → gHp → Prop} {S : MS} {x1 : Int32} {x2 : Int32} {x3 : Int32} {res : Int32 × MS} (hf : f_M_cursor n S x1 x2 x3 = some res) (hM : MR h0 h m ad S) (hQ : ∀ h', MR h0 h' m ad res.2 → Q (some (.inl res.1)) h') : gCall (d + 3) m_M_cursor [.inr (some m), .inl x1, .inl x2, .inl x3] h Q := by
  unfold f_M_cursor at hf
  refine g_enter (d := d + 2) (Nat.le_of_ble_eq_true rfl) ?_
  show gWP (gCall (d + 2)) m_M_cursor Q 0 [some (.inr (some m)), some (.inl x1), some (.inl x2), some (.inl x3)] [] h 0 0
  refine w_aload_n rfl rfl ?_
  refine w_iload_n rfl rfl ?_
  obtain ⟨q1, hc, hf⟩ := g_bind hf
  refine w_virtual [_] _ rfl rfl rfl rfl (Nat.le_of_ble_eq_true rfl) hM.1 rfl (Nat.le_of_ble_eq_true rfl) (Nat.le_of_ble_eq_true rfl) (t_M_isPane (d := d + 0) hc hM (fun h hM => ?_))
  refine w_if (t := 28) rfl (by decide) (fun c2 => ?_) (fun c2 => ?_)
  · have c2 : q1.1 = (0 : Int32) := c2
    rw [if_pos c2] at hf
    refine w_iconst (v := (-1 : Int32)) rfl (by decide) ?_
    cases hf
    exact w_ireturn rfl (int_ret _) (Nat.le_refl _) (Nat.le_refl _) (hQ _ hM)
  · have c2 : ¬ (q1.1 = (0 : Int32)) := c2
    rw [if_neg c2] at hf
    refine w_iload_n rfl rfl ?_
    refine w_iconst (v := (0 : Int32)) rfl (by decide) ?_
    refine w_bipush (v := (99 : Int32)) rfl (by decide) ?_
    obtain ⟨q3, hc, hf⟩ := g_bind hf
    refine w_static [_, _, _] _ rfl rfl rfl rfl (Nat.le_of_ble_eq_true rfl) (Nat.le_of_ble_eq_true rfl) (Nat.le_of_ble_eq_true rfl) (t_M_in (d := d + 1) hc hM (fun h hM => ?_))
    refine w_if (t := 28) rfl (by decide) (fun c4 => ?_) (fun c4 => ?_)
    · have c4 : q3.1 = (0 : Int32) := c4
      rw [if_pos c4] at hf
      refine w_iconst (v := (-1 : Int32)) rfl (by decide) ?_
      cases hf
      exact w_ireturn rfl (int_ret _) (Nat.le_refl _) (Nat.le_refl _) (hQ _ hM)
    · have c4 : ¬ (q3.1 = (0 : Int32)) := c4
      rw [if_neg c4] at hf
      refine w_iload_n rfl rfl ?_
      refine w_iconst (v := (0 : Int32)) rfl (by decide) ?_
      refine w_bipush (v := (99 : Int32)) rfl (by decide) ?_
      obtain ⟨q5, hc, hf⟩ := g_bind hf
      refine w_static [_, _, _] _ rfl rfl rfl rfl (Nat.le_of_ble_eq_true rfl) (Nat.le_of_ble_eq_true rfl) (Nat.le_of_ble_eq_true rfl) (t_M_in (d := d + 1) hc hM (fun h hM => ?_))
      refine w_if (t := 30) rfl (by decide) (fun c6 => ?_) (fun c6 => ?_)
      · have c6 : ¬ (q5.1 = (0 : Int32)) := c6
        rw [if_neg c6] at hf
        refine w_aload_n rfl rfl ?_
        refine m_getR hM rfl rfl rfl (by decide) ?_
        refine w_iload_n rfl rfl ?_
        obtain ⟨hb, hf⟩ := g_guard hf
        refine m_ld hM rfl rfl (by decide) rfl hb ?_
        refine w_iconst (v := (2 : Int32)) rfl (by decide) ?_
        refine w_icmp (t := 53) rfl (by decide) (fun c7 => ?_) (fun c7 => ?_)
        · have c7 : ¬ (((q5.2).2 5 (ix (x1))) = (2 : Int32)) := c7
          rw [if_neg c7] at hf
          refine w_bipush (v := (-3 : Int32)) rfl (by decide) ?_
          cases hf
          exact w_ireturn rfl (int_ret _) (Nat.le_refl _) (Nat.le_refl _) (hQ _ hM)
        · have c7 : ((q5.2).2 5 (ix (x1))) = (2 : Int32) := Classical.not_not.mp c7
          rw [if_pos c7] at hf
          refine w_aload_n rfl rfl ?_
          refine m_getR hM rfl rfl rfl (by decide) ?_
          refine w_iconst (v := (4 : Int32)) rfl (by decide) ?_
          refine w_iload_n rfl rfl ?_
          refine w_imul rfl ?_
          refine w_iconst (v := (1 : Int32)) rfl (by decide) ?_
          refine w_iadd rfl ?_
          obtain ⟨hb, hf⟩ := g_guard hf
          refine m_zld hM rfl rfl (by decide) rfl hb ?_
          refine w_if (t := 56) rfl (by decide) (fun c8 => ?_) (fun c8 => ?_)
          · have c8 : ((q5.2).2 21 (ix (((4 : Int32) * x1) + (1 : Int32)))) = (0 : Int32) := c8
            rw [if_pos c8] at hf
            refine w_aload_n rfl rfl ?_
            refine m_getR hM rfl rfl rfl (by decide) ?_
            refine w_iload_n rfl rfl ?_
            refine w_iload_n rfl rfl ?_
            obtain ⟨hb, hf⟩ := g_guard hf
            refine m_st hM rfl rfl (by decide) rfl hb (fun h hM => ?_)
            refine w_aload_n rfl rfl ?_
            refine m_getR hM rfl rfl rfl (by decide) ?_
            refine w_iload_n rfl rfl ?_
            refine w_iload_n rfl rfl ?_
            obtain ⟨hb, hf⟩ := g_guard hf
            refine m_st hM rfl rfl (by decide) rfl hb (fun h hM => ?_)
            refine w_aload_n rfl rfl ?_
            refine w_iload_n rfl rfl ?_
            refine w_iload_n rfl rfl ?_
            refine w_iload_n rfl rfl ?_
            obtain ⟨q9, hc, hf⟩ := g_bind hf
            refine w_virtual [_, _, _] _ rfl rfl rfl rfl (Nat.le_of_ble_eq_true rfl) hM.1 rfl (Nat.le_of_ble_eq_true rfl) (Nat.le_of_ble_eq_true rfl) (t_M_isCell (d := d + 1) hc hM (fun h hM => ?_))
            refine w_if (t := 84) rfl (by decide) (fun c10 => ?_) (fun c10 => ?_)
            · have c10 : q9.1 = (0 : Int32) := c10
              rw [if_pos c10] at hf
              refine w_iconst (v := (0 : Int32)) rfl (by decide) ?_
              cases hf
              exact w_ireturn rfl (int_ret _) (Nat.le_refl _) (Nat.le_refl _) (hQ _ hM)
            · have c10 : ¬ (q9.1 = (0 : Int32)) := c10
              rw [if_neg c10] at hf
              refine w_iconst (v := (1 : Int32)) rfl (by decide) ?_
              refine w_goto (t := 85) rfl (by decide) ?_
              cases hf
              exact w_ireturn rfl (int_ret _) (Nat.le_refl _) (Nat.le_refl _) (hQ _ hM)
          · have c8 : ¬ (((q5.2).2 21 (ix (((4 : Int32) * x1) + (1 : Int32)))) = (0 : Int32)) := c8
            rw [if_neg c8] at hf
            refine w_bipush (v := (-3 : Int32)) rfl (by decide) ?_
            cases hf
            exact w_ireturn rfl (int_ret _) (Nat.le_refl _) (Nat.le_refl _) (hQ _ hM)
      · have c6 : q5.1 = (0 : Int32) := Classical.not_not.mp c6
        rw [if_pos c6] at hf
        refine w_iconst (v := (-1 : Int32)) rfl (by decide) ?_
        cases hf
        exact w_ireturn rfl (int_ret _) (Nat.le_refl _) (Nat.le_refl _) (hQ _ hM)
def f_M_wipe_B47 : Nat → MS → Int32 → Int32 → Option (Int32 × MS)
  | 0, _, _, _ => none
  | n + 1, S, x1, x2 => (if (((1440 : Int32) * x1) + (1440 : Int32)) ≤ x2 then (bif inB (x1) 61 then (bif inB (x1) 61 then some ((1 : Int32), ((S).a 34 (ix (x1)) ((0 : Int32))).a 35 (ix (x1)) ((0 : Int32))) else none) else none) else ((f_M_blank n (S) (x2)).bind (fun q2 => f_M_wipe_B47 n (q2) (x1) (x2 + (1 : Int32)))))
set_option maxHeartbeats 4000000 in
set_option maxRecDepth 100000 in
theorem t_M_wipe_B47 {d m : Nat} {ad : Nat → Nat} {h0 : gHp} {Q : Option gv → gHp → Prop} {res : Int32 × MS} (hQ : ∀ h', MR h0 h' m ad res.2 → Q (some (.inl res.1)) h') : ∀ (n : Nat) (S : MS) (x1 : Int32) (x2 : Int32) (h : gHp), f_M_wipe_B47 n S x1 x2  = some res → MR h0 h m ad S → gWP (gCall (d + 2)) m_M_wipe Q 47 [some (.inr (some m)), some (.inl x1), some (.inl x2)] [] h 0 0 := by
  intro n
  induction n with
  | zero =>
    intro S x1 x2   h hf
    cases hf
  | succ n ih =>
    intro S x1 x2   h hf hM
    unfold f_M_wipe_B47 at hf
    refine w_iload_n rfl rfl ?_
    refine w_sipush (v := (1440 : Int32)) rfl (by decide) ?_
    refine w_iload_n rfl rfl ?_
    refine w_imul rfl ?_
    refine w_sipush (v := (1440 : Int32)) rfl (by decide) ?_
    refine w_iadd rfl ?_
    refine w_icmp (t := 71) rfl (by decide) (fun c1 => ?_) (fun c1 => ?_)
    · have c1 : (((1440 : Int32) * x1) + (1440 : Int32)) ≤ x2 := c1
      rw [if_pos c1] at hf
      refine w_aload_n rfl rfl ?_
      refine m_getR hM rfl rfl rfl (by decide) ?_
      refine w_iload_n rfl rfl ?_
      refine w_iconst (v := (0 : Int32)) rfl (by decide) ?_
      obtain ⟨hb, hf⟩ := g_guard hf
      refine m_st hM rfl rfl (by decide) rfl hb (fun h hM => ?_)
      refine w_aload_n rfl rfl ?_
      refine m_getR hM rfl rfl rfl (by decide) ?_
      refine w_iload_n rfl rfl ?_
      refine w_iconst (v := (0 : Int32)) rfl (by decide) ?_
      obtain ⟨hb, hf⟩ := g_guard hf
      refine m_st hM rfl rfl (by decide) rfl hb (fun h hM => ?_)
      refine w_iconst (v := (1 : Int32)) rfl (by decide) ?_
      cases hf
      exact w_ireturn rfl (int_ret _) (Nat.le_refl _) (Nat.le_refl _) (hQ _ hM)
    · have c1 : ¬ ((((1440 : Int32) * x1) + (1440 : Int32)) ≤ x2) := c1
      rw [if_neg c1] at hf
      refine w_aload_n rfl rfl ?_
      refine w_iload_n rfl rfl ?_
      obtain ⟨q2, hc, hf⟩ := g_bind hf
      refine w_virtual [_] _ rfl rfl rfl rfl (Nat.le_of_ble_eq_true rfl) hM.1 rfl (Nat.le_of_ble_eq_true rfl) (Nat.le_of_ble_eq_true rfl) (t_M_blank (d := d + 1) hc hM (fun h hM => ?_))
      refine w_iinc (v := (1 : Int32)) rfl rfl (by decide) rfl ?_
      refine w_goto (t := 47) rfl (by decide) ?_
      exact ih _ (x1) (x2 + (1 : Int32))  _ hf hM
def f_M_wipe (n : Nat) (S : MS) (x1 : Int32) : Option (Int32 × MS) := ((f_M_isPane n (S) (x1)).bind (fun q1 => (if q1.1 = (0 : Int32) then some ((-1 : Int32), q1.2) else ((f_M_isWritable n (q1.2) (x1)).bind (fun q3 => (if q3.1 = (0 : Int32) then some ((-3 : Int32), q3.2) else (bif inB (((4 : Int32) * x1) + (1 : Int32)) 244 then (if ((q3.2).2 21 (ix (((4 : Int32) * x1) + (1 : Int32)))) = (0 : Int32) then (bif inB (x1) 61 then f_M_wipe_B47  n ((q3.2).a 25 (ix (x1)) ((0 : Int32))) (x1) ((1440 : Int32) * x1) else none) else some ((-3 : Int32), q3.2)) else none)))))))
set_option maxHeartbeats 4000000 in
set_option maxRecDepth 100000 in
theorem t_M_wipe {d m n : Nat} {ad : Nat → Nat} {h0 h : gHp} {Q : Option gv → gHp → Prop} {S : MS} {x1 : Int32} {res : Int32 × MS} (hf : f_M_wipe n S x1 = some res) (hM : MR h0 h m ad S) (hQ : ∀ h', MR h0 h' m ad res.2 → Q (some (.inl res.1)) h') : gCall (d + 3) m_M_wipe [.inr (some m), .inl x1] h Q := by
  unfold f_M_wipe at hf
  refine g_enter (d := d + 2) (Nat.le_of_ble_eq_true rfl) ?_
  show gWP (gCall (d + 2)) m_M_wipe Q 0 [some (.inr (some m)), some (.inl x1), none] [] h 0 0
  refine w_aload_n rfl rfl ?_
  refine w_iload_n rfl rfl ?_
  obtain ⟨q1, hc, hf⟩ := g_bind hf
  refine w_virtual [_] _ rfl rfl rfl rfl (Nat.le_of_ble_eq_true rfl) hM.1 rfl (Nat.le_of_ble_eq_true rfl) (Nat.le_of_ble_eq_true rfl) (t_M_isPane (d := d + 0) hc hM (fun h hM => ?_))
  refine w_if (t := 10) rfl (by decide) (fun c2 => ?_) (fun c2 => ?_)
  · have c2 : ¬ (q1.1 = (0 : Int32)) := c2
    rw [if_neg c2] at hf
    refine w_aload_n rfl rfl ?_
    refine w_iload_n rfl rfl ?_
    obtain ⟨q3, hc, hf⟩ := g_bind hf
    refine w_virtual [_] _ rfl rfl rfl rfl (Nat.le_of_ble_eq_true rfl) hM.1 rfl (Nat.le_of_ble_eq_true rfl) (Nat.le_of_ble_eq_true rfl) (t_M_isWritable (d := d + 1) hc hM (fun h hM => ?_))
    refine w_if (t := 31) rfl (by decide) (fun c4 => ?_) (fun c4 => ?_)
    · have c4 : q3.1 = (0 : Int32) := c4
      rw [if_pos c4] at hf
      refine w_bipush (v := (-3 : Int32)) rfl (by decide) ?_
      cases hf
      exact w_ireturn rfl (int_ret _) (Nat.le_refl _) (Nat.le_refl _) (hQ _ hM)
    · have c4 : ¬ (q3.1 = (0 : Int32)) := c4
      rw [if_neg c4] at hf
      refine w_aload_n rfl rfl ?_
      refine m_getR hM rfl rfl rfl (by decide) ?_
      refine w_iconst (v := (4 : Int32)) rfl (by decide) ?_
      refine w_iload_n rfl rfl ?_
      refine w_imul rfl ?_
      refine w_iconst (v := (1 : Int32)) rfl (by decide) ?_
      refine w_iadd rfl ?_
      obtain ⟨hb, hf⟩ := g_guard hf
      refine m_zld hM rfl rfl (by decide) rfl hb ?_
      refine w_if (t := 34) rfl (by decide) (fun c5 => ?_) (fun c5 => ?_)
      · have c5 : ((q3.2).2 21 (ix (((4 : Int32) * x1) + (1 : Int32)))) = (0 : Int32) := c5
        rw [if_pos c5] at hf
        refine w_aload_n rfl rfl ?_
        refine m_getR hM rfl rfl rfl (by decide) ?_
        refine w_iload_n rfl rfl ?_
        refine w_iconst (v := (0 : Int32)) rfl (by decide) ?_
        obtain ⟨hb, hf⟩ := g_guard hf
        refine m_st hM rfl rfl (by decide) rfl hb (fun h hM => ?_)
        refine w_sipush (v := (1440 : Int32)) rfl (by decide) ?_
        refine w_iload_n rfl rfl ?_
        refine w_imul rfl ?_
        refine w_istore_n rfl (Nat.le_of_ble_eq_true rfl) rfl ?_
        exact t_M_wipe_B47  hQ _ _ (x1) ((1440 : Int32) * x1)  _ hf hM
      · have c5 : ¬ (((q3.2).2 21 (ix (((4 : Int32) * x1) + (1 : Int32)))) = (0 : Int32)) := c5
        rw [if_neg c5] at hf
        refine w_bipush (v := (-3 : Int32)) rfl (by decide) ?_
        cases hf
        exact w_ireturn rfl (int_ret _) (Nat.le_refl _) (Nat.le_refl _) (hQ _ hM)
  · have c2 : q1.1 = (0 : Int32) := Classical.not_not.mp c2
    rw [if_pos c2] at hf
    refine w_iconst (v := (-1 : Int32)) rfl (by decide) ?_
    cases hf
    exact w_ireturn rfl (int_ret _) (Nat.le_refl _) (Nat.le_refl _) (hQ _ hM)
def f_M_pair (n : Nat) (S : MS) (x1 : Int32) (x2 : Int32) : Option (Int32 × MS) := ((f_M_isPane n (S) (x1)).bind (fun q1 => (if q1.1 = (0 : Int32) then some ((-1 : Int32), q1.2) else (bif inB (x1) 61 then (if ((q1.2).2 5 (ix (x1))) = (4 : Int32) then ((f_M_in n (q1.2) (x2) ((0 : Int32)) ((4 : Int32))).bind (fun q4 => (if q4.1 = (0 : Int32) then some ((-1 : Int32), q4.2) else (if x2 = (0 : Int32) then (bif inB (x1) 61 then some ((q4.2).2 9 (ix (x1)), q4.2) else none) else (if x2 = (1 : Int32) then (bif inB (x1) 61 then some ((q4.2).2 10 (ix (x1)), q4.2) else none) else (if x2 = (2 : Int32) then (bif inB (x1) 61 then (if ((q4.2).2 11 (ix (x1))) = (0 : Int32) then some ((-2 : Int32), q4.2) else (bif inB (x1) 61 then some ((q4.2).2 11 (ix (x1)), q4.2) else none)) else none) else (if x2 = (3 : Int32) then (bif inB (x1) 61 then some ((q4.2).2 7 (ix (x1)), q4.2) else none) else (bif inB (x1) 61 then some ((q4.2).2 8 (ix (x1)), q4.2) else none)))))))) else some ((-1 : Int32), q1.2)) else none))))
set_option maxHeartbeats 4000000 in
set_option maxRecDepth 100000 in
theorem t_M_pair {d m n : Nat} {ad : Nat → Nat} {h0 h : gHp} {Q : Option gv → gHp → Prop} {S : MS} {x1 : Int32} {x2 : Int32} {res : Int32 × MS} (hf : f_M_pair n S x1 x2 = some res) (hM : MR h0 h m ad S) (hQ : ∀ h', MR h0 h' m ad res.2 → Q (some (.inl res.1)) h') : gCall (d + 3) m_M_pair [.inr (some m), .inl x1, .inl x2] h Q := by
  unfold f_M_pair at hf
  refine g_enter (d := d + 2) (Nat.le_of_ble_eq_true rfl) ?_
  show gWP (gCall (d + 2)) m_M_pair Q 0 [some (.inr (some m)), some (.inl x1), some (.inl x2)] [] h 0 0
  refine w_aload_n rfl rfl ?_
  refine w_iload_n rfl rfl ?_
  obtain ⟨q1, hc, hf⟩ := g_bind hf
  refine w_virtual [_] _ rfl rfl rfl rfl (Nat.le_of_ble_eq_true rfl) hM.1 rfl (Nat.le_of_ble_eq_true rfl) (Nat.le_of_ble_eq_true rfl) (t_M_isPane (d := d + 0) hc hM (fun h hM => ?_))
  refine w_if (t := 27) rfl (by decide) (fun c2 => ?_) (fun c2 => ?_)
  · have c2 : q1.1 = (0 : Int32) := c2
    rw [if_pos c2] at hf
    refine w_iconst (v := (-1 : Int32)) rfl (by decide) ?_
    cases hf
    exact w_ireturn rfl (int_ret _) (Nat.le_refl _) (Nat.le_refl _) (hQ _ hM)
  · have c2 : ¬ (q1.1 = (0 : Int32)) := c2
    rw [if_neg c2] at hf
    refine w_aload_n rfl rfl ?_
    refine m_getR hM rfl rfl rfl (by decide) ?_
    refine w_iload_n rfl rfl ?_
    obtain ⟨hb, hf⟩ := g_guard hf
    refine m_ld hM rfl rfl (by decide) rfl hb ?_
    refine w_iconst (v := (4 : Int32)) rfl (by decide) ?_
    refine w_icmp (t := 27) rfl (by decide) (fun c3 => ?_) (fun c3 => ?_)
    · have c3 : ¬ (((q1.2).2 5 (ix (x1))) = (4 : Int32)) := c3
      rw [if_neg c3] at hf
      refine w_iconst (v := (-1 : Int32)) rfl (by decide) ?_
      cases hf
      exact w_ireturn rfl (int_ret _) (Nat.le_refl _) (Nat.le_refl _) (hQ _ hM)
    · have c3 : ((q1.2).2 5 (ix (x1))) = (4 : Int32) := Classical.not_not.mp c3
      rw [if_pos c3] at hf
      refine w_iload_n rfl rfl ?_
      refine w_iconst (v := (0 : Int32)) rfl (by decide) ?_
      refine w_iconst (v := (4 : Int32)) rfl (by decide) ?_
      obtain ⟨q4, hc, hf⟩ := g_bind hf
      refine w_static [_, _, _] _ rfl rfl rfl rfl (Nat.le_of_ble_eq_true rfl) (Nat.le_of_ble_eq_true rfl) (Nat.le_of_ble_eq_true rfl) (t_M_in (d := d + 1) hc hM (fun h hM => ?_))
      refine w_if (t := 29) rfl (by decide) (fun c5 => ?_) (fun c5 => ?_)
      · have c5 : ¬ (q4.1 = (0 : Int32)) := c5
        rw [if_neg c5] at hf
        refine w_iload_n rfl rfl ?_
        refine w_if (t := 42) rfl (by decide) (fun c6 => ?_) (fun c6 => ?_)
        · have c6 : ¬ (x2 = (0 : Int32)) := c6
          rw [if_neg c6] at hf
          refine w_iload_n rfl rfl ?_
          refine w_iconst (v := (1 : Int32)) rfl (by decide) ?_
          refine w_icmp (t := 56) rfl (by decide) (fun c7 => ?_) (fun c7 => ?_)
          · have c7 : ¬ (x2 = (1 : Int32)) := c7
            rw [if_neg c7] at hf
            refine w_iload_n rfl rfl ?_
            refine w_iconst (v := (2 : Int32)) rfl (by decide) ?_
            refine w_icmp (t := 84) rfl (by decide) (fun c8 => ?_) (fun c8 => ?_)
            · have c8 : ¬ (x2 = (2 : Int32)) := c8
              rw [if_neg c8] at hf
              refine w_iload_n rfl rfl ?_
              refine w_iconst (v := (3 : Int32)) rfl (by decide) ?_
              refine w_icmp (t := 98) rfl (by decide) (fun c9 => ?_) (fun c9 => ?_)
              · have c9 : ¬ (x2 = (3 : Int32)) := c9
                rw [if_neg c9] at hf
                refine w_aload_n rfl rfl ?_
                refine m_getR hM rfl rfl rfl (by decide) ?_
                refine w_iload_n rfl rfl ?_
                obtain ⟨hb, hf⟩ := g_guard hf
                refine m_ld hM rfl rfl (by decide) rfl hb ?_
                cases hf
                exact w_ireturn rfl (int_ret _) (Nat.le_refl _) (Nat.le_refl _) (hQ _ hM)
              · have c9 : x2 = (3 : Int32) := Classical.not_not.mp c9
                rw [if_pos c9] at hf
                refine w_aload_n rfl rfl ?_
                refine m_getR hM rfl rfl rfl (by decide) ?_
                refine w_iload_n rfl rfl ?_
                obtain ⟨hb, hf⟩ := g_guard hf
                refine m_ld hM rfl rfl (by decide) rfl hb ?_
                refine w_goto (t := 104) rfl (by decide) ?_
                cases hf
                exact w_ireturn rfl (int_ret _) (Nat.le_refl _) (Nat.le_refl _) (hQ _ hM)
            · have c8 : x2 = (2 : Int32) := Classical.not_not.mp c8
              rw [if_pos c8] at hf
              refine w_aload_n rfl rfl ?_
              refine m_getR hM rfl rfl rfl (by decide) ?_
              refine w_iload_n rfl rfl ?_
              obtain ⟨hb, hf⟩ := g_guard hf
              refine m_ld hM rfl rfl (by decide) rfl hb ?_
              refine w_if (t := 75) rfl (by decide) (fun c9 => ?_) (fun c9 => ?_)
              · have c9 : ¬ (((q4.2).2 11 (ix (x1))) = (0 : Int32)) := c9
                rw [if_neg c9] at hf
                refine w_aload_n rfl rfl ?_
                refine m_getR hM rfl rfl rfl (by decide) ?_
                refine w_iload_n rfl rfl ?_
                obtain ⟨hb, hf⟩ := g_guard hf
                refine m_ld hM rfl rfl (by decide) rfl hb ?_
                refine w_goto (t := 104) rfl (by decide) ?_
                cases hf
                exact w_ireturn rfl (int_ret _) (Nat.le_refl _) (Nat.le_refl _) (hQ _ hM)
              · have c9 : ((q4.2).2 11 (ix (x1))) = (0 : Int32) := Classical.not_not.mp c9
                rw [if_pos c9] at hf
                refine w_bipush (v := (-2 : Int32)) rfl (by decide) ?_
                refine w_goto (t := 104) rfl (by decide) ?_
                cases hf
                exact w_ireturn rfl (int_ret _) (Nat.le_refl _) (Nat.le_refl _) (hQ _ hM)
          · have c7 : x2 = (1 : Int32) := Classical.not_not.mp c7
            rw [if_pos c7] at hf
            refine w_aload_n rfl rfl ?_
            refine m_getR hM rfl rfl rfl (by decide) ?_
            refine w_iload_n rfl rfl ?_
            obtain ⟨hb, hf⟩ := g_guard hf
            refine m_ld hM rfl rfl (by decide) rfl hb ?_
            refine w_goto (t := 104) rfl (by decide) ?_
            cases hf
            exact w_ireturn rfl (int_ret _) (Nat.le_refl _) (Nat.le_refl _) (hQ _ hM)
        · have c6 : x2 = (0 : Int32) := Classical.not_not.mp c6
          rw [if_pos c6] at hf
          refine w_aload_n rfl rfl ?_
          refine m_getR hM rfl rfl rfl (by decide) ?_
          refine w_iload_n rfl rfl ?_
          obtain ⟨hb, hf⟩ := g_guard hf
          refine m_ld hM rfl rfl (by decide) rfl hb ?_
          refine w_goto (t := 104) rfl (by decide) ?_
          cases hf
          exact w_ireturn rfl (int_ret _) (Nat.le_refl _) (Nat.le_refl _) (hQ _ hM)
      · have c5 : q4.1 = (0 : Int32) := Classical.not_not.mp c5
        rw [if_pos c5] at hf
        refine w_iconst (v := (-1 : Int32)) rfl (by decide) ?_
        cases hf
        exact w_ireturn rfl (int_ret _) (Nat.le_refl _) (Nat.le_refl _) (hQ _ hM)
def f_M_pane (n : Nat) (S : MS) (x1 : Int32) (x2 : Int32) : Option (Int32 × MS) := ((f_M_isPane n (S) (x1)).bind (fun q1 => (if q1.1 = (0 : Int32) then some ((-1 : Int32), q1.2) else ((f_M_in n (q1.2) (x2) ((0 : Int32)) ((9 : Int32))).bind (fun q3 => (if q3.1 = (0 : Int32) then some ((-1 : Int32), q3.2) else (if x2 = (0 : Int32) then (bif inB (x1) 61 then some ((q3.2).2 5 (ix (x1)), q3.2) else none) else (if x2 = (1 : Int32) then (bif inB (x1) 61 then some ((q3.2).2 14 (ix (x1)), q3.2) else none) else (if x2 = (2 : Int32) then (bif inB (x1) 61 then some ((q3.2).2 15 (ix (x1)), q3.2) else none) else (if x2 = (3 : Int32) then (bif inB (x1) 61 then some ((q3.2).2 12 (ix (x1)), q3.2) else none) else (if x2 = (4 : Int32) then (bif inB (x1) 61 then some ((q3.2).2 13 (ix (x1)), q3.2) else none) else (if x2 = (5 : Int32) then (bif inB (x1) 61 then some ((q3.2).2 6 (ix (x1)), q3.2) else none) else (if x2 = (6 : Int32) then (bif inB (x1) 61 then some ((q3.2).2 16 (ix (x1)), q3.2) else none) else (if x2 = (7 : Int32) then (bif inB (x1) 61 then some ((q3.2).2 17 (ix (x1)), q3.2) else none) else (if x2 = (8 : Int32) then (bif inB (x1) 61 then some ((q3.2).2 18 (ix (x1)), q3.2) else none) else (bif inB (x1) 61 then (if ((q3.2).2 19 (ix (x1))) = (0 : Int32) then some ((1 : Int32), q3.2) else some ((0 : Int32), q3.2)) else none))))))))))))))))
set_option maxHeartbeats 4000000 in
set_option maxRecDepth 100000 in
theorem t_M_pane {d m n : Nat} {ad : Nat → Nat} {h0 h : gHp} {Q : Option gv → gHp → Prop} {S : MS} {x1 : Int32} {x2 : Int32} {res : Int32 × MS} (hf : f_M_pane n S x1 x2 = some res) (hM : MR h0 h m ad S) (hQ : ∀ h', MR h0 h' m ad res.2 → Q (some (.inl res.1)) h') : gCall (d + 3) m_M_pane [.inr (some m), .inl x1, .inl x2] h Q := by
  unfold f_M_pane at hf
  refine g_enter (d := d + 2) (Nat.le_of_ble_eq_true rfl) ?_
  show gWP (gCall (d + 2)) m_M_pane Q 0 [some (.inr (some m)), some (.inl x1), some (.inl x2)] [] h 0 0
  refine w_aload_n rfl rfl ?_
  refine w_iload_n rfl rfl ?_
  obtain ⟨q1, hc, hf⟩ := g_bind hf
  refine w_virtual [_] _ rfl rfl rfl rfl (Nat.le_of_ble_eq_true rfl) hM.1 rfl (Nat.le_of_ble_eq_true rfl) (Nat.le_of_ble_eq_true rfl) (t_M_isPane (d := d + 0) hc hM (fun h hM => ?_))
  refine w_if (t := 18) rfl (by decide) (fun c2 => ?_) (fun c2 => ?_)
  · have c2 : q1.1 = (0 : Int32) := c2
    rw [if_pos c2] at hf
    refine w_iconst (v := (-1 : Int32)) rfl (by decide) ?_
    cases hf
    exact w_ireturn rfl (int_ret _) (Nat.le_refl _) (Nat.le_refl _) (hQ _ hM)
  · have c2 : ¬ (q1.1 = (0 : Int32)) := c2
    rw [if_neg c2] at hf
    refine w_iload_n rfl rfl ?_
    refine w_iconst (v := (0 : Int32)) rfl (by decide) ?_
    refine w_bipush (v := (9 : Int32)) rfl (by decide) ?_
    obtain ⟨q3, hc, hf⟩ := g_bind hf
    refine w_static [_, _, _] _ rfl rfl rfl rfl (Nat.le_of_ble_eq_true rfl) (Nat.le_of_ble_eq_true rfl) (Nat.le_of_ble_eq_true rfl) (t_M_in (d := d + 1) hc hM (fun h hM => ?_))
    refine w_if (t := 20) rfl (by decide) (fun c4 => ?_) (fun c4 => ?_)
    · have c4 : ¬ (q3.1 = (0 : Int32)) := c4
      rw [if_neg c4] at hf
      refine w_iload_n rfl rfl ?_
      by_cases c5 : x2 = (0 : Int32)
      · rw [if_pos c5] at hf
        refine w_tswIn (t := 72) c5 rfl (by decide) (by decide) rfl (by decide) ?_
        refine w_aload_n rfl rfl ?_
        refine m_getR hM rfl rfl rfl (by decide) ?_
        refine w_iload_n rfl rfl ?_
        obtain ⟨hb, hf⟩ := g_guard hf
        refine m_ld hM rfl rfl (by decide) rfl hb ?_
        cases hf
        exact w_ireturn rfl (int_ret _) (Nat.le_refl _) (Nat.le_refl _) (hQ _ hM)
      rw [if_neg c5] at hf
      by_cases c6 : x2 = (1 : Int32)
      · rw [if_pos c6] at hf
        refine w_tswIn (t := 79) c6 rfl (by decide) (by decide) rfl (by decide) ?_
        refine w_aload_n rfl rfl ?_
        refine m_getR hM rfl rfl rfl (by decide) ?_
        refine w_iload_n rfl rfl ?_
        obtain ⟨hb, hf⟩ := g_guard hf
        refine m_ld hM rfl rfl (by decide) rfl hb ?_
        cases hf
        exact w_ireturn rfl (int_ret _) (Nat.le_refl _) (Nat.le_refl _) (hQ _ hM)
      rw [if_neg c6] at hf
      by_cases c7 : x2 = (2 : Int32)
      · rw [if_pos c7] at hf
        refine w_tswIn (t := 86) c7 rfl (by decide) (by decide) rfl (by decide) ?_
        refine w_aload_n rfl rfl ?_
        refine m_getR hM rfl rfl rfl (by decide) ?_
        refine w_iload_n rfl rfl ?_
        obtain ⟨hb, hf⟩ := g_guard hf
        refine m_ld hM rfl rfl (by decide) rfl hb ?_
        cases hf
        exact w_ireturn rfl (int_ret _) (Nat.le_refl _) (Nat.le_refl _) (hQ _ hM)
      rw [if_neg c7] at hf
      by_cases c8 : x2 = (3 : Int32)
      · rw [if_pos c8] at hf
        refine w_tswIn (t := 93) c8 rfl (by decide) (by decide) rfl (by decide) ?_
        refine w_aload_n rfl rfl ?_
        refine m_getR hM rfl rfl rfl (by decide) ?_
        refine w_iload_n rfl rfl ?_
        obtain ⟨hb, hf⟩ := g_guard hf
        refine m_ld hM rfl rfl (by decide) rfl hb ?_
        cases hf
        exact w_ireturn rfl (int_ret _) (Nat.le_refl _) (Nat.le_refl _) (hQ _ hM)
      rw [if_neg c8] at hf
      by_cases c9 : x2 = (4 : Int32)
      · rw [if_pos c9] at hf
        refine w_tswIn (t := 100) c9 rfl (by decide) (by decide) rfl (by decide) ?_
        refine w_aload_n rfl rfl ?_
        refine m_getR hM rfl rfl rfl (by decide) ?_
        refine w_iload_n rfl rfl ?_
        obtain ⟨hb, hf⟩ := g_guard hf
        refine m_ld hM rfl rfl (by decide) rfl hb ?_
        cases hf
        exact w_ireturn rfl (int_ret _) (Nat.le_refl _) (Nat.le_refl _) (hQ _ hM)
      rw [if_neg c9] at hf
      by_cases c10 : x2 = (5 : Int32)
      · rw [if_pos c10] at hf
        refine w_tswIn (t := 107) c10 rfl (by decide) (by decide) rfl (by decide) ?_
        refine w_aload_n rfl rfl ?_
        refine m_getR hM rfl rfl rfl (by decide) ?_
        refine w_iload_n rfl rfl ?_
        obtain ⟨hb, hf⟩ := g_guard hf
        refine m_ld hM rfl rfl (by decide) rfl hb ?_
        cases hf
        exact w_ireturn rfl (int_ret _) (Nat.le_refl _) (Nat.le_refl _) (hQ _ hM)
      rw [if_neg c10] at hf
      by_cases c11 : x2 = (6 : Int32)
      · rw [if_pos c11] at hf
        refine w_tswIn (t := 114) c11 rfl (by decide) (by decide) rfl (by decide) ?_
        refine w_aload_n rfl rfl ?_
        refine m_getR hM rfl rfl rfl (by decide) ?_
        refine w_iload_n rfl rfl ?_
        obtain ⟨hb, hf⟩ := g_guard hf
        refine m_ld hM rfl rfl (by decide) rfl hb ?_
        cases hf
        exact w_ireturn rfl (int_ret _) (Nat.le_refl _) (Nat.le_refl _) (hQ _ hM)
      rw [if_neg c11] at hf
      by_cases c12 : x2 = (7 : Int32)
      · rw [if_pos c12] at hf
        refine w_tswIn (t := 121) c12 rfl (by decide) (by decide) rfl (by decide) ?_
        refine w_aload_n rfl rfl ?_
        refine m_getR hM rfl rfl rfl (by decide) ?_
        refine w_iload_n rfl rfl ?_
        obtain ⟨hb, hf⟩ := g_guard hf
        refine m_ld hM rfl rfl (by decide) rfl hb ?_
        cases hf
        exact w_ireturn rfl (int_ret _) (Nat.le_refl _) (Nat.le_refl _) (hQ _ hM)
      rw [if_neg c12] at hf
      by_cases c13 : x2 = (8 : Int32)
      · rw [if_pos c13] at hf
        refine w_tswIn (t := 128) c13 rfl (by decide) (by decide) rfl (by decide) ?_
        refine w_aload_n rfl rfl ?_
        refine m_getR hM rfl rfl rfl (by decide) ?_
        refine w_iload_n rfl rfl ?_
        obtain ⟨hb, hf⟩ := g_guard hf
        refine m_ld hM rfl rfl (by decide) rfl hb ?_
        cases hf
        exact w_ireturn rfl (int_ret _) (Nat.le_refl _) (Nat.le_refl _) (hQ _ hM)
      rw [if_neg c13] at hf
      refine w_tswOut (t := 135) rfl (g_out9 c5 c6 c7 c8 c9 c10 c11 c12 c13) (by decide) ?_
      refine w_aload_n rfl rfl ?_
      refine m_getR hM rfl rfl rfl (by decide) ?_
      refine w_iload_n rfl rfl ?_
      obtain ⟨hb, hf⟩ := g_guard hf
      refine m_zld hM rfl rfl (by decide) rfl hb ?_
      refine w_if (t := 148) rfl (by decide) (fun c14 => ?_) (fun c14 => ?_)
      · have c14 : ((q3.2).2 19 (ix (x1))) = (0 : Int32) := c14
        rw [if_pos c14] at hf
        refine w_iconst (v := (1 : Int32)) rfl (by decide) ?_
        cases hf
        exact w_ireturn rfl (int_ret _) (Nat.le_refl _) (Nat.le_refl _) (hQ _ hM)
      · have c14 : ¬ (((q3.2).2 19 (ix (x1))) = (0 : Int32)) := c14
        rw [if_neg c14] at hf
        refine w_iconst (v := (0 : Int32)) rfl (by decide) ?_
        refine w_goto (t := 149) rfl (by decide) ?_
        cases hf
        exact w_ireturn rfl (int_ret _) (Nat.le_refl _) (Nat.le_refl _) (hQ _ hM)
    · have c4 : q3.1 = (0 : Int32) := Classical.not_not.mp c4
      rw [if_pos c4] at hf
      refine w_iconst (v := (-1 : Int32)) rfl (by decide) ?_
      cases hf
      exact w_ireturn rfl (int_ret _) (Nat.le_refl _) (Nat.le_refl _) (hQ _ hM)
