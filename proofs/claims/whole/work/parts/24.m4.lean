def f_M_under (n : Nat) (S : MS) (x1 : Int32) (x2 : Int32) : Option (Int32 × MS) := ((f_M_isScreen n (S) (x1) (x2)).bind (fun q1 => (if q1.1 = (0 : Int32) then some ((-1 : Int32), q1.2) else ((f_M_paneAt n (q1.2) (x1) (x2)).bind (fun q3 => some (q3.1, q3.2))))))
set_option maxHeartbeats 4000000 in
set_option maxRecDepth 100000 in
theorem t_M_under {d m n : Nat} {ad : Nat → Nat} {h0 h : gHp} {Q : Option gv → gHp → Prop} {S : MS} {x1 : Int32} {x2 : Int32} {res : Int32 × MS} (hf : f_M_under n S x1 x2 = some res) (hM : MR h0 h m ad S) (hQ : ∀ h', MR h0 h' m ad res.2 → Q (some (.inl res.1)) h') : gCall (d + 4) m_M_under [.inr (some m), .inl x1, .inl x2] h Q := by
  unfold f_M_under at hf
  refine g_enter (d := d + 3) (Nat.le_of_ble_eq_true rfl) ?_
  show gWP (gCall (d + 3)) m_M_under Q 0 [some (.inr (some m)), some (.inl x1), some (.inl x2)] [] h 0 0
  refine w_aload_n rfl rfl ?_
  refine w_iload_n rfl rfl ?_
  refine w_iload_n rfl rfl ?_
  obtain ⟨q1, hc, hf⟩ := g_bind hf
  refine w_virtual [_, _] _ rfl rfl rfl rfl (Nat.le_of_ble_eq_true rfl) hM.1 rfl (Nat.le_of_ble_eq_true rfl) (Nat.le_of_ble_eq_true rfl) (t_M_isScreen (d := d + 1) hc hM (fun h hM => ?_))
  refine w_if (t := 18) rfl (by decide) (fun c2 => ?_) (fun c2 => ?_)
  · have c2 : q1.1 = (0 : Int32) := c2
    rw [if_pos c2] at hf
    refine w_iconst (v := (-1 : Int32)) rfl (by decide) ?_
    cases hf
    exact w_ireturn rfl (int_ret _) (Nat.le_refl _) (Nat.le_refl _) (hQ _ hM)
  · have c2 : ¬ (q1.1 = (0 : Int32)) := c2
    rw [if_neg c2] at hf
    refine w_aload_n rfl rfl ?_
    refine w_iload_n rfl rfl ?_
    refine w_iload_n rfl rfl ?_
    obtain ⟨q3, hc, hf⟩ := g_bind hf
    refine w_virtual [_, _] _ rfl rfl rfl rfl (Nat.le_of_ble_eq_true rfl) hM.1 rfl (Nat.le_of_ble_eq_true rfl) (Nat.le_of_ble_eq_true rfl) (t_M_paneAt (d := d + 0) hc hM (fun h hM => ?_))
    refine w_goto (t := 19) rfl (by decide) ?_
    cases hf
    exact w_ireturn rfl (int_ret _) (Nat.le_refl _) (Nat.le_refl _) (hQ _ hM)
def f_M_lines (n : Nat) (S : MS) (x1 : Int32) : Option (Int32 × MS) := ((f_M_isPane n (S) (x1)).bind (fun q1 => (if q1.1 = (0 : Int32) then some ((-1 : Int32), q1.2) else (bif inB (x1) 61 then (if ((q1.2).2 5 (ix (x1))) = (1 : Int32) then ((f_M_findLines n (q1.2) (x1)).bind (fun q4 => some ((q4).1 38, q4))) else some ((-3 : Int32), q1.2)) else none))))
set_option maxHeartbeats 4000000 in
set_option maxRecDepth 100000 in
theorem t_M_lines {d m n : Nat} {ad : Nat → Nat} {h0 h : gHp} {Q : Option gv → gHp → Prop} {S : MS} {x1 : Int32} {res : Int32 × MS} (hf : f_M_lines n S x1 = some res) (hM : MR h0 h m ad S) (hQ : ∀ h', MR h0 h' m ad res.2 → Q (some (.inl res.1)) h') : gCall (d + 4) m_M_lines [.inr (some m), .inl x1] h Q := by
  unfold f_M_lines at hf
  refine g_enter (d := d + 3) (Nat.le_of_ble_eq_true rfl) ?_
  show gWP (gCall (d + 3)) m_M_lines Q 0 [some (.inr (some m)), some (.inl x1)] [] h 0 0
  refine w_aload_n rfl rfl ?_
  refine w_iload_n rfl rfl ?_
  obtain ⟨q1, hc, hf⟩ := g_bind hf
  refine w_virtual [_] _ rfl rfl rfl rfl (Nat.le_of_ble_eq_true rfl) hM.1 rfl (Nat.le_of_ble_eq_true rfl) (Nat.le_of_ble_eq_true rfl) (t_M_isPane (d := d + 1) hc hM (fun h hM => ?_))
  refine w_if (t := 10) rfl (by decide) (fun c2 => ?_) (fun c2 => ?_)
  · have c2 : ¬ (q1.1 = (0 : Int32)) := c2
    rw [if_neg c2] at hf
    refine w_aload_n rfl rfl ?_
    refine m_getR hM rfl rfl rfl (by decide) ?_
    refine w_iload_n rfl rfl ?_
    obtain ⟨hb, hf⟩ := g_guard hf
    refine m_ld hM rfl rfl (by decide) rfl hb ?_
    refine w_iconst (v := (1 : Int32)) rfl (by decide) ?_
    refine w_icmp (t := 23) rfl (by decide) (fun c3 => ?_) (fun c3 => ?_)
    · have c3 : ((q1.2).2 5 (ix (x1))) = (1 : Int32) := c3
      rw [if_pos c3] at hf
      refine w_aload_n rfl rfl ?_
      refine w_iload_n rfl rfl ?_
      obtain ⟨q4, hc, hf⟩ := g_bind hf
      refine w_virtual [_] _ rfl rfl rfl rfl (Nat.le_of_ble_eq_true rfl) hM.1 rfl (Nat.le_of_ble_eq_true rfl) (Nat.le_of_ble_eq_true rfl) (t_M_findLines (d := d + 0) hc hM (fun h hM => ?_))
      refine w_aload_n rfl rfl ?_
      refine m_getI hM rfl rfl rfl ?_
      cases hf
      exact w_ireturn rfl (int_ret _) (Nat.le_refl _) (Nat.le_refl _) (hQ _ hM)
    · have c3 : ¬ (((q1.2).2 5 (ix (x1))) = (1 : Int32)) := c3
      rw [if_neg c3] at hf
      refine w_bipush (v := (-3 : Int32)) rfl (by decide) ?_
      cases hf
      exact w_ireturn rfl (int_ret _) (Nat.le_refl _) (Nat.le_refl _) (hQ _ hM)
  · have c2 : q1.1 = (0 : Int32) := Classical.not_not.mp c2
    rw [if_pos c2] at hf
    refine w_iconst (v := (-1 : Int32)) rfl (by decide) ?_
    cases hf
    exact w_ireturn rfl (int_ret _) (Nat.le_refl _) (Nat.le_refl _) (hQ _ hM)
def f_M_standing_B35 (n : Nat) (S : MS) (x2 : Int32) (s0 : Int32) : Option (Int32 × MS) := (if ((S).1 38) ≤ s0 then some ((-2 : Int32), S) else (bif inB (s0) 900 then (if ((S).2 40 (ix (s0))) ≤ x2 then some ((-2 : Int32), S) else (bif inB (s0) 900 then some (((S).2 39 (ix (s0))) + x2, S) else none)) else none))
set_option maxHeartbeats 4000000 in
set_option maxRecDepth 100000 in
theorem t_M_standing_B35 {d m : Nat} {ad : Nat → Nat} {h0 : gHp} {Q : Option gv → gHp → Prop} {res : Int32 × MS} (hQ : ∀ h', MR h0 h' m ad res.2 → Q (some (.inl res.1)) h') (n : Nat) (S : MS) (x2 : Int32) (s0 : Int32) (u1 : Option gv) (u3 : Option gv) (u4 : Option gv) (h : gHp) (hf : f_M_standing_B35 n S x2 s0 = some res) (hM : MR h0 h m ad S) : gWP (gCall (d + 3)) m_M_standing Q 35 [some (.inr (some m)), u1, some (.inl x2), u3, u4] [.inl s0] h 0 0 := by
  unfold f_M_standing_B35 at hf
  refine w_istore rfl (Nat.le_of_ble_eq_true rfl) rfl ?_
  refine w_iload rfl rfl ?_
  refine w_aload_n rfl rfl ?_
  refine m_getI hM rfl rfl rfl ?_
  refine w_icmp (t := 69) rfl (by decide) (fun c1 => ?_) (fun c1 => ?_)
  · have c1 : ((S).1 38) ≤ s0 := c1
    rw [if_pos c1] at hf
    refine w_bipush (v := (-2 : Int32)) rfl (by decide) ?_
    cases hf
    exact w_ireturn rfl (int_ret _) (Nat.le_refl _) (Nat.le_refl _) (hQ _ hM)
  · have c1 : ¬ (((S).1 38) ≤ s0) := c1
    rw [if_neg c1] at hf
    refine w_iload_n rfl rfl ?_
    refine w_aload_n rfl rfl ?_
    refine m_getR hM rfl rfl rfl (by decide) ?_
    refine w_iload rfl rfl ?_
    obtain ⟨hb, hf⟩ := g_guard hf
    refine m_ld hM rfl rfl (by decide) rfl hb ?_
    refine w_icmp (t := 69) rfl (by decide) (fun c2 => ?_) (fun c2 => ?_)
    · have c2 : ((S).2 40 (ix (s0))) ≤ x2 := c2
      rw [if_pos c2] at hf
      refine w_bipush (v := (-2 : Int32)) rfl (by decide) ?_
      cases hf
      exact w_ireturn rfl (int_ret _) (Nat.le_refl _) (Nat.le_refl _) (hQ _ hM)
    · have c2 : ¬ (((S).2 40 (ix (s0))) ≤ x2) := c2
      rw [if_neg c2] at hf
      refine w_aload_n rfl rfl ?_
      refine m_getR hM rfl rfl rfl (by decide) ?_
      refine w_iload rfl rfl ?_
      obtain ⟨hb, hf⟩ := g_guard hf
      refine m_ld hM rfl rfl (by decide) rfl hb ?_
      refine w_iload_n rfl rfl ?_
      refine w_iadd rfl ?_
      refine w_goto (t := 71) rfl (by decide) ?_
      cases hf
      exact w_ireturn rfl (int_ret _) (Nat.le_refl _) (Nat.le_refl _) (hQ _ hM)
def f_M_standing (n : Nat) (S : MS) (x1 : Int32) (x2 : Int32) (x3 : Int32) : Option (Int32 × MS) := ((f_M_findLines n (S) (x1)).bind (fun q1 => (bif inB (x1) 61 then (if ((q1).1 38) ≤ ((q1).2 15 (ix (x1))) then f_M_standing_B35  n (q1) (x2) (x3) else (bif inB (x1) 61 then f_M_standing_B35  n (q1) (x2) ((((q1).1 38) - ((q1).2 15 (ix (x1)))) + x3) else none)) else none)))
set_option maxHeartbeats 4000000 in
set_option maxRecDepth 100000 in
theorem t_M_standing {d m n : Nat} {ad : Nat → Nat} {h0 h : gHp} {Q : Option gv → gHp → Prop} {S : MS} {x1 : Int32} {x2 : Int32} {x3 : Int32} {res : Int32 × MS} (hf : f_M_standing n S x1 x2 x3 = some res) (hM : MR h0 h m ad S) (hQ : ∀ h', MR h0 h' m ad res.2 → Q (some (.inl res.1)) h') : gCall (d + 4) m_M_standing [.inr (some m), .inl x1, .inl x2, .inl x3] h Q := by
  unfold f_M_standing at hf
  refine g_enter (d := d + 3) (Nat.le_of_ble_eq_true rfl) ?_
  show gWP (gCall (d + 3)) m_M_standing Q 0 [some (.inr (some m)), some (.inl x1), some (.inl x2), some (.inl x3), none] [] h 0 0
  refine w_aload_n rfl rfl ?_
  refine w_iload_n rfl rfl ?_
  obtain ⟨q1, hc, hf⟩ := g_bind hf
  refine w_virtual [_] _ rfl rfl rfl rfl (Nat.le_of_ble_eq_true rfl) hM.1 rfl (Nat.le_of_ble_eq_true rfl) (Nat.le_of_ble_eq_true rfl) (t_M_findLines (d := d + 0) hc hM (fun h hM => ?_))
  refine w_aload_n rfl rfl ?_
  refine m_getI hM rfl rfl rfl ?_
  refine w_aload_n rfl rfl ?_
  refine m_getR hM rfl rfl rfl (by decide) ?_
  refine w_iload_n rfl rfl ?_
  obtain ⟨hb, hf⟩ := g_guard hf
  refine m_ld hM rfl rfl (by decide) rfl hb ?_
  refine w_icmp (t := 34) rfl (by decide) (fun c2 => ?_) (fun c2 => ?_)
  · have c2 : ((q1).1 38) ≤ ((q1).2 15 (ix (x1))) := c2
    rw [if_pos c2] at hf
    refine w_iload_n rfl rfl ?_
    exact t_M_standing_B35  hQ _ _ (x2) (x3) _ _ _ _ hf hM
  · have c2 : ¬ (((q1).1 38) ≤ ((q1).2 15 (ix (x1)))) := c2
    rw [if_neg c2] at hf
    refine w_aload_n rfl rfl ?_
    refine m_getI hM rfl rfl rfl ?_
    refine w_aload_n rfl rfl ?_
    refine m_getR hM rfl rfl rfl (by decide) ?_
    refine w_iload_n rfl rfl ?_
    obtain ⟨hb, hf⟩ := g_guard hf
    refine m_ld hM rfl rfl (by decide) rfl hb ?_
    refine w_isub rfl ?_
    refine w_iload_n rfl rfl ?_
    refine w_iadd rfl ?_
    refine w_goto (t := 35) rfl (by decide) ?_
    exact t_M_standing_B35  hQ _ _ (x2) ((((q1).1 38) - ((q1).2 15 (ix (x1)))) + x3) _ _ _ _ hf hM
def f_M_cancel (n : Nat) (S : MS) (x1 : Int32) (x2 : Int32) : Option (Int32 × MS) := ((f_M_isPane n (S) (x1)).bind (fun q1 => (if q1.1 = (0 : Int32) then some ((-1 : Int32), q1.2) else ((f_M_in n (q1.2) (x2) ((0 : Int32)) ((3 : Int32))).bind (fun q3 => (if q3.1 = (0 : Int32) then some ((-1 : Int32), q3.2) else (bif inB (((4 : Int32) * x1) + x2) 244 then (if ((q3.2).2 21 (ix (((4 : Int32) * x1) + x2))) = (0 : Int32) then some ((-2 : Int32), q3.2) else (bif inB (((4 : Int32) * x1) + x2) 244 then (bif isZ ((0 : Int32)) then (if x2 = (1 : Int32) then ((f_M_echoLine n ((q3.2).a 21 (ix (((4 : Int32) * x1) + x2)) ((0 : Int32))) (x1)).bind (fun q7 => (bif inB (x1) 61 then some ((q7).2 23 (ix (x1)), q7) else none))) else some ((1 : Int32), (q3.2).a 21 (ix (((4 : Int32) * x1) + x2)) ((0 : Int32)))) else none) else none)) else none)))))))
set_option maxHeartbeats 4000000 in
set_option maxRecDepth 100000 in
theorem t_M_cancel {d m n : Nat} {ad : Nat → Nat} {h0 h : gHp} {Q : Option gv → gHp → Prop} {S : MS} {x1 : Int32} {x2 : Int32} {res : Int32 × MS} (hf : f_M_cancel n S x1 x2 = some res) (hM : MR h0 h m ad S) (hQ : ∀ h', MR h0 h' m ad res.2 → Q (some (.inl res.1)) h') : gCall (d + 4) m_M_cancel [.inr (some m), .inl x1, .inl x2] h Q := by
  unfold f_M_cancel at hf
  refine g_enter (d := d + 3) (Nat.le_of_ble_eq_true rfl) ?_
  show gWP (gCall (d + 3)) m_M_cancel Q 0 [some (.inr (some m)), some (.inl x1), some (.inl x2)] [] h 0 0
  refine w_aload_n rfl rfl ?_
  refine w_iload_n rfl rfl ?_
  obtain ⟨q1, hc, hf⟩ := g_bind hf
  refine w_virtual [_] _ rfl rfl rfl rfl (Nat.le_of_ble_eq_true rfl) hM.1 rfl (Nat.le_of_ble_eq_true rfl) (Nat.le_of_ble_eq_true rfl) (t_M_isPane (d := d + 1) hc hM (fun h hM => ?_))
  refine w_if (t := 17) rfl (by decide) (fun c2 => ?_) (fun c2 => ?_)
  · have c2 : q1.1 = (0 : Int32) := c2
    rw [if_pos c2] at hf
    refine w_iconst (v := (-1 : Int32)) rfl (by decide) ?_
    cases hf
    exact w_ireturn rfl (int_ret _) (Nat.le_refl _) (Nat.le_refl _) (hQ _ hM)
  · have c2 : ¬ (q1.1 = (0 : Int32)) := c2
    rw [if_neg c2] at hf
    refine w_iload_n rfl rfl ?_
    refine w_iconst (v := (0 : Int32)) rfl (by decide) ?_
    refine w_iconst (v := (3 : Int32)) rfl (by decide) ?_
    obtain ⟨q3, hc, hf⟩ := g_bind hf
    refine w_static [_, _, _] _ rfl rfl rfl rfl (Nat.le_of_ble_eq_true rfl) (Nat.le_of_ble_eq_true rfl) (Nat.le_of_ble_eq_true rfl) (t_M_in (d := d + 2) hc hM (fun h hM => ?_))
    refine w_if (t := 19) rfl (by decide) (fun c4 => ?_) (fun c4 => ?_)
    · have c4 : ¬ (q3.1 = (0 : Int32)) := c4
      rw [if_neg c4] at hf
      refine w_aload_n rfl rfl ?_
      refine m_getR hM rfl rfl rfl (by decide) ?_
      refine w_iconst (v := (4 : Int32)) rfl (by decide) ?_
      refine w_iload_n rfl rfl ?_
      refine w_imul rfl ?_
      refine w_iload_n rfl rfl ?_
      refine w_iadd rfl ?_
      obtain ⟨hb, hf⟩ := g_guard hf
      refine m_zld hM rfl rfl (by decide) rfl hb ?_
      refine w_if (t := 35) rfl (by decide) (fun c5 => ?_) (fun c5 => ?_)
      · have c5 : ¬ (((q3.2).2 21 (ix (((4 : Int32) * x1) + x2))) = (0 : Int32)) := c5
        rw [if_neg c5] at hf
        refine w_aload_n rfl rfl ?_
        refine m_getR hM rfl rfl rfl (by decide) ?_
        refine w_iconst (v := (4 : Int32)) rfl (by decide) ?_
        refine w_iload_n rfl rfl ?_
        refine w_imul rfl ?_
        refine w_iload_n rfl rfl ?_
        refine w_iadd rfl ?_
        refine w_iconst (v := (0 : Int32)) rfl (by decide) ?_
        obtain ⟨hb, hf⟩ := g_guard hf
        obtain ⟨hz, hf⟩ := g_guard hf
        refine m_zst hM rfl rfl (by decide) rfl hb hz (fun h hM => ?_)
        refine w_iload_n rfl rfl ?_
        refine w_iconst (v := (1 : Int32)) rfl (by decide) ?_
        refine w_icmp (t := 63) rfl (by decide) (fun c6 => ?_) (fun c6 => ?_)
        · have c6 : ¬ (x2 = (1 : Int32)) := c6
          rw [if_neg c6] at hf
          refine w_iconst (v := (1 : Int32)) rfl (by decide) ?_
          cases hf
          exact w_ireturn rfl (int_ret _) (Nat.le_refl _) (Nat.le_refl _) (hQ _ hM)
        · have c6 : x2 = (1 : Int32) := Classical.not_not.mp c6
          rw [if_pos c6] at hf
          refine w_aload_n rfl rfl ?_
          refine w_iload_n rfl rfl ?_
          obtain ⟨q7, hc, hf⟩ := g_bind hf
          refine w_virtual [_] _ rfl rfl rfl rfl (Nat.le_of_ble_eq_true rfl) hM.1 rfl (Nat.le_of_ble_eq_true rfl) (Nat.le_of_ble_eq_true rfl) (t_M_echoLine (d := d + 0) hc hM (fun h hM => ?_))
          refine w_aload_n rfl rfl ?_
          refine m_getR hM rfl rfl rfl (by decide) ?_
          refine w_iload_n rfl rfl ?_
          obtain ⟨hb, hf⟩ := g_guard hf
          refine m_ld hM rfl rfl (by decide) rfl hb ?_
          cases hf
          exact w_ireturn rfl (int_ret _) (Nat.le_refl _) (Nat.le_refl _) (hQ _ hM)
      · have c5 : ((q3.2).2 21 (ix (((4 : Int32) * x1) + x2))) = (0 : Int32) := Classical.not_not.mp c5
        rw [if_pos c5] at hf
        refine w_bipush (v := (-2 : Int32)) rfl (by decide) ?_
        cases hf
        exact w_ireturn rfl (int_ret _) (Nat.le_refl _) (Nat.le_refl _) (hQ _ hM)
    · have c4 : q3.1 = (0 : Int32) := Classical.not_not.mp c4
      rw [if_pos c4] at hf
      refine w_iconst (v := (-1 : Int32)) rfl (by decide) ?_
      cases hf
      exact w_ireturn rfl (int_ret _) (Nat.le_refl _) (Nat.le_refl _) (hQ _ hM)
def f_M_close_B118 : Nat → MS → Int32 → Int32 → Option (Int32 × MS)
  | 0, _, _, _ => none
  | n + 1, S, x1, x3 => (if ((S).1 2) < x3 then ((f_M_arrangeAll n (S) ).bind (fun q2 => (bif inB (x1) 61 then some ((q2).2 18 (ix (x1)), q2) else none))) else (bif inB (x3) 61 then (if ((S).2 5 (ix (x3))) = (4 : Int32) then (bif inB (x3) 61 then (bif inB ((S).2 11 (ix (x3))) 61 then (if ((S).2 4 (ix ((S).2 11 (ix (x3))))) = (0 : Int32) then (bif inB (x3) 61 then f_M_close_B118 n ((S).a 11 (ix (x3)) ((0 : Int32))) (x1) (x3 + (1 : Int32)) else none) else f_M_close_B118 n (S) (x1) (x3 + (1 : Int32))) else none) else none) else f_M_close_B118 n (S) (x1) (x3 + (1 : Int32))) else none))
set_option maxHeartbeats 4000000 in
set_option maxRecDepth 100000 in
theorem t_M_close_B118 {d m : Nat} {ad : Nat → Nat} {h0 : gHp} {Q : Option gv → gHp → Prop} {res : Int32 × MS} (hQ : ∀ h', MR h0 h' m ad res.2 → Q (some (.inl res.1)) h') : ∀ (n : Nat) (S : MS) (x1 : Int32) (x3 : Int32) (u2 : Option gv) (h : gHp), f_M_close_B118 n S x1 x3  = some res → MR h0 h m ad S → gWP (gCall (d + 3)) m_M_close Q 118 [some (.inr (some m)), some (.inl x1), u2, some (.inl x3)] [] h 0 0 := by
  intro n
  induction n with
  | zero =>
    intro S x1 x3  u2 h hf
    cases hf
  | succ n ih =>
    intro S x1 x3  u2 h hf hM
    unfold f_M_close_B118 at hf
    refine w_iload_n rfl rfl ?_
    refine w_aload_n rfl rfl ?_
    refine m_getI hM rfl rfl rfl ?_
    refine w_icmp (t := 163) rfl (by decide) (fun c1 => ?_) (fun c1 => ?_)
    · have c1 : ((S).1 2) < x3 := c1
      rw [if_pos c1] at hf
      refine w_aload_n rfl rfl ?_
      obtain ⟨q2, hc, hf⟩ := g_bind hf
      refine w_virtual [] _ rfl rfl rfl rfl (Nat.le_of_ble_eq_true rfl) hM.1 rfl (Nat.le_of_ble_eq_true rfl) (Nat.le_of_ble_eq_true rfl) (t_M_arrangeAll (d := d + 0) hc hM (fun h hM => ?_))
      refine w_aload_n rfl rfl ?_
      refine m_getR hM rfl rfl rfl (by decide) ?_
      refine w_iload_n rfl rfl ?_
      obtain ⟨hb, hf⟩ := g_guard hf
      refine m_ld hM rfl rfl (by decide) rfl hb ?_
      cases hf
      exact w_ireturn rfl (int_ret _) (Nat.le_refl _) (Nat.le_refl _) (hQ _ hM)
    · have c1 : ¬ (((S).1 2) < x3) := c1
      rw [if_neg c1] at hf
      refine w_aload_n rfl rfl ?_
      refine m_getR hM rfl rfl rfl (by decide) ?_
      refine w_iload_n rfl rfl ?_
      obtain ⟨hb, hf⟩ := g_guard hf
      refine m_ld hM rfl rfl (by decide) rfl hb ?_
      refine w_iconst (v := (4 : Int32)) rfl (by decide) ?_
      refine w_icmp (t := 157) rfl (by decide) (fun c2 => ?_) (fun c2 => ?_)
      · have c2 : ¬ (((S).2 5 (ix (x3))) = (4 : Int32)) := c2
        rw [if_neg c2] at hf
        refine w_iinc (v := (1 : Int32)) rfl rfl (by decide) rfl ?_
        refine w_goto (t := 118) rfl (by decide) ?_
        exact ih _ (x1) (x3 + (1 : Int32)) _ _ hf hM
      · have c2 : ((S).2 5 (ix (x3))) = (4 : Int32) := Classical.not_not.mp c2
        rw [if_pos c2] at hf
        refine w_aload_n rfl rfl ?_
        refine m_getR hM rfl rfl rfl (by decide) ?_
        refine w_aload_n rfl rfl ?_
        refine m_getR hM rfl rfl rfl (by decide) ?_
        refine w_iload_n rfl rfl ?_
        obtain ⟨hb, hf⟩ := g_guard hf
        refine m_ld hM rfl rfl (by decide) rfl hb ?_
        obtain ⟨hb, hf⟩ := g_guard hf
        refine m_zld hM rfl rfl (by decide) rfl hb ?_
        refine w_if (t := 157) rfl (by decide) (fun c3 => ?_) (fun c3 => ?_)
        · have c3 : ¬ (((S).2 4 (ix ((S).2 11 (ix (x3))))) = (0 : Int32)) := c3
          rw [if_neg c3] at hf
          refine w_iinc (v := (1 : Int32)) rfl rfl (by decide) rfl ?_
          refine w_goto (t := 118) rfl (by decide) ?_
          exact ih _ (x1) (x3 + (1 : Int32)) _ _ hf hM
        · have c3 : ((S).2 4 (ix ((S).2 11 (ix (x3))))) = (0 : Int32) := Classical.not_not.mp c3
          rw [if_pos c3] at hf
          refine w_aload_n rfl rfl ?_
          refine m_getR hM rfl rfl rfl (by decide) ?_
          refine w_iload_n rfl rfl ?_
          refine w_iconst (v := (0 : Int32)) rfl (by decide) ?_
          obtain ⟨hb, hf⟩ := g_guard hf
          refine m_st hM rfl rfl (by decide) rfl hb (fun h hM => ?_)
          refine w_iinc (v := (1 : Int32)) rfl rfl (by decide) rfl ?_
          refine w_goto (t := 118) rfl (by decide) ?_
          exact ih _ (x1) (x3 + (1 : Int32)) _ _ hf hM
def f_M_close_B68 : Nat → MS → Int32 → Int32 → Int32 → Option (Int32 × MS)
  | 0, _, _, _, _ => none
  | n + 1, S, x1, x2, x3 => (if ((S).1 2) < x3 then f_M_close_B118  n (S) (x1) ((1 : Int32)) else (bif inB (x3) 61 then (if ((S).2 4 (ix (x3))) = (0 : Int32) then (bif inB (x3) 61 then (bif isZ ((0 : Int32)) then f_M_close_B68 n ((S).a 4 (ix (x3)) ((0 : Int32))) (x1) (x2) (x3 + (1 : Int32)) else none) else none) else ((f_M_isWithin n (S) (x3) (x1)).bind (fun q3 => (if q3.1 = (0 : Int32) then (if x3 = x2 then (bif inB (x3) 61 then (bif isZ ((0 : Int32)) then f_M_close_B68 n ((q3.2).a 4 (ix (x3)) ((0 : Int32))) (x1) (x2) (x3 + (1 : Int32)) else none) else none) else (bif inB (x3) 61 then (bif isZ ((1 : Int32)) then f_M_close_B68 n ((q3.2).a 4 (ix (x3)) ((1 : Int32))) (x1) (x2) (x3 + (1 : Int32)) else none) else none)) else (bif inB (x3) 61 then (bif isZ ((0 : Int32)) then f_M_close_B68 n ((q3.2).a 4 (ix (x3)) ((0 : Int32))) (x1) (x2) (x3 + (1 : Int32)) else none) else none))))) else none))
set_option maxHeartbeats 4000000 in
set_option maxRecDepth 100000 in
theorem t_M_close_B68 {d m : Nat} {ad : Nat → Nat} {h0 : gHp} {Q : Option gv → gHp → Prop} {res : Int32 × MS} (hQ : ∀ h', MR h0 h' m ad res.2 → Q (some (.inl res.1)) h') : ∀ (n : Nat) (S : MS) (x1 : Int32) (x2 : Int32) (x3 : Int32) (h : gHp), f_M_close_B68 n S x1 x2 x3  = some res → MR h0 h m ad S → gWP (gCall (d + 3)) m_M_close Q 68 [some (.inr (some m)), some (.inl x1), some (.inl x2), some (.inl x3)] [] h 0 0 := by
  intro n
  induction n with
  | zero =>
    intro S x1 x2 x3   h hf
    cases hf
  | succ n ih =>
    intro S x1 x2 x3   h hf hM
    unfold f_M_close_B68 at hf
    refine w_iload_n rfl rfl ?_
    refine w_aload_n rfl rfl ?_
    refine m_getI hM rfl rfl rfl ?_
    refine w_icmp (t := 116) rfl (by decide) (fun c1 => ?_) (fun c1 => ?_)
    · have c1 : ((S).1 2) < x3 := c1
      rw [if_pos c1] at hf
      refine w_iconst (v := (1 : Int32)) rfl (by decide) ?_
      refine w_istore_n rfl (Nat.le_of_ble_eq_true rfl) rfl ?_
      exact t_M_close_B118  hQ _ _ (x1) ((1 : Int32)) _ _ hf hM
    · have c1 : ¬ (((S).1 2) < x3) := c1
      rw [if_neg c1] at hf
      refine w_aload_n rfl rfl ?_
      refine m_getR hM rfl rfl rfl (by decide) ?_
      refine w_iload_n rfl rfl ?_
      refine w_aload_n rfl rfl ?_
      refine m_getR hM rfl rfl rfl (by decide) ?_
      refine w_iload_n rfl rfl ?_
      obtain ⟨hb, hf⟩ := g_guard hf
      refine m_zld hM rfl rfl (by decide) rfl hb ?_
      refine w_if (t := 108) rfl (by decide) (fun c2 => ?_) (fun c2 => ?_)
      · have c2 : ((S).2 4 (ix (x3))) = (0 : Int32) := c2
        rw [if_pos c2] at hf
        refine w_iconst (v := (0 : Int32)) rfl (by decide) ?_
        obtain ⟨hb, hf⟩ := g_guard hf
        obtain ⟨hz, hf⟩ := g_guard hf
        refine m_zst hM rfl rfl (by decide) rfl hb hz (fun h hM => ?_)
        refine w_iinc (v := (1 : Int32)) rfl rfl (by decide) rfl ?_
        refine w_goto (t := 68) rfl (by decide) ?_
        exact ih _ (x1) (x2) (x3 + (1 : Int32))  _ hf hM
      · have c2 : ¬ (((S).2 4 (ix (x3))) = (0 : Int32)) := c2
        rw [if_neg c2] at hf
        refine w_aload_n rfl rfl ?_
        refine w_iload_n rfl rfl ?_
        refine w_iload_n rfl rfl ?_
        obtain ⟨q3, hc, hf⟩ := g_bind hf
        refine w_virtual [_, _] _ rfl rfl rfl rfl (Nat.le_of_ble_eq_true rfl) hM.1 rfl (Nat.le_of_ble_eq_true rfl) (Nat.le_of_ble_eq_true rfl) (t_M_isWithin (d := d + 2) hc hM (fun h hM => ?_))
        refine w_if (t := 108) rfl (by decide) (fun c4 => ?_) (fun c4 => ?_)
        · have c4 : ¬ (q3.1 = (0 : Int32)) := c4
          rw [if_neg c4] at hf
          refine w_iconst (v := (0 : Int32)) rfl (by decide) ?_
          obtain ⟨hb, hf⟩ := g_guard hf
          obtain ⟨hz, hf⟩ := g_guard hf
          refine m_zst hM rfl rfl (by decide) rfl hb hz (fun h hM => ?_)
          refine w_iinc (v := (1 : Int32)) rfl rfl (by decide) rfl ?_
          refine w_goto (t := 68) rfl (by decide) ?_
          exact ih _ (x1) (x2) (x3 + (1 : Int32))  _ hf hM
        · have c4 : q3.1 = (0 : Int32) := Classical.not_not.mp c4
          rw [if_pos c4] at hf
          refine w_iload_n rfl rfl ?_
          refine w_iload_n rfl rfl ?_
          refine w_icmp (t := 108) rfl (by decide) (fun c5 => ?_) (fun c5 => ?_)
          · have c5 : x3 = x2 := c5
            rw [if_pos c5] at hf
            refine w_iconst (v := (0 : Int32)) rfl (by decide) ?_
            obtain ⟨hb, hf⟩ := g_guard hf
            obtain ⟨hz, hf⟩ := g_guard hf
            refine m_zst hM rfl rfl (by decide) rfl hb hz (fun h hM => ?_)
            refine w_iinc (v := (1 : Int32)) rfl rfl (by decide) rfl ?_
            refine w_goto (t := 68) rfl (by decide) ?_
            exact ih _ (x1) (x2) (x3 + (1 : Int32))  _ hf hM
          · have c5 : ¬ (x3 = x2) := c5
            rw [if_neg c5] at hf
            refine w_iconst (v := (1 : Int32)) rfl (by decide) ?_
            refine w_goto (t := 109) rfl (by decide) ?_
            obtain ⟨hb, hf⟩ := g_guard hf
            obtain ⟨hz, hf⟩ := g_guard hf
            refine m_zst hM rfl rfl (by decide) rfl hb hz (fun h hM => ?_)
            refine w_iinc (v := (1 : Int32)) rfl rfl (by decide) rfl ?_
            refine w_goto (t := 68) rfl (by decide) ?_
            exact ih _ (x1) (x2) (x3 + (1 : Int32))  _ hf hM
def f_M_close_B59 (n : Nat) (S : MS) (x1 : Int32) (x2 : Int32) : Option (Int32 × MS) := (bif inB (x1) 61 then f_M_close_B68  n ((S).a 6 (ix (x1)) ((0 : Int32))) (x1) (x2) ((1 : Int32)) else none)
set_option maxHeartbeats 4000000 in
set_option maxRecDepth 100000 in
theorem t_M_close_B59 {d m : Nat} {ad : Nat → Nat} {h0 : gHp} {Q : Option gv → gHp → Prop} {res : Int32 × MS} (hQ : ∀ h', MR h0 h' m ad res.2 → Q (some (.inl res.1)) h') (n : Nat) (S : MS) (x1 : Int32) (x2 : Int32) (u3 : Option gv) (h : gHp) (hf : f_M_close_B59 n S x1 x2  = some res) (hM : MR h0 h m ad S) : gWP (gCall (d + 3)) m_M_close Q 59 [some (.inr (some m)), some (.inl x1), some (.inl x2), u3] [] h 0 0 := by
  unfold f_M_close_B59 at hf
  refine w_aload_n rfl rfl ?_
  refine m_getR hM rfl rfl rfl (by decide) ?_
  refine w_iload_n rfl rfl ?_
  refine w_iconst (v := (0 : Int32)) rfl (by decide) ?_
  obtain ⟨hb, hf⟩ := g_guard hf
  refine m_st hM rfl rfl (by decide) rfl hb (fun h hM => ?_)
  refine w_iconst (v := (1 : Int32)) rfl (by decide) ?_
  refine w_istore_n rfl (Nat.le_of_ble_eq_true rfl) rfl ?_
  exact t_M_close_B68  hQ _ _ (x1) (x2) ((1 : Int32))  _ hf hM
def f_M_close_B47 (n : Nat) (S : MS) (x1 : Int32) (x2 : Int32) (s0 : Int32) : Option (Int32 × MS) := ((f_M_put n (S) (s0) (x2)).bind (fun q1 => f_M_close_B59  n (q1) (x1) (x2) ))
set_option maxHeartbeats 4000000 in
set_option maxRecDepth 100000 in
theorem t_M_close_B47 {d m : Nat} {ad : Nat → Nat} {h0 : gHp} {Q : Option gv → gHp → Prop} {res : Int32 × MS} (hQ : ∀ h', MR h0 h' m ad res.2 → Q (some (.inl res.1)) h') (n : Nat) (S : MS) (x1 : Int32) (x2 : Int32) (s0 : Int32) (u3 : Option gv) (h : gHp) (hf : f_M_close_B47 n S x1 x2 s0 = some res) (hM : MR h0 h m ad S) : gWP (gCall (d + 3)) m_M_close Q 47 [some (.inr (some m)), some (.inl x1), some (.inl x2), u3] [.inl s0, .inr (some m)] h 0 0 := by
  unfold f_M_close_B47 at hf
  refine w_iload_n rfl rfl ?_
  obtain ⟨q1, hc, hf⟩ := g_bind hf
  refine w_virtual [_, _] _ rfl rfl rfl rfl (Nat.le_of_ble_eq_true rfl) hM.1 rfl (Nat.le_of_ble_eq_true rfl) (Nat.le_of_ble_eq_true rfl) (t_M_put (d := d + 2) hc hM (fun h hM => ?_))
  refine w_goto (t := 59) rfl (by decide) ?_
  exact t_M_close_B59  hQ _ _ (x1) (x2)  _ _ hf hM
def f_M_close (n : Nat) (S : MS) (x1 : Int32) : Option (Int32 × MS) := ((f_M_isPane n (S) (x1)).bind (fun q1 => (if q1.1 = (0 : Int32) then some ((-1 : Int32), q1.2) else (bif inB (x1) 61 then (if ((q1.2).2 6 (ix (x1))) ≤ (0 : Int32) then f_M_close_B59  n ((q1.2).f 3 ((0 : Int32))) (x1) ((q1.2).2 6 (ix (x1)))  else (bif inB ((q1.2).2 6 (ix (x1))) 61 then (if ((q1.2).2 7 (ix ((q1.2).2 6 (ix (x1))))) = x1 then (bif inB ((q1.2).2 6 (ix (x1))) 61 then f_M_close_B47  n (q1.2) (x1) ((q1.2).2 6 (ix (x1))) ((q1.2).2 8 (ix ((q1.2).2 6 (ix (x1))))) else none) else (bif inB ((q1.2).2 6 (ix (x1))) 61 then f_M_close_B47  n (q1.2) (x1) ((q1.2).2 6 (ix (x1))) ((q1.2).2 7 (ix ((q1.2).2 6 (ix (x1))))) else none)) else none)) else none))))
set_option maxHeartbeats 4000000 in
set_option maxRecDepth 100000 in
theorem t_M_close {d m n : Nat} {ad : Nat → Nat} {h0 h : gHp} {Q : Option gv → gHp → Prop} {S : MS} {x1 : Int32} {res : Int32 × MS} (hf : f_M_close n S x1 = some res) (hM : MR h0 h m ad S) (hQ : ∀ h', MR h0 h' m ad res.2 → Q (some (.inl res.1)) h') : gCall (d + 4) m_M_close [.inr (some m), .inl x1] h Q := by
  unfold f_M_close at hf
  refine g_enter (d := d + 3) (Nat.le_of_ble_eq_true rfl) ?_
  show gWP (gCall (d + 3)) m_M_close Q 0 [some (.inr (some m)), some (.inl x1), none, none] [] h 0 0
  refine w_aload_n rfl rfl ?_
  refine w_iload_n rfl rfl ?_
  obtain ⟨q1, hc, hf⟩ := g_bind hf
  refine w_virtual [_] _ rfl rfl rfl rfl (Nat.le_of_ble_eq_true rfl) hM.1 rfl (Nat.le_of_ble_eq_true rfl) (Nat.le_of_ble_eq_true rfl) (t_M_isPane (d := d + 1) hc hM (fun h hM => ?_))
  refine w_if (t := 10) rfl (by decide) (fun c2 => ?_) (fun c2 => ?_)
  · have c2 : ¬ (q1.1 = (0 : Int32)) := c2
    rw [if_neg c2] at hf
    refine w_aload_n rfl rfl ?_
    refine m_getR hM rfl rfl rfl (by decide) ?_
    refine w_iload_n rfl rfl ?_
    obtain ⟨hb, hf⟩ := g_guard hf
    refine m_ld hM rfl rfl (by decide) rfl hb ?_
    refine w_istore_n rfl (Nat.le_of_ble_eq_true rfl) rfl ?_
    refine w_iload_n rfl rfl ?_
    refine w_if (t := 54) rfl (by decide) (fun c3 => ?_) (fun c3 => ?_)
    · have c3 : ((q1.2).2 6 (ix (x1))) ≤ (0 : Int32) := c3
      rw [if_pos c3] at hf
      refine w_aload_n rfl rfl ?_
      refine w_iconst (v := (0 : Int32)) rfl (by decide) ?_
      refine m_putI hM rfl rfl rfl rfl (nar_int _) (fun h hM => ?_)
      exact t_M_close_B59  hQ _ _ (x1) ((q1.2).2 6 (ix (x1)))  _ _ hf hM
    · have c3 : ¬ (((q1.2).2 6 (ix (x1))) ≤ (0 : Int32)) := c3
      rw [if_neg c3] at hf
      refine w_aload_n rfl rfl ?_
      refine w_aload_n rfl rfl ?_
      refine m_getR hM rfl rfl rfl (by decide) ?_
      refine w_iload_n rfl rfl ?_
      obtain ⟨hb, hf⟩ := g_guard hf
      refine m_ld hM rfl rfl (by decide) rfl hb ?_
      refine w_iload_n rfl rfl ?_
      refine w_icmp (t := 41) rfl (by decide) (fun c4 => ?_) (fun c4 => ?_)
      · have c4 : ¬ (((q1.2).2 7 (ix ((q1.2).2 6 (ix (x1))))) = x1) := c4
        rw [if_neg c4] at hf
        refine w_aload_n rfl rfl ?_
        refine m_getR hM rfl rfl rfl (by decide) ?_
        refine w_iload_n rfl rfl ?_
        obtain ⟨hb, hf⟩ := g_guard hf
        refine m_ld hM rfl rfl (by decide) rfl hb ?_
        exact t_M_close_B47  hQ _ _ (x1) ((q1.2).2 6 (ix (x1))) ((q1.2).2 7 (ix ((q1.2).2 6 (ix (x1))))) _ _ hf hM
      · have c4 : ((q1.2).2 7 (ix ((q1.2).2 6 (ix (x1))))) = x1 := Classical.not_not.mp c4
        rw [if_pos c4] at hf
        refine w_aload_n rfl rfl ?_
        refine m_getR hM rfl rfl rfl (by decide) ?_
        refine w_iload_n rfl rfl ?_
        obtain ⟨hb, hf⟩ := g_guard hf
        refine m_ld hM rfl rfl (by decide) rfl hb ?_
        refine w_goto (t := 47) rfl (by decide) ?_
        exact t_M_close_B47  hQ _ _ (x1) ((q1.2).2 6 (ix (x1))) ((q1.2).2 8 (ix ((q1.2).2 6 (ix (x1))))) _ _ hf hM
  · have c2 : q1.1 = (0 : Int32) := Classical.not_not.mp c2
    rw [if_pos c2] at hf
    refine w_iconst (v := (-1 : Int32)) rfl (by decide) ?_
    cases hf
    exact w_ireturn rfl (int_ret _) (Nat.le_refl _) (Nat.le_refl _) (hQ _ hM)
def f_M_arrange_B162 (n : Nat) (S : MS) (x1 : Int32) (x2 : Int32) (x3 : Int32) (x5 : Int32) : Option (Int32 × MS) := (bif inB (x1) 61 then (bif inB (x1) 61 then (bif inB (x1) 61 then ((f_M_arrangeAll n ((((S).a 9 (ix (x1)) (x2)).a 10 (ix (x1)) (x3)).a 11 (ix (x1)) (x5)) ).bind (fun q1 => some ((1 : Int32), q1))) else none) else none) else none)
set_option maxHeartbeats 4000000 in
set_option maxRecDepth 100000 in
theorem t_M_arrange_B162 {d m : Nat} {ad : Nat → Nat} {h0 : gHp} {Q : Option gv → gHp → Prop} {res : Int32 × MS} (hQ : ∀ h', MR h0 h' m ad res.2 → Q (some (.inl res.1)) h') (n : Nat) (S : MS) (x1 : Int32) (x2 : Int32) (x3 : Int32) (x5 : Int32) (u4 : Option gv) (u6 : Option gv) (h : gHp) (hf : f_M_arrange_B162 n S x1 x2 x3 x5  = some res) (hM : MR h0 h m ad S) : gWP (gCall (d + 3)) m_M_arrange Q 162 [some (.inr (some m)), some (.inl x1), some (.inl x2), some (.inl x3), u4, some (.inl x5), u6] [] h 0 0 := by
  unfold f_M_arrange_B162 at hf
  refine w_aload_n rfl rfl ?_
  refine m_getR hM rfl rfl rfl (by decide) ?_
  refine w_iload_n rfl rfl ?_
  refine w_iload_n rfl rfl ?_
  obtain ⟨hb, hf⟩ := g_guard hf
  refine m_st hM rfl rfl (by decide) rfl hb (fun h hM => ?_)
  refine w_aload_n rfl rfl ?_
  refine m_getR hM rfl rfl rfl (by decide) ?_
  refine w_iload_n rfl rfl ?_
  refine w_iload_n rfl rfl ?_
  obtain ⟨hb, hf⟩ := g_guard hf
  refine m_st hM rfl rfl (by decide) rfl hb (fun h hM => ?_)
  refine w_aload_n rfl rfl ?_
  refine m_getR hM rfl rfl rfl (by decide) ?_
  refine w_iload_n rfl rfl ?_
  refine w_iload rfl rfl ?_
  obtain ⟨hb, hf⟩ := g_guard hf
  refine m_st hM rfl rfl (by decide) rfl hb (fun h hM => ?_)
  refine w_aload_n rfl rfl ?_
  obtain ⟨q1, hc, hf⟩ := g_bind hf
  refine w_virtual [] _ rfl rfl rfl rfl (Nat.le_of_ble_eq_true rfl) hM.1 rfl (Nat.le_of_ble_eq_true rfl) (Nat.le_of_ble_eq_true rfl) (t_M_arrangeAll (d := d + 0) hc hM (fun h hM => ?_))
  refine w_iconst (v := (1 : Int32)) rfl (by decide) ?_
  cases hf
  exact w_ireturn rfl (int_ret _) (Nat.le_refl _) (Nat.le_refl _) (hQ _ hM)
def f_M_arrange_B120 (n : Nat) (S : MS) (x1 : Int32) (x2 : Int32) (x3 : Int32) (x5 : Int32) : Option (Int32 × MS) := (bif inB (x1) 61 then (if (x2 &&& (1 : Int32)) = (((S).2 9 (ix (x1))) &&& (1 : Int32)) then f_M_arrange_B162  n (S) (x1) (x2) (x3) (x5)  else (bif inB (x1) 61 then (bif inB (x1) 61 then (bif inB (x1) 61 then (bif inB (x1) 61 then f_M_arrange_B162  n (((S).a 7 (ix (x1)) ((S).2 8 (ix (x1)))).a 8 (ix (x1)) ((S).2 7 (ix (x1)))) (x1) (x2) (x3) (x5)  else none) else none) else none) else none)) else none)
set_option maxHeartbeats 4000000 in
set_option maxRecDepth 100000 in
theorem t_M_arrange_B120 {d m : Nat} {ad : Nat → Nat} {h0 : gHp} {Q : Option gv → gHp → Prop} {res : Int32 × MS} (hQ : ∀ h', MR h0 h' m ad res.2 → Q (some (.inl res.1)) h') (n : Nat) (S : MS) (x1 : Int32) (x2 : Int32) (x3 : Int32) (x5 : Int32) (u4 : Option gv) (u6 : Option gv) (h : gHp) (hf : f_M_arrange_B120 n S x1 x2 x3 x5  = some res) (hM : MR h0 h m ad S) : gWP (gCall (d + 3)) m_M_arrange Q 120 [some (.inr (some m)), some (.inl x1), some (.inl x2), some (.inl x3), u4, some (.inl x5), u6] [] h 0 0 := by
  unfold f_M_arrange_B120 at hf
  refine w_iload_n rfl rfl ?_
  refine w_iconst (v := (1 : Int32)) rfl (by decide) ?_
  refine w_iand rfl ?_
  refine w_aload_n rfl rfl ?_
  refine m_getR hM rfl rfl rfl (by decide) ?_
  refine w_iload_n rfl rfl ?_
  obtain ⟨hb, hf⟩ := g_guard hf
  refine m_ld hM rfl rfl (by decide) rfl hb ?_
  refine w_iconst (v := (1 : Int32)) rfl (by decide) ?_
  refine w_iand rfl ?_
  refine w_icmp (t := 162) rfl (by decide) (fun c1 => ?_) (fun c1 => ?_)
  · have c1 : (x2 &&& (1 : Int32)) = (((S).2 9 (ix (x1))) &&& (1 : Int32)) := c1
    rw [if_pos c1] at hf
    exact t_M_arrange_B162  hQ _ _ (x1) (x2) (x3) (x5)  _ _ _ hf hM
  · have c1 : ¬ ((x2 &&& (1 : Int32)) = (((S).2 9 (ix (x1))) &&& (1 : Int32))) := c1
    rw [if_neg c1] at hf
    refine w_aload_n rfl rfl ?_
    refine m_getR hM rfl rfl rfl (by decide) ?_
    refine w_iload_n rfl rfl ?_
    obtain ⟨hb, hf⟩ := g_guard hf
    refine m_ld hM rfl rfl (by decide) rfl hb ?_
    refine w_istore rfl (Nat.le_of_ble_eq_true rfl) rfl ?_
    refine w_aload_n rfl rfl ?_
    refine m_getR hM rfl rfl rfl (by decide) ?_
    refine w_iload_n rfl rfl ?_
    refine w_aload_n rfl rfl ?_
    refine m_getR hM rfl rfl rfl (by decide) ?_
    refine w_iload_n rfl rfl ?_
    obtain ⟨hb, hf⟩ := g_guard hf
    refine m_ld hM rfl rfl (by decide) rfl hb ?_
    obtain ⟨hb, hf⟩ := g_guard hf
    refine m_st hM rfl rfl (by decide) rfl hb (fun h hM => ?_)
    refine w_aload_n rfl rfl ?_
    refine m_getR hM rfl rfl rfl (by decide) ?_
    refine w_iload_n rfl rfl ?_
    refine w_iload rfl rfl ?_
    obtain ⟨hb, hf⟩ := g_guard hf
    refine m_st hM rfl rfl (by decide) rfl hb (fun h hM => ?_)
    exact t_M_arrange_B162  hQ _ _ (x1) (x2) (x3) (x5)  _ _ _ hf hM
def f_M_arrange_B80 (n : Nat) (S : MS) (x1 : Int32) (x2 : Int32) (x3 : Int32) (s0 : Int32) : Option (Int32 × MS) := (bif inB (x1) 61 then (if (x2 &&& (2 : Int32)) = (((S).2 9 (ix (x1))) &&& (2 : Int32)) then (if (x2 &&& (4 : Int32)) = (0 : Int32) then (if s0 ≤ (0 : Int32) then f_M_arrange_B120  n (S) (x1) (x2) (x3) (s0)  else (bif inB (s0) 61 then (if ((S).2 5 (ix (s0))) = (0 : Int32) then some ((-3 : Int32), S) else f_M_arrange_B120  n (S) (x1) (x2) (x3) (s0) ) else none)) else f_M_arrange_B120  n (S) (x1) (x2) (x3) (s0) ) else some ((-3 : Int32), S)) else none)
set_option maxHeartbeats 4000000 in
set_option maxRecDepth 100000 in
theorem t_M_arrange_B80 {d m : Nat} {ad : Nat → Nat} {h0 : gHp} {Q : Option gv → gHp → Prop} {res : Int32 × MS} (hQ : ∀ h', MR h0 h' m ad res.2 → Q (some (.inl res.1)) h') (n : Nat) (S : MS) (x1 : Int32) (x2 : Int32) (x3 : Int32) (s0 : Int32) (u4 : Option gv) (u5 : Option gv) (u6 : Option gv) (h : gHp) (hf : f_M_arrange_B80 n S x1 x2 x3 s0 = some res) (hM : MR h0 h m ad S) : gWP (gCall (d + 3)) m_M_arrange Q 80 [some (.inr (some m)), some (.inl x1), some (.inl x2), some (.inl x3), u4, u5, u6] [.inl s0] h 0 0 := by
  unfold f_M_arrange_B80 at hf
  refine w_istore rfl (Nat.le_of_ble_eq_true rfl) rfl ?_
  refine w_iload_n rfl rfl ?_
  refine w_iconst (v := (2 : Int32)) rfl (by decide) ?_
  refine w_iand rfl ?_
  refine w_aload_n rfl rfl ?_
  refine m_getR hM rfl rfl rfl (by decide) ?_
  refine w_iload_n rfl rfl ?_
  obtain ⟨hb, hf⟩ := g_guard hf
  refine m_ld hM rfl rfl (by decide) rfl hb ?_
  refine w_iconst (v := (2 : Int32)) rfl (by decide) ?_
  refine w_iand rfl ?_
  refine w_icmp (t := 117) rfl (by decide) (fun c1 => ?_) (fun c1 => ?_)
  · have c1 : ¬ ((x2 &&& (2 : Int32)) = (((S).2 9 (ix (x1))) &&& (2 : Int32))) := c1
    rw [if_neg c1] at hf
    refine w_bipush (v := (-3 : Int32)) rfl (by decide) ?_
    cases hf
    exact w_ireturn rfl (int_ret _) (Nat.le_refl _) (Nat.le_refl _) (hQ _ hM)
  · have c1 : (x2 &&& (2 : Int32)) = (((S).2 9 (ix (x1))) &&& (2 : Int32)) := Classical.not_not.mp c1
    rw [if_pos c1] at hf
    refine w_iload_n rfl rfl ?_
    refine w_iconst (v := (4 : Int32)) rfl (by decide) ?_
    refine w_iand rfl ?_
    refine w_if (t := 120) rfl (by decide) (fun c2 => ?_) (fun c2 => ?_)
    · have c2 : ¬ ((x2 &&& (4 : Int32)) = (0 : Int32)) := c2
      rw [if_neg c2] at hf
      exact t_M_arrange_B120  hQ _ _ (x1) (x2) (x3) (s0)  _ _ _ hf hM
    · have c2 : (x2 &&& (4 : Int32)) = (0 : Int32) := Classical.not_not.mp c2
      rw [if_pos c2] at hf
      refine w_iload rfl rfl ?_
      refine w_if (t := 120) rfl (by decide) (fun c3 => ?_) (fun c3 => ?_)
      · have c3 : s0 ≤ (0 : Int32) := c3
        rw [if_pos c3] at hf
        exact t_M_arrange_B120  hQ _ _ (x1) (x2) (x3) (s0)  _ _ _ hf hM
      · have c3 : ¬ (s0 ≤ (0 : Int32)) := c3
        rw [if_neg c3] at hf
        refine w_aload_n rfl rfl ?_
        refine m_getR hM rfl rfl rfl (by decide) ?_
        refine w_iload rfl rfl ?_
        obtain ⟨hb, hf⟩ := g_guard hf
        refine m_ld hM rfl rfl (by decide) rfl hb ?_
        refine w_if (t := 120) rfl (by decide) (fun c4 => ?_) (fun c4 => ?_)
        · have c4 : ¬ (((S).2 5 (ix (s0))) = (0 : Int32)) := c4
          rw [if_neg c4] at hf
          exact t_M_arrange_B120  hQ _ _ (x1) (x2) (x3) (s0)  _ _ _ hf hM
        · have c4 : ((S).2 5 (ix (s0))) = (0 : Int32) := Classical.not_not.mp c4
          rw [if_pos c4] at hf
          refine w_bipush (v := (-3 : Int32)) rfl (by decide) ?_
          cases hf
          exact w_ireturn rfl (int_ret _) (Nat.le_refl _) (Nat.le_refl _) (hQ _ hM)
def f_M_arrange_B64 (n : Nat) (S : MS) (x1 : Int32) (x2 : Int32) (x3 : Int32) (x4 : Int32) : Option (Int32 × MS) := (if x4 = (0 : Int32) then (bif inB (x1) 61 then f_M_arrange_B80  n (S) (x1) (x2) (x3) ((S).2 11 (ix (x1))) else none) else f_M_arrange_B80  n (S) (x1) (x2) (x3) (x4))
set_option maxHeartbeats 4000000 in
set_option maxRecDepth 100000 in
theorem t_M_arrange_B64 {d m : Nat} {ad : Nat → Nat} {h0 : gHp} {Q : Option gv → gHp → Prop} {res : Int32 × MS} (hQ : ∀ h', MR h0 h' m ad res.2 → Q (some (.inl res.1)) h') (n : Nat) (S : MS) (x1 : Int32) (x2 : Int32) (x3 : Int32) (x4 : Int32) (u5 : Option gv) (u6 : Option gv) (h : gHp) (hf : f_M_arrange_B64 n S x1 x2 x3 x4  = some res) (hM : MR h0 h m ad S) : gWP (gCall (d + 3)) m_M_arrange Q 64 [some (.inr (some m)), some (.inl x1), some (.inl x2), some (.inl x3), some (.inl x4), u5, u6] [] h 0 0 := by
  unfold f_M_arrange_B64 at hf
  refine w_iload rfl rfl ?_
  refine w_if (t := 78) rfl (by decide) (fun c1 => ?_) (fun c1 => ?_)
  · have c1 : ¬ (x4 = (0 : Int32)) := c1
    rw [if_neg c1] at hf
    refine w_iload rfl rfl ?_
    exact t_M_arrange_B80  hQ _ _ (x1) (x2) (x3) (x4) _ _ _ _ hf hM
  · have c1 : x4 = (0 : Int32) := Classical.not_not.mp c1
    rw [if_pos c1] at hf
    refine w_aload_n rfl rfl ?_
    refine m_getR hM rfl rfl rfl (by decide) ?_
    refine w_iload_n rfl rfl ?_
    obtain ⟨hb, hf⟩ := g_guard hf
    refine m_ld hM rfl rfl (by decide) rfl hb ?_
    refine w_goto (t := 80) rfl (by decide) ?_
    exact t_M_arrange_B80  hQ _ _ (x1) (x2) (x3) ((S).2 11 (ix (x1))) _ _ _ _ hf hM
def f_M_arrange (n : Nat) (S : MS) (x1 : Int32) (x2 : Int32) (x3 : Int32) (x4 : Int32) : Option (Int32 × MS) := ((f_M_isPane n (S) (x1)).bind (fun q1 => (if q1.1 = (0 : Int32) then some ((-1 : Int32), q1.2) else (bif inB (x1) 61 then (if ((q1.2).2 5 (ix (x1))) = (4 : Int32) then ((f_M_isMethod n (q1.2) (x2) (x3)).bind (fun q4 => (if q4.1 = (0 : Int32) then some ((-1 : Int32), q4.2) else (if x4 = (0 : Int32) then f_M_arrange_B64  n (q4.2) (x1) (x2) (x3) (x4)  else ((f_M_isPane n (q4.2) (x4)).bind (fun q7 => (if q7.1 = (0 : Int32) then some ((-1 : Int32), q7.2) else (bif inB (x4) 61 then (if ((q7.2).2 5 (ix (x4))) = (4 : Int32) then some ((-1 : Int32), q7.2) else ((f_M_isWithin n (q7.2) (x4) (x1)).bind (fun q10 => (if q10.1 = (0 : Int32) then some ((-1 : Int32), q10.2) else f_M_arrange_B64  n (q10.2) (x1) (x2) (x3) (x4) )))) else none)))))))) else some ((-1 : Int32), q1.2)) else none))))
set_option maxHeartbeats 4000000 in
set_option maxRecDepth 100000 in
theorem t_M_arrange {d m n : Nat} {ad : Nat → Nat} {h0 h : gHp} {Q : Option gv → gHp → Prop} {S : MS} {x1 : Int32} {x2 : Int32} {x3 : Int32} {x4 : Int32} {res : Int32 × MS} (hf : f_M_arrange n S x1 x2 x3 x4 = some res) (hM : MR h0 h m ad S) (hQ : ∀ h', MR h0 h' m ad res.2 → Q (some (.inl res.1)) h') : gCall (d + 4) m_M_arrange [.inr (some m), .inl x1, .inl x2, .inl x3, .inl x4] h Q := by
  unfold f_M_arrange at hf
  refine g_enter (d := d + 3) (Nat.le_of_ble_eq_true rfl) ?_
  show gWP (gCall (d + 3)) m_M_arrange Q 0 [some (.inr (some m)), some (.inl x1), some (.inl x2), some (.inl x3), some (.inl x4), none, none] [] h 0 0
  refine w_aload_n rfl rfl ?_
  refine w_iload_n rfl rfl ?_
  obtain ⟨q1, hc, hf⟩ := g_bind hf
  refine w_virtual [_] _ rfl rfl rfl rfl (Nat.le_of_ble_eq_true rfl) hM.1 rfl (Nat.le_of_ble_eq_true rfl) (Nat.le_of_ble_eq_true rfl) (t_M_isPane (d := d + 1) hc hM (fun h hM => ?_))
  refine w_if (t := 62) rfl (by decide) (fun c2 => ?_) (fun c2 => ?_)
  · have c2 : q1.1 = (0 : Int32) := c2
    rw [if_pos c2] at hf
    refine w_iconst (v := (-1 : Int32)) rfl (by decide) ?_
    cases hf
    exact w_ireturn rfl (int_ret _) (Nat.le_refl _) (Nat.le_refl _) (hQ _ hM)
  · have c2 : ¬ (q1.1 = (0 : Int32)) := c2
    rw [if_neg c2] at hf
    refine w_aload_n rfl rfl ?_
    refine m_getR hM rfl rfl rfl (by decide) ?_
    refine w_iload_n rfl rfl ?_
    obtain ⟨hb, hf⟩ := g_guard hf
    refine m_ld hM rfl rfl (by decide) rfl hb ?_
    refine w_iconst (v := (4 : Int32)) rfl (by decide) ?_
    refine w_icmp (t := 62) rfl (by decide) (fun c3 => ?_) (fun c3 => ?_)
    · have c3 : ¬ (((q1.2).2 5 (ix (x1))) = (4 : Int32)) := c3
      rw [if_neg c3] at hf
      refine w_iconst (v := (-1 : Int32)) rfl (by decide) ?_
      cases hf
      exact w_ireturn rfl (int_ret _) (Nat.le_refl _) (Nat.le_refl _) (hQ _ hM)
    · have c3 : ((q1.2).2 5 (ix (x1))) = (4 : Int32) := Classical.not_not.mp c3
      rw [if_pos c3] at hf
      refine w_aload_n rfl rfl ?_
      refine w_iload_n rfl rfl ?_
      refine w_iload_n rfl rfl ?_
      obtain ⟨q4, hc, hf⟩ := g_bind hf
      refine w_virtual [_, _] _ rfl rfl rfl rfl (Nat.le_of_ble_eq_true rfl) hM.1 rfl (Nat.le_of_ble_eq_true rfl) (Nat.le_of_ble_eq_true rfl) (t_M_isMethod (d := d + 1) hc hM (fun h hM => ?_))
      refine w_if (t := 62) rfl (by decide) (fun c5 => ?_) (fun c5 => ?_)
      · have c5 : q4.1 = (0 : Int32) := c5
        rw [if_pos c5] at hf
        refine w_iconst (v := (-1 : Int32)) rfl (by decide) ?_
        cases hf
        exact w_ireturn rfl (int_ret _) (Nat.le_refl _) (Nat.le_refl _) (hQ _ hM)
      · have c5 : ¬ (q4.1 = (0 : Int32)) := c5
        rw [if_neg c5] at hf
        refine w_iload rfl rfl ?_
        refine w_if (t := 64) rfl (by decide) (fun c6 => ?_) (fun c6 => ?_)
        · have c6 : x4 = (0 : Int32) := c6
          rw [if_pos c6] at hf
          exact t_M_arrange_B64  hQ _ _ (x1) (x2) (x3) (x4)  _ _ _ hf hM
        · have c6 : ¬ (x4 = (0 : Int32)) := c6
          rw [if_neg c6] at hf
          refine w_aload_n rfl rfl ?_
          refine w_iload rfl rfl ?_
          obtain ⟨q7, hc, hf⟩ := g_bind hf
          refine w_virtual [_] _ rfl rfl rfl rfl (Nat.le_of_ble_eq_true rfl) hM.1 rfl (Nat.le_of_ble_eq_true rfl) (Nat.le_of_ble_eq_true rfl) (t_M_isPane (d := d + 1) hc hM (fun h hM => ?_))
          refine w_if (t := 62) rfl (by decide) (fun c8 => ?_) (fun c8 => ?_)
          · have c8 : q7.1 = (0 : Int32) := c8
            rw [if_pos c8] at hf
            refine w_iconst (v := (-1 : Int32)) rfl (by decide) ?_
            cases hf
            exact w_ireturn rfl (int_ret _) (Nat.le_refl _) (Nat.le_refl _) (hQ _ hM)
          · have c8 : ¬ (q7.1 = (0 : Int32)) := c8
            rw [if_neg c8] at hf
            refine w_aload_n rfl rfl ?_
            refine m_getR hM rfl rfl rfl (by decide) ?_
            refine w_iload rfl rfl ?_
            obtain ⟨hb, hf⟩ := g_guard hf
            refine m_ld hM rfl rfl (by decide) rfl hb ?_
            refine w_iconst (v := (4 : Int32)) rfl (by decide) ?_
            refine w_icmp (t := 62) rfl (by decide) (fun c9 => ?_) (fun c9 => ?_)
            · have c9 : ((q7.2).2 5 (ix (x4))) = (4 : Int32) := c9
              rw [if_pos c9] at hf
              refine w_iconst (v := (-1 : Int32)) rfl (by decide) ?_
              cases hf
              exact w_ireturn rfl (int_ret _) (Nat.le_refl _) (Nat.le_refl _) (hQ _ hM)
            · have c9 : ¬ (((q7.2).2 5 (ix (x4))) = (4 : Int32)) := c9
              rw [if_neg c9] at hf
              refine w_aload_n rfl rfl ?_
              refine w_iload rfl rfl ?_
              refine w_iload_n rfl rfl ?_
              obtain ⟨q10, hc, hf⟩ := g_bind hf
              refine w_virtual [_, _] _ rfl rfl rfl rfl (Nat.le_of_ble_eq_true rfl) hM.1 rfl (Nat.le_of_ble_eq_true rfl) (Nat.le_of_ble_eq_true rfl) (t_M_isWithin (d := d + 2) hc hM (fun h hM => ?_))
              refine w_if (t := 64) rfl (by decide) (fun c11 => ?_) (fun c11 => ?_)
              · have c11 : ¬ (q10.1 = (0 : Int32)) := c11
                rw [if_neg c11] at hf
                exact t_M_arrange_B64  hQ _ _ (x1) (x2) (x3) (x4)  _ _ _ hf hM
              · have c11 : q10.1 = (0 : Int32) := Classical.not_not.mp c11
                rw [if_pos c11] at hf
                refine w_iconst (v := (-1 : Int32)) rfl (by decide) ?_
                cases hf
                exact w_ireturn rfl (int_ret _) (Nat.le_refl _) (Nat.le_refl _) (hQ _ hM)
def f_M_open_B182 (n : Nat) (S : MS) (x1 : Int32) (x5 : Int32) (x6 : Int32) (x7 : Int32) (s0 : Int32) (s1 : Int32) : Option (Int32 × MS) := (bif inB (s1) 61 then (if x7 = (0 : Int32) then (bif inB (x6) 61 then (bif inB (x5) 61 then (bif inB (x1) 61 then ((f_M_arrangeAll n (((((S).a 7 (ix (s1)) (s0)).a 8 (ix (x6)) (x5)).a 6 (ix (x5)) (x6)).a 6 (ix (x1)) (x6)) ).bind (fun q2 => some (x5, q2))) else none) else none) else none) else (bif inB (x6) 61 then (bif inB (x5) 61 then (bif inB (x1) 61 then ((f_M_arrangeAll n (((((S).a 7 (ix (s1)) (s0)).a 8 (ix (x6)) (x1)).a 6 (ix (x5)) (x6)).a 6 (ix (x1)) (x6)) ).bind (fun q2 => some (x5, q2))) else none) else none) else none)) else none)
set_option maxHeartbeats 4000000 in
set_option maxRecDepth 100000 in
theorem t_M_open_B182 {d m : Nat} {ad : Nat → Nat} {h0 : gHp} {Q : Option gv → gHp → Prop} {res : Int32 × MS} (hQ : ∀ h', MR h0 h' m ad res.2 → Q (some (.inl res.1)) h') (n : Nat) (S : MS) (x1 : Int32) (x5 : Int32) (x6 : Int32) (x7 : Int32) (s0 : Int32) (s1 : Int32) (u2 : Option gv) (u3 : Option gv) (u4 : Option gv) (h : gHp) (hf : f_M_open_B182 n S x1 x5 x6 x7 s0 s1 = some res) (hM : MR h0 h m ad S) : gWP (gCall (d + 3)) m_M_open Q 182 [some (.inr (some m)), some (.inl x1), u2, u3, u4, some (.inl x5), some (.inl x6), some (.inl x7)] [.inl s0, .inl s1, .inr (some (ad 7))] h 0 0 := by
  unfold f_M_open_B182 at hf
  obtain ⟨hb, hf⟩ := g_guard hf
  refine m_st hM rfl rfl (by decide) rfl hb (fun h hM => ?_)
  refine w_aload_n rfl rfl ?_
  refine m_getR hM rfl rfl rfl (by decide) ?_
  refine w_iload rfl rfl ?_
  refine w_iload rfl rfl ?_
  refine w_if (t := 198) rfl (by decide) (fun c1 => ?_) (fun c1 => ?_)
  · have c1 : x7 = (0 : Int32) := c1
    rw [if_pos c1] at hf
    refine w_iload rfl rfl ?_
    obtain ⟨hb, hf⟩ := g_guard hf
    refine m_st hM rfl rfl (by decide) rfl hb (fun h hM => ?_)
    refine w_aload_n rfl rfl ?_
    refine m_getR hM rfl rfl rfl (by decide) ?_
    refine w_iload rfl rfl ?_
    refine w_iload rfl rfl ?_
    obtain ⟨hb, hf⟩ := g_guard hf
    refine m_st hM rfl rfl (by decide) rfl hb (fun h hM => ?_)
    refine w_aload_n rfl rfl ?_
    refine m_getR hM rfl rfl rfl (by decide) ?_
    refine w_iload_n rfl rfl ?_
    refine w_iload rfl rfl ?_
    obtain ⟨hb, hf⟩ := g_guard hf
    refine m_st hM rfl rfl (by decide) rfl hb (fun h hM => ?_)
    refine w_aload_n rfl rfl ?_
    obtain ⟨q2, hc, hf⟩ := g_bind hf
    refine w_virtual [] _ rfl rfl rfl rfl (Nat.le_of_ble_eq_true rfl) hM.1 rfl (Nat.le_of_ble_eq_true rfl) (Nat.le_of_ble_eq_true rfl) (t_M_arrangeAll (d := d + 0) hc hM (fun h hM => ?_))
    refine w_iload rfl rfl ?_
    cases hf
    exact w_ireturn rfl (int_ret _) (Nat.le_refl _) (Nat.le_refl _) (hQ _ hM)
  · have c1 : ¬ (x7 = (0 : Int32)) := c1
    rw [if_neg c1] at hf
    refine w_iload_n rfl rfl ?_
    refine w_goto (t := 200) rfl (by decide) ?_
    obtain ⟨hb, hf⟩ := g_guard hf
    refine m_st hM rfl rfl (by decide) rfl hb (fun h hM => ?_)
    refine w_aload_n rfl rfl ?_
    refine m_getR hM rfl rfl rfl (by decide) ?_
    refine w_iload rfl rfl ?_
    refine w_iload rfl rfl ?_
    obtain ⟨hb, hf⟩ := g_guard hf
    refine m_st hM rfl rfl (by decide) rfl hb (fun h hM => ?_)
    refine w_aload_n rfl rfl ?_
    refine m_getR hM rfl rfl rfl (by decide) ?_
    refine w_iload_n rfl rfl ?_
    refine w_iload rfl rfl ?_
    obtain ⟨hb, hf⟩ := g_guard hf
    refine m_st hM rfl rfl (by decide) rfl hb (fun h hM => ?_)
    refine w_aload_n rfl rfl ?_
    obtain ⟨q2, hc, hf⟩ := g_bind hf
    refine w_virtual [] _ rfl rfl rfl rfl (Nat.le_of_ble_eq_true rfl) hM.1 rfl (Nat.le_of_ble_eq_true rfl) (Nat.le_of_ble_eq_true rfl) (t_M_arrangeAll (d := d + 0) hc hM (fun h hM => ?_))
    refine w_iload rfl rfl ?_
    cases hf
    exact w_ireturn rfl (int_ret _) (Nat.le_refl _) (Nat.le_refl _) (hQ _ hM)
def f_M_open_B163 (n : Nat) (S : MS) (x1 : Int32) (x5 : Int32) (x6 : Int32) (s0 : Int32) : Option (Int32 × MS) := (if s0 = (0 : Int32) then f_M_open_B182  n (S) (x1) (x5) (x6) (s0) (x1) (x6) else f_M_open_B182  n (S) (x1) (x5) (x6) (s0) (x5) (x6))
set_option maxHeartbeats 4000000 in
set_option maxRecDepth 100000 in
theorem t_M_open_B163 {d m : Nat} {ad : Nat → Nat} {h0 : gHp} {Q : Option gv → gHp → Prop} {res : Int32 × MS} (hQ : ∀ h', MR h0 h' m ad res.2 → Q (some (.inl res.1)) h') (n : Nat) (S : MS) (x1 : Int32) (x5 : Int32) (x6 : Int32) (s0 : Int32) (u2 : Option gv) (u3 : Option gv) (u4 : Option gv) (u7 : Option gv) (h : gHp) (hf : f_M_open_B163 n S x1 x5 x6 s0 = some res) (hM : MR h0 h m ad S) : gWP (gCall (d + 3)) m_M_open Q 163 [some (.inr (some m)), some (.inl x1), u2, u3, u4, some (.inl x5), some (.inl x6), u7] [.inl s0] h 0 0 := by
  unfold f_M_open_B163 at hf
  refine w_istore rfl (Nat.le_of_ble_eq_true rfl) rfl ?_
  refine w_aload_n rfl rfl ?_
  refine m_getR hM rfl rfl rfl (by decide) ?_
  refine w_iload rfl rfl ?_
  refine w_iload rfl rfl ?_
  refine w_if (t := 181) rfl (by decide) (fun c1 => ?_) (fun c1 => ?_)
  · have c1 : s0 = (0 : Int32) := c1
    rw [if_pos c1] at hf
    refine w_iload_n rfl rfl ?_
    exact t_M_open_B182  hQ _ _ (x1) (x5) (x6) (s0) (x1) (x6) _ _ _ _ hf hM
  · have c1 : ¬ (s0 = (0 : Int32)) := c1
    rw [if_neg c1] at hf
    refine w_iload rfl rfl ?_
    refine w_goto (t := 182) rfl (by decide) ?_
    exact t_M_open_B182  hQ _ _ (x1) (x5) (x6) (s0) (x5) (x6) _ _ _ _ hf hM
def f_M_open_B74 (n : Nat) (S : MS) (x1 : Int32) (x2 : Int32) (x3 : Int32) (x4 : Int32) (s0 : Int32) (s1 : Int32) : Option (Int32 × MS) := (if (60 : Int32) < (s1 + s0) then some ((-4 : Int32), S) else ((f_M_leaves n (S) ).bind (fun q2 => (if q2.1 = (12 : Int32) then some ((-4 : Int32), q2.2) else ((f_M_make n (q2.2) (x4)).bind (fun q4 => (if x1 = (0 : Int32) then ((f_M_arrangeAll n ((q4.2).f 3 (q4.1)) ).bind (fun q6 => some (q4.1, q6))) else ((f_M_make n (q4.2) ((4 : Int32))).bind (fun q6 => (bif inB (q6.1) 61 then (bif inB (q6.1) 61 then (bif inB (q6.1) 61 then ((f_M_put n ((((q6.2).a 9 (ix (q6.1)) (x2)).a 10 (ix (q6.1)) (x3)).a 11 (ix (q6.1)) (q4.1)) (q6.1) (x1)).bind (fun q7 => (if (x2 &&& (1 : Int32)) = (0 : Int32) then f_M_open_B163  n (q7) (x1) (q4.1) (q6.1) ((1 : Int32)) else f_M_open_B163  n (q7) (x1) (q4.1) (q6.1) ((0 : Int32))))) else none) else none) else none))))))))))
set_option maxHeartbeats 4000000 in
set_option maxRecDepth 100000 in
theorem t_M_open_B74 {d m : Nat} {ad : Nat → Nat} {h0 : gHp} {Q : Option gv → gHp → Prop} {res : Int32 × MS} (hQ : ∀ h', MR h0 h' m ad res.2 → Q (some (.inl res.1)) h') (n : Nat) (S : MS) (x1 : Int32) (x2 : Int32) (x3 : Int32) (x4 : Int32) (s0 : Int32) (s1 : Int32) (u5 : Option gv) (u6 : Option gv) (u7 : Option gv) (h : gHp) (hf : f_M_open_B74 n S x1 x2 x3 x4 s0 s1 = some res) (hM : MR h0 h m ad S) : gWP (gCall (d + 3)) m_M_open Q 74 [some (.inr (some m)), some (.inl x1), some (.inl x2), some (.inl x3), some (.inl x4), u5, u6, u7] [.inl s0, .inl s1] h 0 0 := by
  unfold f_M_open_B74 at hf
  refine w_iadd rfl ?_
  refine w_bipush (v := (60 : Int32)) rfl (by decide) ?_
  refine w_icmp (t := 89) rfl (by decide) (fun c1 => ?_) (fun c1 => ?_)
  · have c1 : (60 : Int32) < (s1 + s0) := c1
    rw [if_pos c1] at hf
    refine w_bipush (v := (-4 : Int32)) rfl (by decide) ?_
    cases hf
    exact w_ireturn rfl (int_ret _) (Nat.le_refl _) (Nat.le_refl _) (hQ _ hM)
  · have c1 : ¬ ((60 : Int32) < (s1 + s0)) := c1
    rw [if_neg c1] at hf
    refine w_aload_n rfl rfl ?_
    obtain ⟨q2, hc, hf⟩ := g_bind hf
    refine w_virtual [] _ rfl rfl rfl rfl (Nat.le_of_ble_eq_true rfl) hM.1 rfl (Nat.le_of_ble_eq_true rfl) (Nat.le_of_ble_eq_true rfl) (t_M_leaves (d := d + 2) hc hM (fun h hM => ?_))
    refine w_bipush (v := (12 : Int32)) rfl (by decide) ?_
    refine w_icmp (t := 92) rfl (by decide) (fun c3 => ?_) (fun c3 => ?_)
    · have c3 : ¬ (q2.1 = (12 : Int32)) := c3
      rw [if_neg c3] at hf
      refine w_aload_n rfl rfl ?_
      refine w_iload rfl rfl ?_
      obtain ⟨q4, hc, hf⟩ := g_bind hf
      refine w_virtual [_] _ rfl rfl rfl rfl (Nat.le_of_ble_eq_true rfl) hM.1 rfl (Nat.le_of_ble_eq_true rfl) (Nat.le_of_ble_eq_true rfl) (t_M_make (d := d + 2) hc hM (fun h hM => ?_))
      refine w_istore rfl (Nat.le_of_ble_eq_true rfl) rfl ?_
      refine w_iload_n rfl rfl ?_
      refine w_if (t := 113) rfl (by decide) (fun c5 => ?_) (fun c5 => ?_)
      · have c5 : ¬ (x1 = (0 : Int32)) := c5
        rw [if_neg c5] at hf
        refine w_aload_n rfl rfl ?_
        refine w_iconst (v := (4 : Int32)) rfl (by decide) ?_
        obtain ⟨q6, hc, hf⟩ := g_bind hf
        refine w_virtual [_] _ rfl rfl rfl rfl (Nat.le_of_ble_eq_true rfl) hM.1 rfl (Nat.le_of_ble_eq_true rfl) (Nat.le_of_ble_eq_true rfl) (t_M_make (d := d + 2) hc hM (fun h hM => ?_))
        refine w_istore rfl (Nat.le_of_ble_eq_true rfl) rfl ?_
        refine w_aload_n rfl rfl ?_
        refine m_getR hM rfl rfl rfl (by decide) ?_
        refine w_iload rfl rfl ?_
        refine w_iload_n rfl rfl ?_
        obtain ⟨hb, hf⟩ := g_guard hf
        refine m_st hM rfl rfl (by decide) rfl hb (fun h hM => ?_)
        refine w_aload_n rfl rfl ?_
        refine m_getR hM rfl rfl rfl (by decide) ?_
        refine w_iload rfl rfl ?_
        refine w_iload_n rfl rfl ?_
        obtain ⟨hb, hf⟩ := g_guard hf
        refine m_st hM rfl rfl (by decide) rfl hb (fun h hM => ?_)
        refine w_aload_n rfl rfl ?_
        refine m_getR hM rfl rfl rfl (by decide) ?_
        refine w_iload rfl rfl ?_
        refine w_iload rfl rfl ?_
        obtain ⟨hb, hf⟩ := g_guard hf
        refine m_st hM rfl rfl (by decide) rfl hb (fun h hM => ?_)
        refine w_aload_n rfl rfl ?_
        refine w_iload rfl rfl ?_
        refine w_iload_n rfl rfl ?_
        obtain ⟨q7, hc, hf⟩ := g_bind hf
        refine w_virtual [_, _] _ rfl rfl rfl rfl (Nat.le_of_ble_eq_true rfl) hM.1 rfl (Nat.le_of_ble_eq_true rfl) (Nat.le_of_ble_eq_true rfl) (t_M_put (d := d + 2) hc hM (fun h hM => ?_))
        refine w_iload_n rfl rfl ?_
        refine w_iconst (v := (1 : Int32)) rfl (by decide) ?_
        refine w_iand rfl ?_
        refine w_if (t := 162) rfl (by decide) (fun c8 => ?_) (fun c8 => ?_)
        · have c8 : ¬ ((x2 &&& (1 : Int32)) = (0 : Int32)) := c8
          rw [if_neg c8] at hf
          refine w_iconst (v := (0 : Int32)) rfl (by decide) ?_
          exact t_M_open_B163  hQ _ _ (x1) (q4.1) (q6.1) ((0 : Int32)) _ _ _ _ _ hf hM
        · have c8 : (x2 &&& (1 : Int32)) = (0 : Int32) := Classical.not_not.mp c8
          rw [if_pos c8] at hf
          refine w_iconst (v := (1 : Int32)) rfl (by decide) ?_
          refine w_goto (t := 163) rfl (by decide) ?_
          exact t_M_open_B163  hQ _ _ (x1) (q4.1) (q6.1) ((1 : Int32)) _ _ _ _ _ hf hM
      · have c5 : x1 = (0 : Int32) := Classical.not_not.mp c5
        rw [if_pos c5] at hf
        refine w_aload_n rfl rfl ?_
        refine w_iload rfl rfl ?_
        refine m_putI hM rfl rfl rfl rfl (nar_int _) (fun h hM => ?_)
        refine w_goto (t := 218) rfl (by decide) ?_
        refine w_aload_n rfl rfl ?_
        obtain ⟨q6, hc, hf⟩ := g_bind hf
        refine w_virtual [] _ rfl rfl rfl rfl (Nat.le_of_ble_eq_true rfl) hM.1 rfl (Nat.le_of_ble_eq_true rfl) (Nat.le_of_ble_eq_true rfl) (t_M_arrangeAll (d := d + 0) hc hM (fun h hM => ?_))
        refine w_iload rfl rfl ?_
        cases hf
        exact w_ireturn rfl (int_ret _) (Nat.le_refl _) (Nat.le_refl _) (hQ _ hM)
    · have c3 : q2.1 = (12 : Int32) := Classical.not_not.mp c3
      rw [if_pos c3] at hf
      refine w_bipush (v := (-4 : Int32)) rfl (by decide) ?_
      cases hf
      exact w_ireturn rfl (int_ret _) (Nat.le_refl _) (Nat.le_refl _) (hQ _ hM)
def f_M_open_B61 (n : Nat) (S : MS) (x1 : Int32) (x2 : Int32) (x3 : Int32) (x4 : Int32) : Option (Int32 × MS) := (if x1 = (0 : Int32) then f_M_open_B74  n (S) (x1) (x2) (x3) (x4) ((1 : Int32)) ((S).1 2) else f_M_open_B74  n (S) (x1) (x2) (x3) (x4) ((2 : Int32)) ((S).1 2))
set_option maxHeartbeats 4000000 in
set_option maxRecDepth 100000 in
theorem t_M_open_B61 {d m : Nat} {ad : Nat → Nat} {h0 : gHp} {Q : Option gv → gHp → Prop} {res : Int32 × MS} (hQ : ∀ h', MR h0 h' m ad res.2 → Q (some (.inl res.1)) h') (n : Nat) (S : MS) (x1 : Int32) (x2 : Int32) (x3 : Int32) (x4 : Int32) (u5 : Option gv) (u6 : Option gv) (u7 : Option gv) (h : gHp) (hf : f_M_open_B61 n S x1 x2 x3 x4  = some res) (hM : MR h0 h m ad S) : gWP (gCall (d + 3)) m_M_open Q 61 [some (.inr (some m)), some (.inl x1), some (.inl x2), some (.inl x3), some (.inl x4), u5, u6, u7] [] h 0 0 := by
  unfold f_M_open_B61 at hf
  refine w_aload_n rfl rfl ?_
  refine m_getI hM rfl rfl rfl ?_
  refine w_iload_n rfl rfl ?_
  refine w_if (t := 73) rfl (by decide) (fun c1 => ?_) (fun c1 => ?_)
  · have c1 : ¬ (x1 = (0 : Int32)) := c1
    rw [if_neg c1] at hf
    refine w_iconst (v := (2 : Int32)) rfl (by decide) ?_
    exact t_M_open_B74  hQ _ _ (x1) (x2) (x3) (x4) ((2 : Int32)) ((S).1 2) _ _ _ _ hf hM
  · have c1 : x1 = (0 : Int32) := Classical.not_not.mp c1
    rw [if_pos c1] at hf
    refine w_iconst (v := (1 : Int32)) rfl (by decide) ?_
    refine w_goto (t := 74) rfl (by decide) ?_
    exact t_M_open_B74  hQ _ _ (x1) (x2) (x3) (x4) ((1 : Int32)) ((S).1 2) _ _ _ _ hf hM
def f_M_open_B21 (n : Nat) (S : MS) (x1 : Int32) (x2 : Int32) (x3 : Int32) (x4 : Int32) : Option (Int32 × MS) := ((f_M_in n (S) (x4) ((0 : Int32)) ((3 : Int32))).bind (fun q1 => (if q1.1 = (0 : Int32) then some ((-1 : Int32), q1.2) else (if x1 = (0 : Int32) then (if ((q1.2).1 3) ≤ (0 : Int32) then f_M_open_B61  n (q1.2) (x1) (x2) (x3) (x4)  else some ((-3 : Int32), q1.2)) else (if (x2 &&& (4 : Int32)) = (0 : Int32) then (if x4 = (0 : Int32) then some ((-3 : Int32), q1.2) else f_M_open_B61  n (q1.2) (x1) (x2) (x3) (x4) ) else f_M_open_B61  n (q1.2) (x1) (x2) (x3) (x4) )))))
set_option maxHeartbeats 4000000 in
set_option maxRecDepth 100000 in
theorem t_M_open_B21 {d m : Nat} {ad : Nat → Nat} {h0 : gHp} {Q : Option gv → gHp → Prop} {res : Int32 × MS} (hQ : ∀ h', MR h0 h' m ad res.2 → Q (some (.inl res.1)) h') (n : Nat) (S : MS) (x1 : Int32) (x2 : Int32) (x3 : Int32) (x4 : Int32) (u5 : Option gv) (u6 : Option gv) (u7 : Option gv) (h : gHp) (hf : f_M_open_B21 n S x1 x2 x3 x4  = some res) (hM : MR h0 h m ad S) : gWP (gCall (d + 3)) m_M_open Q 21 [some (.inr (some m)), some (.inl x1), some (.inl x2), some (.inl x3), some (.inl x4), u5, u6, u7] [] h 0 0 := by
  unfold f_M_open_B21 at hf
  refine w_iload rfl rfl ?_
  refine w_iconst (v := (0 : Int32)) rfl (by decide) ?_
  refine w_iconst (v := (3 : Int32)) rfl (by decide) ?_
  obtain ⟨q1, hc, hf⟩ := g_bind hf
  refine w_static [_, _, _] _ rfl rfl rfl rfl (Nat.le_of_ble_eq_true rfl) (Nat.le_of_ble_eq_true rfl) (Nat.le_of_ble_eq_true rfl) (t_M_in (d := d + 2) hc hM (fun h hM => ?_))
  refine w_if (t := 33) rfl (by decide) (fun c2 => ?_) (fun c2 => ?_)
  · have c2 : ¬ (q1.1 = (0 : Int32)) := c2
    rw [if_neg c2] at hf
    refine w_iload_n rfl rfl ?_
    refine w_if (t := 47) rfl (by decide) (fun c3 => ?_) (fun c3 => ?_)
    · have c3 : ¬ (x1 = (0 : Int32)) := c3
      rw [if_neg c3] at hf
      refine w_iload_n rfl rfl ?_
      refine w_iconst (v := (4 : Int32)) rfl (by decide) ?_
      refine w_iand rfl ?_
      refine w_if (t := 61) rfl (by decide) (fun c4 => ?_) (fun c4 => ?_)
      · have c4 : ¬ ((x2 &&& (4 : Int32)) = (0 : Int32)) := c4
        rw [if_neg c4] at hf
        exact t_M_open_B61  hQ _ _ (x1) (x2) (x3) (x4)  _ _ _ _ hf hM
      · have c4 : (x2 &&& (4 : Int32)) = (0 : Int32) := Classical.not_not.mp c4
        rw [if_pos c4] at hf
        refine w_iload rfl rfl ?_
        refine w_if (t := 61) rfl (by decide) (fun c5 => ?_) (fun c5 => ?_)
        · have c5 : ¬ (x4 = (0 : Int32)) := c5
          rw [if_neg c5] at hf
          exact t_M_open_B61  hQ _ _ (x1) (x2) (x3) (x4)  _ _ _ _ hf hM
        · have c5 : x4 = (0 : Int32) := Classical.not_not.mp c5
          rw [if_pos c5] at hf
          refine w_bipush (v := (-3 : Int32)) rfl (by decide) ?_
          cases hf
          exact w_ireturn rfl (int_ret _) (Nat.le_refl _) (Nat.le_refl _) (hQ _ hM)
    · have c3 : x1 = (0 : Int32) := Classical.not_not.mp c3
      rw [if_pos c3] at hf
      refine w_aload_n rfl rfl ?_
      refine m_getI hM rfl rfl rfl ?_
      refine w_if (t := 61) rfl (by decide) (fun c4 => ?_) (fun c4 => ?_)
      · have c4 : ((q1.2).1 3) ≤ (0 : Int32) := c4
        rw [if_pos c4] at hf
        exact t_M_open_B61  hQ _ _ (x1) (x2) (x3) (x4)  _ _ _ _ hf hM
      · have c4 : ¬ (((q1.2).1 3) ≤ (0 : Int32)) := c4
        rw [if_neg c4] at hf
        refine w_goto (t := 58) rfl (by decide) ?_
        refine w_bipush (v := (-3 : Int32)) rfl (by decide) ?_
        cases hf
        exact w_ireturn rfl (int_ret _) (Nat.le_refl _) (Nat.le_refl _) (hQ _ hM)
  · have c2 : q1.1 = (0 : Int32) := Classical.not_not.mp c2
    rw [if_pos c2] at hf
    refine w_iconst (v := (-1 : Int32)) rfl (by decide) ?_
    cases hf
    exact w_ireturn rfl (int_ret _) (Nat.le_refl _) (Nat.le_refl _) (hQ _ hM)
def f_M_open (n : Nat) (S : MS) (x1 : Int32) (x2 : Int32) (x3 : Int32) (x4 : Int32) : Option (Int32 × MS) := (if x1 = (0 : Int32) then f_M_open_B21  n (S) (x1) (x2) (x3) (x4)  else ((f_M_isPane n (S) (x1)).bind (fun q2 => (if q2.1 = (0 : Int32) then some ((-1 : Int32), q2.2) else ((f_M_isMethod n (q2.2) (x2) (x3)).bind (fun q4 => (if q4.1 = (0 : Int32) then some ((-1 : Int32), q4.2) else f_M_open_B21  n (q4.2) (x1) (x2) (x3) (x4) )))))))
set_option maxHeartbeats 4000000 in
set_option maxRecDepth 100000 in
theorem t_M_open {d m n : Nat} {ad : Nat → Nat} {h0 h : gHp} {Q : Option gv → gHp → Prop} {S : MS} {x1 : Int32} {x2 : Int32} {x3 : Int32} {x4 : Int32} {res : Int32 × MS} (hf : f_M_open n S x1 x2 x3 x4 = some res) (hM : MR h0 h m ad S) (hQ : ∀ h', MR h0 h' m ad res.2 → Q (some (.inl res.1)) h') : gCall (d + 4) m_M_open [.inr (some m), .inl x1, .inl x2, .inl x3, .inl x4] h Q := by
  unfold f_M_open at hf
  refine g_enter (d := d + 3) (Nat.le_of_ble_eq_true rfl) ?_
  show gWP (gCall (d + 3)) m_M_open Q 0 [some (.inr (some m)), some (.inl x1), some (.inl x2), some (.inl x3), some (.inl x4), none, none, none] [] h 0 0
  refine w_iload_n rfl rfl ?_
  refine w_if (t := 21) rfl (by decide) (fun c1 => ?_) (fun c1 => ?_)
  · have c1 : x1 = (0 : Int32) := c1
    rw [if_pos c1] at hf
    exact t_M_open_B21  hQ _ _ (x1) (x2) (x3) (x4)  _ _ _ _ hf hM
  · have c1 : ¬ (x1 = (0 : Int32)) := c1
    rw [if_neg c1] at hf
    refine w_aload_n rfl rfl ?_
    refine w_iload_n rfl rfl ?_
    obtain ⟨q2, hc, hf⟩ := g_bind hf
    refine w_virtual [_] _ rfl rfl rfl rfl (Nat.le_of_ble_eq_true rfl) hM.1 rfl (Nat.le_of_ble_eq_true rfl) (Nat.le_of_ble_eq_true rfl) (t_M_isPane (d := d + 1) hc hM (fun h hM => ?_))
    refine w_if (t := 31) rfl (by decide) (fun c3 => ?_) (fun c3 => ?_)
    · have c3 : q2.1 = (0 : Int32) := c3
      rw [if_pos c3] at hf
      refine w_iconst (v := (-1 : Int32)) rfl (by decide) ?_
      cases hf
      exact w_ireturn rfl (int_ret _) (Nat.le_refl _) (Nat.le_refl _) (hQ _ hM)
    · have c3 : ¬ (q2.1 = (0 : Int32)) := c3
      rw [if_neg c3] at hf
      refine w_aload_n rfl rfl ?_
      refine w_iload_n rfl rfl ?_
      refine w_iload_n rfl rfl ?_
      obtain ⟨q4, hc, hf⟩ := g_bind hf
      refine w_virtual [_, _] _ rfl rfl rfl rfl (Nat.le_of_ble_eq_true rfl) hM.1 rfl (Nat.le_of_ble_eq_true rfl) (Nat.le_of_ble_eq_true rfl) (t_M_isMethod (d := d + 1) hc hM (fun h hM => ?_))
      refine w_if (t := 31) rfl (by decide) (fun c5 => ?_) (fun c5 => ?_)
      · have c5 : q4.1 = (0 : Int32) := c5
        rw [if_pos c5] at hf
        refine w_iconst (v := (-1 : Int32)) rfl (by decide) ?_
        cases hf
        exact w_ireturn rfl (int_ret _) (Nat.le_refl _) (Nat.le_refl _) (hQ _ hM)
      · have c5 : ¬ (q4.1 = (0 : Int32)) := c5
        rw [if_neg c5] at hf
        exact t_M_open_B21  hQ _ _ (x1) (x2) (x3) (x4)  _ _ _ _ hf hM
