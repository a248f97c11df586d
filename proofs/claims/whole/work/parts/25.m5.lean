def f_M_type_B33 (n : Nat) (S : MS) (x1 : Int32) (x2 : Int32) : Option (Int32 × MS) := (bif inB ((4 : Int32) * x1) 244 then (if ((S).2 21 (ix ((4 : Int32) * x1))) = (0 : Int32) then (bif inB (((4 : Int32) * x1) + (1 : Int32)) 244 then (if ((S).2 21 (ix (((4 : Int32) * x1) + (1 : Int32)))) = (0 : Int32) then some ((0 : Int32), S) else (if x2 = (10 : Int32) then (bif inB (((4 : Int32) * x1) + (1 : Int32)) 244 then (bif isZ ((0 : Int32)) then ((f_M_echoLine n ((S).a 21 (ix (((4 : Int32) * x1) + (1 : Int32))) ((0 : Int32))) (x1)).bind (fun q4 => (bif inB (x1) 61 then ((f_M_event_4 n (q4) ((1 : Int32)) (x1) ((q4).2 23 (ix (x1))) ((0 : Int32))).bind (fun q5 => some ((1 : Int32), q5))) else none))) else none) else none) else (if x2 = (8 : Int32) then (bif inB (x1) 61 then (bif inB (x1) 61 then (if ((S).2 23 (ix (x1))) ≤ (0 : Int32) then (bif inB (x1) 61 then some ((0 : Int32), (S).a 23 (ix (x1)) (((S).2 23 (ix (x1))) - (0 : Int32))) else none) else (bif inB (x1) 61 then some ((0 : Int32), (S).a 23 (ix (x1)) (((S).2 23 (ix (x1))) - (1 : Int32))) else none)) else none) else none) else (bif inB (x1) 61 then (bif inB (x1) 61 then (if ((S).2 22 (ix (x1))) ≤ ((S).2 23 (ix (x1))) then some ((0 : Int32), S) else (bif inB (x1) 61 then (bif inB (((40 : Int32) * x1) + ((S).2 23 (ix (x1)))) 2440 then (bif inB (x1) 61 then (bif inB (x1) 61 then some ((0 : Int32), ((S).a 24 (ix (((40 : Int32) * x1) + ((S).2 23 (ix (x1))))) (x2)).a 23 (ix (x1)) ((((S).a 24 (ix (((40 : Int32) * x1) + ((S).2 23 (ix (x1))))) (x2)).2 23 (ix (x1))) + (1 : Int32))) else none) else none) else none) else none)) else none) else none)))) else none) else (bif inB ((4 : Int32) * x1) 244 then (bif isZ ((0 : Int32)) then ((f_M_event_4 n ((S).a 21 (ix ((4 : Int32) * x1)) ((0 : Int32))) ((0 : Int32)) (x1) (x2) ((0 : Int32))).bind (fun q2 => some ((1 : Int32), q2))) else none) else none)) else none)
set_option maxHeartbeats 4000000 in
set_option maxRecDepth 100000 in
theorem t_M_type_B33 {d m : Nat} {ad : Nat → Nat} {h0 : gHp} {Q : Option gv → gHp → Prop} {res : Int32 × MS} (hQ : ∀ h', MR h0 h' m ad res.2 → Q (some (.inl res.1)) h') (n : Nat) (S : MS) (x1 : Int32) (x2 : Int32) (h : gHp) (hf : f_M_type_B33 n S x1 x2  = some res) (hM : MR h0 h m ad S) : gWP (gCall (d + 3)) m_M_type Q 33 [some (.inr (some m)), some (.inl x1), some (.inl x2)] [] h 0 0 := by
  unfold f_M_type_B33 at hf
  refine w_aload_n rfl rfl ?_
  refine m_getR hM rfl rfl rfl (by decide) ?_
  refine w_iconst (v := (4 : Int32)) rfl (by decide) ?_
  refine w_iload_n rfl rfl ?_
  refine w_imul rfl ?_
  obtain ⟨hb, hf⟩ := g_guard hf
  refine m_zld hM rfl rfl (by decide) rfl hb ?_
  refine w_if (t := 63) rfl (by decide) (fun c1 => ?_) (fun c1 => ?_)
  · have c1 : ((S).2 21 (ix ((4 : Int32) * x1))) = (0 : Int32) := c1
    rw [if_pos c1] at hf
    refine w_aload_n rfl rfl ?_
    refine m_getR hM rfl rfl rfl (by decide) ?_
    refine w_iconst (v := (4 : Int32)) rfl (by decide) ?_
    refine w_iload_n rfl rfl ?_
    refine w_imul rfl ?_
    refine w_iconst (v := (1 : Int32)) rfl (by decide) ?_
    refine w_iadd rfl ?_
    obtain ⟨hb, hf⟩ := g_guard hf
    refine m_zld hM rfl rfl (by decide) rfl hb ?_
    refine w_if (t := 78) rfl (by decide) (fun c2 => ?_) (fun c2 => ?_)
    · have c2 : ¬ (((S).2 21 (ix (((4 : Int32) * x1) + (1 : Int32)))) = (0 : Int32)) := c2
      rw [if_neg c2] at hf
      refine w_iload_n rfl rfl ?_
      refine w_bipush (v := (10 : Int32)) rfl (by decide) ?_
      refine w_icmp (t := 115) rfl (by decide) (fun c3 => ?_) (fun c3 => ?_)
      · have c3 : ¬ (x2 = (10 : Int32)) := c3
        rw [if_neg c3] at hf
        refine w_iload_n rfl rfl ?_
        refine w_bipush (v := (8 : Int32)) rfl (by decide) ?_
        refine w_icmp (t := 147) rfl (by decide) (fun c4 => ?_) (fun c4 => ?_)
        · have c4 : ¬ (x2 = (8 : Int32)) := c4
          rw [if_neg c4] at hf
          refine w_aload_n rfl rfl ?_
          refine m_getR hM rfl rfl rfl (by decide) ?_
          refine w_iload_n rfl rfl ?_
          obtain ⟨hb, hf⟩ := g_guard hf
          refine m_ld hM rfl rfl (by decide) rfl hb ?_
          refine w_aload_n rfl rfl ?_
          refine m_getR hM rfl rfl rfl (by decide) ?_
          refine w_iload_n rfl rfl ?_
          obtain ⟨hb, hf⟩ := g_guard hf
          refine m_ld hM rfl rfl (by decide) rfl hb ?_
          refine w_icmp (t := 189) rfl (by decide) (fun c5 => ?_) (fun c5 => ?_)
          · have c5 : ((S).2 22 (ix (x1))) ≤ ((S).2 23 (ix (x1))) := c5
            rw [if_pos c5] at hf
            refine w_iconst (v := (0 : Int32)) rfl (by decide) ?_
            cases hf
            exact w_ireturn rfl (int_ret _) (Nat.le_refl _) (Nat.le_refl _) (hQ _ hM)
          · have c5 : ¬ (((S).2 22 (ix (x1))) ≤ ((S).2 23 (ix (x1)))) := c5
            rw [if_neg c5] at hf
            refine w_aload_n rfl rfl ?_
            refine m_getR hM rfl rfl rfl (by decide) ?_
            refine w_bipush (v := (40 : Int32)) rfl (by decide) ?_
            refine w_iload_n rfl rfl ?_
            refine w_imul rfl ?_
            refine w_aload_n rfl rfl ?_
            refine m_getR hM rfl rfl rfl (by decide) ?_
            refine w_iload_n rfl rfl ?_
            obtain ⟨hb, hf⟩ := g_guard hf
            refine m_ld hM rfl rfl (by decide) rfl hb ?_
            refine w_iadd rfl ?_
            refine w_iload_n rfl rfl ?_
            obtain ⟨hb, hf⟩ := g_guard hf
            refine m_st hM rfl rfl (by decide) rfl hb (fun h hM => ?_)
            refine w_aload_n rfl rfl ?_
            refine m_getR hM rfl rfl rfl (by decide) ?_
            refine w_iload_n rfl rfl ?_
            refine w_dup2 rfl ?_
            obtain ⟨hb, hf⟩ := g_guard hf
            refine m_ld hM rfl rfl (by decide) rfl hb ?_
            refine w_iconst (v := (1 : Int32)) rfl (by decide) ?_
            refine w_iadd rfl ?_
            obtain ⟨hb, hf⟩ := g_guard hf
            refine m_st hM rfl rfl (by decide) rfl hb (fun h hM => ?_)
            refine w_iconst (v := (0 : Int32)) rfl (by decide) ?_
            cases hf
            exact w_ireturn rfl (int_ret _) (Nat.le_refl _) (Nat.le_refl _) (hQ _ hM)
        · have c4 : x2 = (8 : Int32) := Classical.not_not.mp c4
          rw [if_pos c4] at hf
          refine w_aload_n rfl rfl ?_
          refine m_getR hM rfl rfl rfl (by decide) ?_
          refine w_iload_n rfl rfl ?_
          refine w_dup2 rfl ?_
          obtain ⟨hb, hf⟩ := g_guard hf
          refine m_ld hM rfl rfl (by decide) rfl hb ?_
          refine w_aload_n rfl rfl ?_
          refine m_getR hM rfl rfl rfl (by decide) ?_
          refine w_iload_n rfl rfl ?_
          obtain ⟨hb, hf⟩ := g_guard hf
          refine m_ld hM rfl rfl (by decide) rfl hb ?_
          refine w_if (t := 141) rfl (by decide) (fun c5 => ?_) (fun c5 => ?_)
          · have c5 : ((S).2 23 (ix (x1))) ≤ (0 : Int32) := c5
            rw [if_pos c5] at hf
            refine w_iconst (v := (0 : Int32)) rfl (by decide) ?_
            refine w_isub rfl ?_
            obtain ⟨hb, hf⟩ := g_guard hf
            refine m_st hM rfl rfl (by decide) rfl hb (fun h hM => ?_)
            refine w_goto (t := 189) rfl (by decide) ?_
            refine w_iconst (v := (0 : Int32)) rfl (by decide) ?_
            cases hf
            exact w_ireturn rfl (int_ret _) (Nat.le_refl _) (Nat.le_refl _) (hQ _ hM)
          · have c5 : ¬ (((S).2 23 (ix (x1))) ≤ (0 : Int32)) := c5
            rw [if_neg c5] at hf
            refine w_iconst (v := (1 : Int32)) rfl (by decide) ?_
            refine w_goto (t := 142) rfl (by decide) ?_
            refine w_isub rfl ?_
            obtain ⟨hb, hf⟩ := g_guard hf
            refine m_st hM rfl rfl (by decide) rfl hb (fun h hM => ?_)
            refine w_goto (t := 189) rfl (by decide) ?_
            refine w_iconst (v := (0 : Int32)) rfl (by decide) ?_
            cases hf
            exact w_ireturn rfl (int_ret _) (Nat.le_refl _) (Nat.le_refl _) (hQ _ hM)
      · have c3 : x2 = (10 : Int32) := Classical.not_not.mp c3
        rw [if_pos c3] at hf
        refine w_aload_n rfl rfl ?_
        refine m_getR hM rfl rfl rfl (by decide) ?_
        refine w_iconst (v := (4 : Int32)) rfl (by decide) ?_
        refine w_iload_n rfl rfl ?_
        refine w_imul rfl ?_
        refine w_iconst (v := (1 : Int32)) rfl (by decide) ?_
        refine w_iadd rfl ?_
        refine w_iconst (v := (0 : Int32)) rfl (by decide) ?_
        obtain ⟨hb, hf⟩ := g_guard hf
        obtain ⟨hz, hf⟩ := g_guard hf
        refine m_zst hM rfl rfl (by decide) rfl hb hz (fun h hM => ?_)
        refine w_aload_n rfl rfl ?_
        refine w_iload_n rfl rfl ?_
        obtain ⟨q4, hc, hf⟩ := g_bind hf
        refine w_virtual [_] _ rfl rfl rfl rfl (Nat.le_of_ble_eq_true rfl) hM.1 rfl (Nat.le_of_ble_eq_true rfl) (Nat.le_of_ble_eq_true rfl) (t_M_echoLine (d := d + 0) hc hM (fun h hM => ?_))
        refine w_aload_n rfl rfl ?_
        refine w_iconst (v := (1 : Int32)) rfl (by decide) ?_
        refine w_iload_n rfl rfl ?_
        refine w_aload_n rfl rfl ?_
        refine m_getR hM rfl rfl rfl (by decide) ?_
        refine w_iload_n rfl rfl ?_
        obtain ⟨hb, hf⟩ := g_guard hf
        refine m_ld hM rfl rfl (by decide) rfl hb ?_
        refine w_iconst (v := (0 : Int32)) rfl (by decide) ?_
        obtain ⟨q5, hc, hf⟩ := g_bind hf
        refine w_virtual [_, _, _, _] _ rfl rfl rfl rfl (Nat.le_of_ble_eq_true rfl) hM.1 rfl (Nat.le_of_ble_eq_true rfl) (Nat.le_of_ble_eq_true rfl) (t_M_event_4 (d := d + 0) hc hM (fun h hM => ?_))
        refine w_iconst (v := (1 : Int32)) rfl (by decide) ?_
        cases hf
        exact w_ireturn rfl (int_ret _) (Nat.le_refl _) (Nat.le_refl _) (hQ _ hM)
    · have c2 : ((S).2 21 (ix (((4 : Int32) * x1) + (1 : Int32)))) = (0 : Int32) := Classical.not_not.mp c2
      rw [if_pos c2] at hf
      refine w_iconst (v := (0 : Int32)) rfl (by decide) ?_
      cases hf
      exact w_ireturn rfl (int_ret _) (Nat.le_refl _) (Nat.le_refl _) (hQ _ hM)
  · have c1 : ¬ (((S).2 21 (ix ((4 : Int32) * x1))) = (0 : Int32)) := c1
    rw [if_neg c1] at hf
    refine w_aload_n rfl rfl ?_
    refine m_getR hM rfl rfl rfl (by decide) ?_
    refine w_iconst (v := (4 : Int32)) rfl (by decide) ?_
    refine w_iload_n rfl rfl ?_
    refine w_imul rfl ?_
    refine w_iconst (v := (0 : Int32)) rfl (by decide) ?_
    obtain ⟨hb, hf⟩ := g_guard hf
    obtain ⟨hz, hf⟩ := g_guard hf
    refine m_zst hM rfl rfl (by decide) rfl hb hz (fun h hM => ?_)
    refine w_aload_n rfl rfl ?_
    refine w_iconst (v := (0 : Int32)) rfl (by decide) ?_
    refine w_iload_n rfl rfl ?_
    refine w_iload_n rfl rfl ?_
    refine w_iconst (v := (0 : Int32)) rfl (by decide) ?_
    obtain ⟨q2, hc, hf⟩ := g_bind hf
    refine w_virtual [_, _, _, _] _ rfl rfl rfl rfl (Nat.le_of_ble_eq_true rfl) hM.1 rfl (Nat.le_of_ble_eq_true rfl) (Nat.le_of_ble_eq_true rfl) (t_M_event_4 (d := d + 0) hc hM (fun h hM => ?_))
    refine w_iconst (v := (1 : Int32)) rfl (by decide) ?_
    cases hf
    exact w_ireturn rfl (int_ret _) (Nat.le_refl _) (Nat.le_refl _) (hQ _ hM)
def f_M_type (n : Nat) (S : MS) (x1 : Int32) (x2 : Int32) : Option (Int32 × MS) := ((f_M_isPane n (S) (x1)).bind (fun q1 => (if q1.1 = (0 : Int32) then some ((-1 : Int32), q1.2) else (if x2 = (8 : Int32) then f_M_type_B33  n (q1.2) (x1) (x2)  else (if x2 = (10 : Int32) then f_M_type_B33  n (q1.2) (x1) (x2)  else ((f_M_in n (q1.2) (x2) ((32 : Int32)) ((126 : Int32))).bind (fun q5 => (if q5.1 = (0 : Int32) then some ((-1 : Int32), q5.2) else f_M_type_B33  n (q5.2) (x1) (x2) ))))))))
set_option maxHeartbeats 4000000 in
set_option maxRecDepth 100000 in
theorem t_M_type {d m n : Nat} {ad : Nat → Nat} {h0 h : gHp} {Q : Option gv → gHp → Prop} {S : MS} {x1 : Int32} {x2 : Int32} {res : Int32 × MS} (hf : f_M_type n S x1 x2 = some res) (hM : MR h0 h m ad S) (hQ : ∀ h', MR h0 h' m ad res.2 → Q (some (.inl res.1)) h') : gCall (d + 4) m_M_type [.inr (some m), .inl x1, .inl x2] h Q := by
  unfold f_M_type at hf
  refine g_enter (d := d + 3) (Nat.le_of_ble_eq_true rfl) ?_
  show gWP (gCall (d + 3)) m_M_type Q 0 [some (.inr (some m)), some (.inl x1), some (.inl x2)] [] h 0 0
  refine w_aload_n rfl rfl ?_
  refine w_iload_n rfl rfl ?_
  obtain ⟨q1, hc, hf⟩ := g_bind hf
  refine w_virtual [_] _ rfl rfl rfl rfl (Nat.le_of_ble_eq_true rfl) hM.1 rfl (Nat.le_of_ble_eq_true rfl) (Nat.le_of_ble_eq_true rfl) (t_M_isPane (d := d + 1) hc hM (fun h hM => ?_))
  refine w_if (t := 31) rfl (by decide) (fun c2 => ?_) (fun c2 => ?_)
  · have c2 : q1.1 = (0 : Int32) := c2
    rw [if_pos c2] at hf
    refine w_iconst (v := (-1 : Int32)) rfl (by decide) ?_
    cases hf
    exact w_ireturn rfl (int_ret _) (Nat.le_refl _) (Nat.le_refl _) (hQ _ hM)
  · have c2 : ¬ (q1.1 = (0 : Int32)) := c2
    rw [if_neg c2] at hf
    refine w_iload_n rfl rfl ?_
    refine w_bipush (v := (8 : Int32)) rfl (by decide) ?_
    refine w_icmp (t := 33) rfl (by decide) (fun c3 => ?_) (fun c3 => ?_)
    · have c3 : x2 = (8 : Int32) := c3
      rw [if_pos c3] at hf
      exact t_M_type_B33  hQ _ _ (x1) (x2)   _ hf hM
    · have c3 : ¬ (x2 = (8 : Int32)) := c3
      rw [if_neg c3] at hf
      refine w_iload_n rfl rfl ?_
      refine w_bipush (v := (10 : Int32)) rfl (by decide) ?_
      refine w_icmp (t := 33) rfl (by decide) (fun c4 => ?_) (fun c4 => ?_)
      · have c4 : x2 = (10 : Int32) := c4
        rw [if_pos c4] at hf
        exact t_M_type_B33  hQ _ _ (x1) (x2)   _ hf hM
      · have c4 : ¬ (x2 = (10 : Int32)) := c4
        rw [if_neg c4] at hf
        refine w_iload_n rfl rfl ?_
        refine w_bipush (v := (32 : Int32)) rfl (by decide) ?_
        refine w_bipush (v := (126 : Int32)) rfl (by decide) ?_
        obtain ⟨q5, hc, hf⟩ := g_bind hf
        refine w_static [_, _, _] _ rfl rfl rfl rfl (Nat.le_of_ble_eq_true rfl) (Nat.le_of_ble_eq_true rfl) (Nat.le_of_ble_eq_true rfl) (t_M_in (d := d + 2) hc hM (fun h hM => ?_))
        refine w_if (t := 33) rfl (by decide) (fun c6 => ?_) (fun c6 => ?_)
        · have c6 : ¬ (q5.1 = (0 : Int32)) := c6
          rw [if_neg c6] at hf
          exact t_M_type_B33  hQ _ _ (x1) (x2)   _ hf hM
        · have c6 : q5.1 = (0 : Int32) := Classical.not_not.mp c6
          rw [if_pos c6] at hf
          refine w_iconst (v := (-1 : Int32)) rfl (by decide) ?_
          cases hf
          exact w_ireturn rfl (int_ret _) (Nat.le_refl _) (Nat.le_refl _) (hQ _ hM)
def f_M_resize_B109 : Nat → MS → Int32 → Int32 → Option (Int32 × MS)
  | 0, _, _, _ => none
  | n + 1, S, x3, x4 => (if ((S).1 2) < x4 then ((f_M_event_4 n (S) ((4 : Int32)) ((0 : Int32)) ((S).1 0) ((S).1 1)).bind (fun q2 => some (x3, q2))) else (bif inB ((4 : Int32) * x4) 244 then (bif inB (x4) 61 then (if ((S).2 37 (ix ((4 : Int32) * x4))) = ((S).2 12 (ix (x4))) then (bif inB (((4 : Int32) * x4) + (1 : Int32)) 244 then (bif inB (x4) 61 then (if ((S).2 37 (ix (((4 : Int32) * x4) + (1 : Int32)))) = ((S).2 13 (ix (x4))) then (bif inB (((4 : Int32) * x4) + (2 : Int32)) 244 then (bif inB (x4) 61 then (if ((S).2 37 (ix (((4 : Int32) * x4) + (2 : Int32)))) = ((S).2 14 (ix (x4))) then (bif inB (((4 : Int32) * x4) + (3 : Int32)) 244 then (bif inB (x4) 61 then (if ((S).2 37 (ix (((4 : Int32) * x4) + (3 : Int32)))) = ((S).2 15 (ix (x4))) then (bif inB (x4) 61 then (if ((S).2 4 (ix (x4))) = (0 : Int32) then f_M_resize_B109 n (S) (x3 + (0 : Int32)) (x4 + (1 : Int32)) else (if (1 : Int32) = (0 : Int32) then f_M_resize_B109 n (S) (x3 + (1 : Int32)) (x4 + (1 : Int32)) else f_M_resize_B109 n (S) (x3 + (0 : Int32)) (x4 + (1 : Int32)))) else none) else (bif inB (x4) 61 then (if ((S).2 4 (ix (x4))) = (0 : Int32) then f_M_resize_B109 n (S) (x3 + (0 : Int32)) (x4 + (1 : Int32)) else (if (0 : Int32) = (0 : Int32) then f_M_resize_B109 n (S) (x3 + (1 : Int32)) (x4 + (1 : Int32)) else f_M_resize_B109 n (S) (x3 + (0 : Int32)) (x4 + (1 : Int32)))) else none)) else none) else none) else (bif inB (x4) 61 then (if ((S).2 4 (ix (x4))) = (0 : Int32) then f_M_resize_B109 n (S) (x3 + (0 : Int32)) (x4 + (1 : Int32)) else (if (0 : Int32) = (0 : Int32) then f_M_resize_B109 n (S) (x3 + (1 : Int32)) (x4 + (1 : Int32)) else f_M_resize_B109 n (S) (x3 + (0 : Int32)) (x4 + (1 : Int32)))) else none)) else none) else none) else (bif inB (x4) 61 then (if ((S).2 4 (ix (x4))) = (0 : Int32) then f_M_resize_B109 n (S) (x3 + (0 : Int32)) (x4 + (1 : Int32)) else (if (0 : Int32) = (0 : Int32) then f_M_resize_B109 n (S) (x3 + (1 : Int32)) (x4 + (1 : Int32)) else f_M_resize_B109 n (S) (x3 + (0 : Int32)) (x4 + (1 : Int32)))) else none)) else none) else none) else (bif inB (x4) 61 then (if ((S).2 4 (ix (x4))) = (0 : Int32) then f_M_resize_B109 n (S) (x3 + (0 : Int32)) (x4 + (1 : Int32)) else (if (0 : Int32) = (0 : Int32) then f_M_resize_B109 n (S) (x3 + (1 : Int32)) (x4 + (1 : Int32)) else f_M_resize_B109 n (S) (x3 + (0 : Int32)) (x4 + (1 : Int32)))) else none)) else none) else none))
set_option maxHeartbeats 4000000 in
set_option maxRecDepth 100000 in
theorem t_M_resize_B109 {d m : Nat} {ad : Nat → Nat} {h0 : gHp} {Q : Option gv → gHp → Prop} {res : Int32 × MS} (hQ : ∀ h', MR h0 h' m ad res.2 → Q (some (.inl res.1)) h') : ∀ (n : Nat) (S : MS) (x3 : Int32) (x4 : Int32) (u1 : Option gv) (u2 : Option gv) (u5 : Option gv) (h : gHp), f_M_resize_B109 n S x3 x4  = some res → MR h0 h m ad S → gWP (gCall (d + 3)) m_M_resize Q 109 [some (.inr (some m)), u1, u2, some (.inl x3), some (.inl x4), u5] [] h 0 0 := by
  intro n
  induction n with
  | zero =>
    intro S x3 x4  u1 u2 u5 h hf
    cases hf
  | succ n ih =>
    intro S x3 x4  u1 u2 u5 h hf hM
    unfold f_M_resize_B109 at hf
    refine w_iload rfl rfl ?_
    refine w_aload_n rfl rfl ?_
    refine m_getI hM rfl rfl rfl ?_
    refine w_icmp (t := 236) rfl (by decide) (fun c1 => ?_) (fun c1 => ?_)
    · have c1 : ((S).1 2) < x4 := c1
      rw [if_pos c1] at hf
      refine w_aload_n rfl rfl ?_
      refine w_iconst (v := (4 : Int32)) rfl (by decide) ?_
      refine w_iconst (v := (0 : Int32)) rfl (by decide) ?_
      refine w_aload_n rfl rfl ?_
      refine m_getI hM rfl rfl rfl ?_
      refine w_aload_n rfl rfl ?_
      refine m_getI hM rfl rfl rfl ?_
      obtain ⟨q2, hc, hf⟩ := g_bind hf
      refine w_virtual [_, _, _, _] _ rfl rfl rfl rfl (Nat.le_of_ble_eq_true rfl) hM.1 rfl (Nat.le_of_ble_eq_true rfl) (Nat.le_of_ble_eq_true rfl) (t_M_event_4 (d := d + 0) hc hM (fun h hM => ?_))
      refine w_iload_n rfl rfl ?_
      cases hf
      exact w_ireturn rfl (int_ret _) (Nat.le_refl _) (Nat.le_refl _) (hQ _ hM)
    · have c1 : ¬ (((S).1 2) < x4) := c1
      rw [if_neg c1] at hf
      refine w_aload_n rfl rfl ?_
      refine m_getR hM rfl rfl rfl (by decide) ?_
      refine w_iconst (v := (4 : Int32)) rfl (by decide) ?_
      refine w_iload rfl rfl ?_
      refine w_imul rfl ?_
      obtain ⟨hb, hf⟩ := g_guard hf
      refine m_ld hM rfl rfl (by decide) rfl hb ?_
      refine w_aload_n rfl rfl ?_
      refine m_getR hM rfl rfl rfl (by decide) ?_
      refine w_iload rfl rfl ?_
      obtain ⟨hb, hf⟩ := g_guard hf
      refine m_ld hM rfl rfl (by decide) rfl hb ?_
      refine w_icmp (t := 204) rfl (by decide) (fun c2 => ?_) (fun c2 => ?_)
      · have c2 : ¬ (((S).2 37 (ix ((4 : Int32) * x4))) = ((S).2 12 (ix (x4)))) := c2
        rw [if_neg c2] at hf
        refine w_iconst (v := (0 : Int32)) rfl (by decide) ?_
        refine w_istore rfl (Nat.le_of_ble_eq_true rfl) rfl ?_
        refine w_iload_n rfl rfl ?_
        refine w_aload_n rfl rfl ?_
        refine m_getR hM rfl rfl rfl (by decide) ?_
        refine w_iload rfl rfl ?_
        obtain ⟨hb, hf⟩ := g_guard hf
        refine m_zld hM rfl rfl (by decide) rfl hb ?_
        refine w_if (t := 227) rfl (by decide) (fun c3 => ?_) (fun c3 => ?_)
        · have c3 : ((S).2 4 (ix (x4))) = (0 : Int32) := c3
          rw [if_pos c3] at hf
          refine w_iconst (v := (0 : Int32)) rfl (by decide) ?_
          refine w_iadd rfl ?_
          refine w_istore_n rfl (Nat.le_of_ble_eq_true rfl) rfl ?_
          refine w_iinc (v := (1 : Int32)) rfl rfl (by decide) rfl ?_
          refine w_goto (t := 109) rfl (by decide) ?_
          exact ih _ (x3 + (0 : Int32)) (x4 + (1 : Int32)) _ _ _ _ hf hM
        · have c3 : ¬ (((S).2 4 (ix (x4))) = (0 : Int32)) := c3
          rw [if_neg c3] at hf
          refine w_iload rfl rfl ?_
          refine w_if (t := 227) rfl (by decide) (fun c4 => ?_) (fun c4 => ?_)
          · have c4 : ¬ ((0 : Int32) = (0 : Int32)) := c4
            rw [if_neg c4] at hf
            refine w_iconst (v := (0 : Int32)) rfl (by decide) ?_
            refine w_iadd rfl ?_
            refine w_istore_n rfl (Nat.le_of_ble_eq_true rfl) rfl ?_
            refine w_iinc (v := (1 : Int32)) rfl rfl (by decide) rfl ?_
            refine w_goto (t := 109) rfl (by decide) ?_
            exact ih _ (x3 + (0 : Int32)) (x4 + (1 : Int32)) _ _ _ _ hf hM
          · have c4 : (0 : Int32) = (0 : Int32) := Classical.not_not.mp c4
            rw [if_pos c4] at hf
            refine w_iconst (v := (1 : Int32)) rfl (by decide) ?_
            refine w_goto (t := 228) rfl (by decide) ?_
            refine w_iadd rfl ?_
            refine w_istore_n rfl (Nat.le_of_ble_eq_true rfl) rfl ?_
            refine w_iinc (v := (1 : Int32)) rfl rfl (by decide) rfl ?_
            refine w_goto (t := 109) rfl (by decide) ?_
            exact ih _ (x3 + (1 : Int32)) (x4 + (1 : Int32)) _ _ _ _ hf hM
      · have c2 : ((S).2 37 (ix ((4 : Int32) * x4))) = ((S).2 12 (ix (x4))) := Classical.not_not.mp c2
        rw [if_pos c2] at hf
        refine w_aload_n rfl rfl ?_
        refine m_getR hM rfl rfl rfl (by decide) ?_
        refine w_iconst (v := (4 : Int32)) rfl (by decide) ?_
        refine w_iload rfl rfl ?_
        refine w_imul rfl ?_
        refine w_iconst (v := (1 : Int32)) rfl (by decide) ?_
        refine w_iadd rfl ?_
        obtain ⟨hb, hf⟩ := g_guard hf
        refine m_ld hM rfl rfl (by decide) rfl hb ?_
        refine w_aload_n rfl rfl ?_
        refine m_getR hM rfl rfl rfl (by decide) ?_
        refine w_iload rfl rfl ?_
        obtain ⟨hb, hf⟩ := g_guard hf
        refine m_ld hM rfl rfl (by decide) rfl hb ?_
        refine w_icmp (t := 204) rfl (by decide) (fun c3 => ?_) (fun c3 => ?_)
        · have c3 : ¬ (((S).2 37 (ix (((4 : Int32) * x4) + (1 : Int32)))) = ((S).2 13 (ix (x4)))) := c3
          rw [if_neg c3] at hf
          refine w_iconst (v := (0 : Int32)) rfl (by decide) ?_
          refine w_istore rfl (Nat.le_of_ble_eq_true rfl) rfl ?_
          refine w_iload_n rfl rfl ?_
          refine w_aload_n rfl rfl ?_
          refine m_getR hM rfl rfl rfl (by decide) ?_
          refine w_iload rfl rfl ?_
          obtain ⟨hb, hf⟩ := g_guard hf
          refine m_zld hM rfl rfl (by decide) rfl hb ?_
          refine w_if (t := 227) rfl (by decide) (fun c4 => ?_) (fun c4 => ?_)
          · have c4 : ((S).2 4 (ix (x4))) = (0 : Int32) := c4
            rw [if_pos c4] at hf
            refine w_iconst (v := (0 : Int32)) rfl (by decide) ?_
            refine w_iadd rfl ?_
            refine w_istore_n rfl (Nat.le_of_ble_eq_true rfl) rfl ?_
            refine w_iinc (v := (1 : Int32)) rfl rfl (by decide) rfl ?_
            refine w_goto (t := 109) rfl (by decide) ?_
            exact ih _ (x3 + (0 : Int32)) (x4 + (1 : Int32)) _ _ _ _ hf hM
          · have c4 : ¬ (((S).2 4 (ix (x4))) = (0 : Int32)) := c4
            rw [if_neg c4] at hf
            refine w_iload rfl rfl ?_
            refine w_if (t := 227) rfl (by decide) (fun c5 => ?_) (fun c5 => ?_)
            · have c5 : ¬ ((0 : Int32) = (0 : Int32)) := c5
              rw [if_neg c5] at hf
              refine w_iconst (v := (0 : Int32)) rfl (by decide) ?_
              refine w_iadd rfl ?_
              refine w_istore_n rfl (Nat.le_of_ble_eq_true rfl) rfl ?_
              refine w_iinc (v := (1 : Int32)) rfl rfl (by decide) rfl ?_
              refine w_goto (t := 109) rfl (by decide) ?_
              exact ih _ (x3 + (0 : Int32)) (x4 + (1 : Int32)) _ _ _ _ hf hM
            · have c5 : (0 : Int32) = (0 : Int32) := Classical.not_not.mp c5
              rw [if_pos c5] at hf
              refine w_iconst (v := (1 : Int32)) rfl (by decide) ?_
              refine w_goto (t := 228) rfl (by decide) ?_
              refine w_iadd rfl ?_
              refine w_istore_n rfl (Nat.le_of_ble_eq_true rfl) rfl ?_
              refine w_iinc (v := (1 : Int32)) rfl rfl (by decide) rfl ?_
              refine w_goto (t := 109) rfl (by decide) ?_
              exact ih _ (x3 + (1 : Int32)) (x4 + (1 : Int32)) _ _ _ _ hf hM
        · have c3 : ((S).2 37 (ix (((4 : Int32) * x4) + (1 : Int32)))) = ((S).2 13 (ix (x4))) := Classical.not_not.mp c3
          rw [if_pos c3] at hf
          refine w_aload_n rfl rfl ?_
          refine m_getR hM rfl rfl rfl (by decide) ?_
          refine w_iconst (v := (4 : Int32)) rfl (by decide) ?_
          refine w_iload rfl rfl ?_
          refine w_imul rfl ?_
          refine w_iconst (v := (2 : Int32)) rfl (by decide) ?_
          refine w_iadd rfl ?_
          obtain ⟨hb, hf⟩ := g_guard hf
          refine m_ld hM rfl rfl (by decide) rfl hb ?_
          refine w_aload_n rfl rfl ?_
          refine m_getR hM rfl rfl rfl (by decide) ?_
          refine w_iload rfl rfl ?_
          obtain ⟨hb, hf⟩ := g_guard hf
          refine m_ld hM rfl rfl (by decide) rfl hb ?_
          refine w_icmp (t := 204) rfl (by decide) (fun c4 => ?_) (fun c4 => ?_)
          · have c4 : ¬ (((S).2 37 (ix (((4 : Int32) * x4) + (2 : Int32)))) = ((S).2 14 (ix (x4)))) := c4
            rw [if_neg c4] at hf
            refine w_iconst (v := (0 : Int32)) rfl (by decide) ?_
            refine w_istore rfl (Nat.le_of_ble_eq_true rfl) rfl ?_
            refine w_iload_n rfl rfl ?_
            refine w_aload_n rfl rfl ?_
            refine m_getR hM rfl rfl rfl (by decide) ?_
            refine w_iload rfl rfl ?_
            obtain ⟨hb, hf⟩ := g_guard hf
            refine m_zld hM rfl rfl (by decide) rfl hb ?_
            refine w_if (t := 227) rfl (by decide) (fun c5 => ?_) (fun c5 => ?_)
            · have c5 : ((S).2 4 (ix (x4))) = (0 : Int32) := c5
              rw [if_pos c5] at hf
              refine w_iconst (v := (0 : Int32)) rfl (by decide) ?_
              refine w_iadd rfl ?_
              refine w_istore_n rfl (Nat.le_of_ble_eq_true rfl) rfl ?_
              refine w_iinc (v := (1 : Int32)) rfl rfl (by decide) rfl ?_
              refine w_goto (t := 109) rfl (by decide) ?_
              exact ih _ (x3 + (0 : Int32)) (x4 + (1 : Int32)) _ _ _ _ hf hM
            · have c5 : ¬ (((S).2 4 (ix (x4))) = (0 : Int32)) := c5
              rw [if_neg c5] at hf
              refine w_iload rfl rfl ?_
              refine w_if (t := 227) rfl (by decide) (fun c6 => ?_) (fun c6 => ?_)
              · have c6 : ¬ ((0 : Int32) = (0 : Int32)) := c6
                rw [if_neg c6] at hf
                refine w_iconst (v := (0 : Int32)) rfl (by decide) ?_
                refine w_iadd rfl ?_
                refine w_istore_n rfl (Nat.le_of_ble_eq_true rfl) rfl ?_
                refine w_iinc (v := (1 : Int32)) rfl rfl (by decide) rfl ?_
                refine w_goto (t := 109) rfl (by decide) ?_
                exact ih _ (x3 + (0 : Int32)) (x4 + (1 : Int32)) _ _ _ _ hf hM
              · have c6 : (0 : Int32) = (0 : Int32) := Classical.not_not.mp c6
                rw [if_pos c6] at hf
                refine w_iconst (v := (1 : Int32)) rfl (by decide) ?_
                refine w_goto (t := 228) rfl (by decide) ?_
                refine w_iadd rfl ?_
                refine w_istore_n rfl (Nat.le_of_ble_eq_true rfl) rfl ?_
                refine w_iinc (v := (1 : Int32)) rfl rfl (by decide) rfl ?_
                refine w_goto (t := 109) rfl (by decide) ?_
                exact ih _ (x3 + (1 : Int32)) (x4 + (1 : Int32)) _ _ _ _ hf hM
          · have c4 : ((S).2 37 (ix (((4 : Int32) * x4) + (2 : Int32)))) = ((S).2 14 (ix (x4))) := Classical.not_not.mp c4
            rw [if_pos c4] at hf
            refine w_aload_n rfl rfl ?_
            refine m_getR hM rfl rfl rfl (by decide) ?_
            refine w_iconst (v := (4 : Int32)) rfl (by decide) ?_
            refine w_iload rfl rfl ?_
            refine w_imul rfl ?_
            refine w_iconst (v := (3 : Int32)) rfl (by decide) ?_
            refine w_iadd rfl ?_
            obtain ⟨hb, hf⟩ := g_guard hf
            refine m_ld hM rfl rfl (by decide) rfl hb ?_
            refine w_aload_n rfl rfl ?_
            refine m_getR hM rfl rfl rfl (by decide) ?_
            refine w_iload rfl rfl ?_
            obtain ⟨hb, hf⟩ := g_guard hf
            refine m_ld hM rfl rfl (by decide) rfl hb ?_
            refine w_icmp (t := 204) rfl (by decide) (fun c5 => ?_) (fun c5 => ?_)
            · have c5 : ¬ (((S).2 37 (ix (((4 : Int32) * x4) + (3 : Int32)))) = ((S).2 15 (ix (x4)))) := c5
              rw [if_neg c5] at hf
              refine w_iconst (v := (0 : Int32)) rfl (by decide) ?_
              refine w_istore rfl (Nat.le_of_ble_eq_true rfl) rfl ?_
              refine w_iload_n rfl rfl ?_
              refine w_aload_n rfl rfl ?_
              refine m_getR hM rfl rfl rfl (by decide) ?_
              refine w_iload rfl rfl ?_
              obtain ⟨hb, hf⟩ := g_guard hf
              refine m_zld hM rfl rfl (by decide) rfl hb ?_
              refine w_if (t := 227) rfl (by decide) (fun c6 => ?_) (fun c6 => ?_)
              · have c6 : ((S).2 4 (ix (x4))) = (0 : Int32) := c6
                rw [if_pos c6] at hf
                refine w_iconst (v := (0 : Int32)) rfl (by decide) ?_
                refine w_iadd rfl ?_
                refine w_istore_n rfl (Nat.le_of_ble_eq_true rfl) rfl ?_
                refine w_iinc (v := (1 : Int32)) rfl rfl (by decide) rfl ?_
                refine w_goto (t := 109) rfl (by decide) ?_
                exact ih _ (x3 + (0 : Int32)) (x4 + (1 : Int32)) _ _ _ _ hf hM
              · have c6 : ¬ (((S).2 4 (ix (x4))) = (0 : Int32)) := c6
                rw [if_neg c6] at hf
                refine w_iload rfl rfl ?_
                refine w_if (t := 227) rfl (by decide) (fun c7 => ?_) (fun c7 => ?_)
                · have c7 : ¬ ((0 : Int32) = (0 : Int32)) := c7
                  rw [if_neg c7] at hf
                  refine w_iconst (v := (0 : Int32)) rfl (by decide) ?_
                  refine w_iadd rfl ?_
                  refine w_istore_n rfl (Nat.le_of_ble_eq_true rfl) rfl ?_
                  refine w_iinc (v := (1 : Int32)) rfl rfl (by decide) rfl ?_
                  refine w_goto (t := 109) rfl (by decide) ?_
                  exact ih _ (x3 + (0 : Int32)) (x4 + (1 : Int32)) _ _ _ _ hf hM
                · have c7 : (0 : Int32) = (0 : Int32) := Classical.not_not.mp c7
                  rw [if_pos c7] at hf
                  refine w_iconst (v := (1 : Int32)) rfl (by decide) ?_
                  refine w_goto (t := 228) rfl (by decide) ?_
                  refine w_iadd rfl ?_
                  refine w_istore_n rfl (Nat.le_of_ble_eq_true rfl) rfl ?_
                  refine w_iinc (v := (1 : Int32)) rfl rfl (by decide) rfl ?_
                  refine w_goto (t := 109) rfl (by decide) ?_
                  exact ih _ (x3 + (1 : Int32)) (x4 + (1 : Int32)) _ _ _ _ hf hM
            · have c5 : ((S).2 37 (ix (((4 : Int32) * x4) + (3 : Int32)))) = ((S).2 15 (ix (x4))) := Classical.not_not.mp c5
              rw [if_pos c5] at hf
              refine w_iconst (v := (1 : Int32)) rfl (by decide) ?_
              refine w_goto (t := 205) rfl (by decide) ?_
              refine w_istore rfl (Nat.le_of_ble_eq_true rfl) rfl ?_
              refine w_iload_n rfl rfl ?_
              refine w_aload_n rfl rfl ?_
              refine m_getR hM rfl rfl rfl (by decide) ?_
              refine w_iload rfl rfl ?_
              obtain ⟨hb, hf⟩ := g_guard hf
              refine m_zld hM rfl rfl (by decide) rfl hb ?_
              refine w_if (t := 227) rfl (by decide) (fun c6 => ?_) (fun c6 => ?_)
              · have c6 : ((S).2 4 (ix (x4))) = (0 : Int32) := c6
                rw [if_pos c6] at hf
                refine w_iconst (v := (0 : Int32)) rfl (by decide) ?_
                refine w_iadd rfl ?_
                refine w_istore_n rfl (Nat.le_of_ble_eq_true rfl) rfl ?_
                refine w_iinc (v := (1 : Int32)) rfl rfl (by decide) rfl ?_
                refine w_goto (t := 109) rfl (by decide) ?_
                exact ih _ (x3 + (0 : Int32)) (x4 + (1 : Int32)) _ _ _ _ hf hM
              · have c6 : ¬ (((S).2 4 (ix (x4))) = (0 : Int32)) := c6
                rw [if_neg c6] at hf
                refine w_iload rfl rfl ?_
                refine w_if (t := 227) rfl (by decide) (fun c7 => ?_) (fun c7 => ?_)
                · have c7 : ¬ ((1 : Int32) = (0 : Int32)) := c7
                  rw [if_neg c7] at hf
                  refine w_iconst (v := (0 : Int32)) rfl (by decide) ?_
                  refine w_iadd rfl ?_
                  refine w_istore_n rfl (Nat.le_of_ble_eq_true rfl) rfl ?_
                  refine w_iinc (v := (1 : Int32)) rfl rfl (by decide) rfl ?_
                  refine w_goto (t := 109) rfl (by decide) ?_
                  exact ih _ (x3 + (0 : Int32)) (x4 + (1 : Int32)) _ _ _ _ hf hM
                · have c7 : (1 : Int32) = (0 : Int32) := Classical.not_not.mp c7
                  rw [if_pos c7] at hf
                  refine w_iconst (v := (1 : Int32)) rfl (by decide) ?_
                  refine w_goto (t := 228) rfl (by decide) ?_
                  refine w_iadd rfl ?_
                  refine w_istore_n rfl (Nat.le_of_ble_eq_true rfl) rfl ?_
                  refine w_iinc (v := (1 : Int32)) rfl rfl (by decide) rfl ?_
                  refine w_goto (t := 109) rfl (by decide) ?_
                  exact ih _ (x3 + (1 : Int32)) (x4 + (1 : Int32)) _ _ _ _ hf hM
def f_M_resize_B24 : Nat → MS → Int32 → Option (Int32 × MS)
  | 0, _, _ => none
  | n + 1, S, x3 => (if ((S).1 2) < x3 then ((f_M_arrangeAll n (S) ).bind (fun q2 => f_M_resize_B109  n (q2) ((0 : Int32)) ((1 : Int32)))) else (bif inB (x3) 61 then (bif inB ((4 : Int32) * x3) 244 then (bif inB (x3) 61 then (bif inB (((4 : Int32) * x3) + (1 : Int32)) 244 then (bif inB (x3) 61 then (bif inB (((4 : Int32) * x3) + (2 : Int32)) 244 then (bif inB (x3) 61 then (bif inB (((4 : Int32) * x3) + (3 : Int32)) 244 then f_M_resize_B24 n (((((S).a 37 (ix ((4 : Int32) * x3)) ((S).2 12 (ix (x3)))).a 37 (ix (((4 : Int32) * x3) + (1 : Int32))) (((S).a 37 (ix ((4 : Int32) * x3)) ((S).2 12 (ix (x3)))).2 13 (ix (x3)))).a 37 (ix (((4 : Int32) * x3) + (2 : Int32))) ((((S).a 37 (ix ((4 : Int32) * x3)) ((S).2 12 (ix (x3)))).a 37 (ix (((4 : Int32) * x3) + (1 : Int32))) (((S).a 37 (ix ((4 : Int32) * x3)) ((S).2 12 (ix (x3)))).2 13 (ix (x3)))).2 14 (ix (x3)))).a 37 (ix (((4 : Int32) * x3) + (3 : Int32))) (((((S).a 37 (ix ((4 : Int32) * x3)) ((S).2 12 (ix (x3)))).a 37 (ix (((4 : Int32) * x3) + (1 : Int32))) (((S).a 37 (ix ((4 : Int32) * x3)) ((S).2 12 (ix (x3)))).2 13 (ix (x3)))).a 37 (ix (((4 : Int32) * x3) + (2 : Int32))) ((((S).a 37 (ix ((4 : Int32) * x3)) ((S).2 12 (ix (x3)))).a 37 (ix (((4 : Int32) * x3) + (1 : Int32))) (((S).a 37 (ix ((4 : Int32) * x3)) ((S).2 12 (ix (x3)))).2 13 (ix (x3)))).2 14 (ix (x3)))).2 15 (ix (x3)))) (x3 + (1 : Int32)) else none) else none) else none) else none) else none) else none) else none) else none))
set_option maxHeartbeats 4000000 in
set_option maxRecDepth 100000 in
theorem t_M_resize_B24 {d m : Nat} {ad : Nat → Nat} {h0 : gHp} {Q : Option gv → gHp → Prop} {res : Int32 × MS} (hQ : ∀ h', MR h0 h' m ad res.2 → Q (some (.inl res.1)) h') : ∀ (n : Nat) (S : MS) (x3 : Int32) (u1 : Option gv) (u2 : Option gv) (u4 : Option gv) (u5 : Option gv) (h : gHp), f_M_resize_B24 n S x3  = some res → MR h0 h m ad S → gWP (gCall (d + 3)) m_M_resize Q 24 [some (.inr (some m)), u1, u2, some (.inl x3), u4, u5] [] h 0 0 := by
  intro n
  induction n with
  | zero =>
    intro S x3  u1 u2 u4 u5 h hf
    cases hf
  | succ n ih =>
    intro S x3  u1 u2 u4 u5 h hf hM
    unfold f_M_resize_B24 at hf
    refine w_iload_n rfl rfl ?_
    refine w_aload_n rfl rfl ?_
    refine m_getI hM rfl rfl rfl ?_
    refine w_icmp (t := 100) rfl (by decide) (fun c1 => ?_) (fun c1 => ?_)
    · have c1 : ((S).1 2) < x3 := c1
      rw [if_pos c1] at hf
      refine w_aload_n rfl rfl ?_
      obtain ⟨q2, hc, hf⟩ := g_bind hf
      refine w_virtual [] _ rfl rfl rfl rfl (Nat.le_of_ble_eq_true rfl) hM.1 rfl (Nat.le_of_ble_eq_true rfl) (Nat.le_of_ble_eq_true rfl) (t_M_arrangeAll (d := d + 0) hc hM (fun h hM => ?_))
      refine w_iconst (v := (0 : Int32)) rfl (by decide) ?_
      refine w_istore_n rfl (Nat.le_of_ble_eq_true rfl) rfl ?_
      refine w_iconst (v := (1 : Int32)) rfl (by decide) ?_
      refine w_istore rfl (Nat.le_of_ble_eq_true rfl) rfl ?_
      exact t_M_resize_B109  hQ _ _ ((0 : Int32)) ((1 : Int32)) _ _ _ _ hf hM
    · have c1 : ¬ (((S).1 2) < x3) := c1
      rw [if_neg c1] at hf
      refine w_aload_n rfl rfl ?_
      refine m_getR hM rfl rfl rfl (by decide) ?_
      refine w_iconst (v := (4 : Int32)) rfl (by decide) ?_
      refine w_iload_n rfl rfl ?_
      refine w_imul rfl ?_
      refine w_aload_n rfl rfl ?_
      refine m_getR hM rfl rfl rfl (by decide) ?_
      refine w_iload_n rfl rfl ?_
      obtain ⟨hb, hf⟩ := g_guard hf
      refine m_ld hM rfl rfl (by decide) rfl hb ?_
      obtain ⟨hb, hf⟩ := g_guard hf
      refine m_st hM rfl rfl (by decide) rfl hb (fun h hM => ?_)
      refine w_aload_n rfl rfl ?_
      refine m_getR hM rfl rfl rfl (by decide) ?_
      refine w_iconst (v := (4 : Int32)) rfl (by decide) ?_
      refine w_iload_n rfl rfl ?_
      refine w_imul rfl ?_
      refine w_iconst (v := (1 : Int32)) rfl (by decide) ?_
      refine w_iadd rfl ?_
      refine w_aload_n rfl rfl ?_
      refine m_getR hM rfl rfl rfl (by decide) ?_
      refine w_iload_n rfl rfl ?_
      obtain ⟨hb, hf⟩ := g_guard hf
      refine m_ld hM rfl rfl (by decide) rfl hb ?_
      obtain ⟨hb, hf⟩ := g_guard hf
      refine m_st hM rfl rfl (by decide) rfl hb (fun h hM => ?_)
      refine w_aload_n rfl rfl ?_
      refine m_getR hM rfl rfl rfl (by decide) ?_
      refine w_iconst (v := (4 : Int32)) rfl (by decide) ?_
      refine w_iload_n rfl rfl ?_
      refine w_imul rfl ?_
      refine w_iconst (v := (2 : Int32)) rfl (by decide) ?_
      refine w_iadd rfl ?_
      refine w_aload_n rfl rfl ?_
      refine m_getR hM rfl rfl rfl (by decide) ?_
      refine w_iload_n rfl rfl ?_
      obtain ⟨hb, hf⟩ := g_guard hf
      refine m_ld hM rfl rfl (by decide) rfl hb ?_
      obtain ⟨hb, hf⟩ := g_guard hf
      refine m_st hM rfl rfl (by decide) rfl hb (fun h hM => ?_)
      refine w_aload_n rfl rfl ?_
      refine m_getR hM rfl rfl rfl (by decide) ?_
      refine w_iconst (v := (4 : Int32)) rfl (by decide) ?_
      refine w_iload_n rfl rfl ?_
      refine w_imul rfl ?_
      refine w_iconst (v := (3 : Int32)) rfl (by decide) ?_
      refine w_iadd rfl ?_
      refine w_aload_n rfl rfl ?_
      refine m_getR hM rfl rfl rfl (by decide) ?_
      refine w_iload_n rfl rfl ?_
      obtain ⟨hb, hf⟩ := g_guard hf
      refine m_ld hM rfl rfl (by decide) rfl hb ?_
      obtain ⟨hb, hf⟩ := g_guard hf
      refine m_st hM rfl rfl (by decide) rfl hb (fun h hM => ?_)
      refine w_iinc (v := (1 : Int32)) rfl rfl (by decide) rfl ?_
      refine w_goto (t := 24) rfl (by decide) ?_
      exact ih _ (x3 + (1 : Int32)) _ _ _ _ _ hf hM
def f_M_resize (n : Nat) (S : MS) (x1 : Int32) (x2 : Int32) : Option (Int32 × MS) := ((f_M_nearest n (S) (x1) ((4 : Int32)) ((60 : Int32))).bind (fun q1 => ((f_M_nearest n ((q1.2).f 0 (q1.1)) (x2) ((2 : Int32)) ((24 : Int32))).bind (fun q2 => f_M_resize_B24  n ((q2.2).f 1 (q2.1)) ((1 : Int32))))))
set_option maxHeartbeats 4000000 in
set_option maxRecDepth 100000 in
theorem t_M_resize {d m n : Nat} {ad : Nat → Nat} {h0 h : gHp} {Q : Option gv → gHp → Prop} {S : MS} {x1 : Int32} {x2 : Int32} {res : Int32 × MS} (hf : f_M_resize n S x1 x2 = some res) (hM : MR h0 h m ad S) (hQ : ∀ h', MR h0 h' m ad res.2 → Q (some (.inl res.1)) h') : gCall (d + 4) m_M_resize [.inr (some m), .inl x1, .inl x2] h Q := by
  unfold f_M_resize at hf
  refine g_enter (d := d + 3) (Nat.le_of_ble_eq_true rfl) ?_
  show gWP (gCall (d + 3)) m_M_resize Q 0 [some (.inr (some m)), some (.inl x1), some (.inl x2), none, none, none] [] h 0 0
  refine w_aload_n rfl rfl ?_
  refine w_iload_n rfl rfl ?_
  refine w_iconst (v := (4 : Int32)) rfl (by decide) ?_
  refine w_bipush (v := (60 : Int32)) rfl (by decide) ?_
  obtain ⟨q1, hc, hf⟩ := g_bind hf
  refine w_static [_, _, _] _ rfl rfl rfl rfl (Nat.le_of_ble_eq_true rfl) (Nat.le_of_ble_eq_true rfl) (Nat.le_of_ble_eq_true rfl) (t_M_nearest (d := d + 2) hc hM (fun h hM => ?_))
  refine m_putI hM rfl rfl rfl rfl (nar_int _) (fun h hM => ?_)
  refine w_aload_n rfl rfl ?_
  refine w_iload_n rfl rfl ?_
  refine w_iconst (v := (2 : Int32)) rfl (by decide) ?_
  refine w_bipush (v := (24 : Int32)) rfl (by decide) ?_
  obtain ⟨q2, hc, hf⟩ := g_bind hf
  refine w_static [_, _, _] _ rfl rfl rfl rfl (Nat.le_of_ble_eq_true rfl) (Nat.le_of_ble_eq_true rfl) (Nat.le_of_ble_eq_true rfl) (t_M_nearest (d := d + 2) hc hM (fun h hM => ?_))
  refine m_putI hM rfl rfl rfl rfl (nar_int _) (fun h hM => ?_)
  refine w_iconst (v := (1 : Int32)) rfl (by decide) ?_
  refine w_istore_n rfl (Nat.le_of_ble_eq_true rfl) rfl ?_
  exact t_M_resize_B24  hQ _ _ ((1 : Int32)) _ _ _ _ _ hf hM
def f_M_shownAt_B207 (n : Nat) (S : MS) (x1 : Int32) (x2 : Int32) (x3 : Int32) (x4 : Int32) : Option (Int32 × MS) := (if x4 = (0 : Int32) then (bif inB ((((1440 : Int32) * x1) + ((60 : Int32) * x3)) + x2) 87840 then some ((S).2 29 (ix ((((1440 : Int32) * x1) + ((60 : Int32) * x3)) + x2)), S) else none) else (if x4 = (1 : Int32) then (bif inB ((((1440 : Int32) * x1) + ((60 : Int32) * x3)) + x2) 87840 then some ((S).2 30 (ix ((((1440 : Int32) * x1) + ((60 : Int32) * x3)) + x2)), S) else none) else (bif inB ((((1440 : Int32) * x1) + ((60 : Int32) * x3)) + x2) 87840 then some ((S).2 31 (ix ((((1440 : Int32) * x1) + ((60 : Int32) * x3)) + x2)), S) else none)))
set_option maxHeartbeats 4000000 in
set_option maxRecDepth 100000 in
theorem t_M_shownAt_B207 {d m : Nat} {ad : Nat → Nat} {h0 : gHp} {Q : Option gv → gHp → Prop} {res : Int32 × MS} (hQ : ∀ h', MR h0 h' m ad res.2 → Q (some (.inl res.1)) h') (n : Nat) (S : MS) (x1 : Int32) (x2 : Int32) (x3 : Int32) (x4 : Int32) (u5 : Option gv) (u6 : Option gv) (h : gHp) (hf : f_M_shownAt_B207 n S x1 x2 x3 x4  = some res) (hM : MR h0 h m ad S) : gWP (gCall (d + 4)) m_M_shownAt Q 207 [some (.inr (some m)), some (.inl x1), some (.inl x2), some (.inl x3), some (.inl x4), u5, u6] [] h 0 0 := by
  unfold f_M_shownAt_B207 at hf
  refine w_sipush (v := (1440 : Int32)) rfl (by decide) ?_
  refine w_iload_n rfl rfl ?_
  refine w_imul rfl ?_
  refine w_bipush (v := (60 : Int32)) rfl (by decide) ?_
  refine w_iload_n rfl rfl ?_
  refine w_imul rfl ?_
  refine w_iadd rfl ?_
  refine w_iload_n rfl rfl ?_
  refine w_iadd rfl ?_
  refine w_istore rfl (Nat.le_of_ble_eq_true rfl) rfl ?_
  refine w_iload rfl rfl ?_
  refine w_if (t := 236) rfl (by decide) (fun c1 => ?_) (fun c1 => ?_)
  · have c1 : ¬ (x4 = (0 : Int32)) := c1
    rw [if_neg c1] at hf
    refine w_iload rfl rfl ?_
    refine w_iconst (v := (1 : Int32)) rfl (by decide) ?_
    refine w_icmp (t := 252) rfl (by decide) (fun c2 => ?_) (fun c2 => ?_)
    · have c2 : ¬ (x4 = (1 : Int32)) := c2
      rw [if_neg c2] at hf
      refine w_aload_n rfl rfl ?_
      refine m_getR hM rfl rfl rfl (by decide) ?_
      refine w_iload rfl rfl ?_
      obtain ⟨hb, hf⟩ := g_guard hf
      refine m_ld hM rfl rfl (by decide) rfl hb ?_
      cases hf
      exact w_ireturn rfl (int_ret _) (Nat.le_refl _) (Nat.le_refl _) (hQ _ hM)
    · have c2 : x4 = (1 : Int32) := Classical.not_not.mp c2
      rw [if_pos c2] at hf
      refine w_aload_n rfl rfl ?_
      refine m_getR hM rfl rfl rfl (by decide) ?_
      refine w_iload rfl rfl ?_
      obtain ⟨hb, hf⟩ := g_guard hf
      refine m_ld hM rfl rfl (by decide) rfl hb ?_
      refine w_goto (t := 259) rfl (by decide) ?_
      cases hf
      exact w_ireturn rfl (int_ret _) (Nat.le_refl _) (Nat.le_refl _) (hQ _ hM)
  · have c1 : x4 = (0 : Int32) := Classical.not_not.mp c1
    rw [if_pos c1] at hf
    refine w_aload_n rfl rfl ?_
    refine m_getR hM rfl rfl rfl (by decide) ?_
    refine w_iload rfl rfl ?_
    obtain ⟨hb, hf⟩ := g_guard hf
    refine m_ld hM rfl rfl (by decide) rfl hb ?_
    refine w_goto (t := 259) rfl (by decide) ?_
    cases hf
    exact w_ireturn rfl (int_ret _) (Nat.le_refl _) (Nat.le_refl _) (hQ _ hM)
def f_M_shownAt_B52 (n : Nat) (S : MS) (x1 : Int32) (x4 : Int32) (x5 : Int32) (s0 : Int32) : Option (Int32 × MS) := (if x4 = (0 : Int32) then ((f_M_signAt n (S) (x1) (x5)).bind (fun q2 => some (q2.1, q2.2))) else (if x4 = (1 : Int32) then (if s0 = (0 : Int32) then some ((8 : Int32), S) else (bif inB (((400 : Int32) * x1) + x5) 24400 then some ((S).2 27 (ix (((400 : Int32) * x1) + x5)), S) else none)) else (if s0 = (0 : Int32) then some ((0 : Int32), S) else (bif inB (((400 : Int32) * x1) + x5) 24400 then some ((S).2 28 (ix (((400 : Int32) * x1) + x5)), S) else none))))
set_option maxHeartbeats 4000000 in
set_option maxRecDepth 100000 in
theorem t_M_shownAt_B52 {d m : Nat} {ad : Nat → Nat} {h0 : gHp} {Q : Option gv → gHp → Prop} {res : Int32 × MS} (hQ : ∀ h', MR h0 h' m ad res.2 → Q (some (.inl res.1)) h') (n : Nat) (S : MS) (x1 : Int32) (x4 : Int32) (x5 : Int32) (s0 : Int32) (u2 : Option gv) (u3 : Option gv) (u6 : Option gv) (h : gHp) (hf : f_M_shownAt_B52 n S x1 x4 x5 s0 = some res) (hM : MR h0 h m ad S) : gWP (gCall (d + 4)) m_M_shownAt Q 52 [some (.inr (some m)), some (.inl x1), u2, u3, some (.inl x4), some (.inl x5), u6] [.inl s0] h 0 0 := by
  unfold f_M_shownAt_B52 at hf
  refine w_istore rfl (Nat.le_of_ble_eq_true rfl) rfl ?_
  refine w_iload rfl rfl ?_
  refine w_if (t := 69) rfl (by decide) (fun c1 => ?_) (fun c1 => ?_)
  · have c1 : ¬ (x4 = (0 : Int32)) := c1
    rw [if_neg c1] at hf
    refine w_iload rfl rfl ?_
    refine w_iconst (v := (1 : Int32)) rfl (by decide) ?_
    refine w_icmp (t := 101) rfl (by decide) (fun c2 => ?_) (fun c2 => ?_)
    · have c2 : ¬ (x4 = (1 : Int32)) := c2
      rw [if_neg c2] at hf
      refine w_iload rfl rfl ?_
      refine w_if (t := 122) rfl (by decide) (fun c3 => ?_) (fun c3 => ?_)
      · have c3 : s0 = (0 : Int32) := c3
        rw [if_pos c3] at hf
        refine w_iconst (v := (0 : Int32)) rfl (by decide) ?_
        cases hf
        exact w_ireturn rfl (int_ret _) (Nat.le_refl _) (Nat.le_refl _) (hQ _ hM)
      · have c3 : ¬ (s0 = (0 : Int32)) := c3
        rw [if_neg c3] at hf
        refine w_aload_n rfl rfl ?_
        refine m_getR hM rfl rfl rfl (by decide) ?_
        refine w_sipush (v := (400 : Int32)) rfl (by decide) ?_
        refine w_iload_n rfl rfl ?_
        refine w_imul rfl ?_
        refine w_iload rfl rfl ?_
        refine w_iadd rfl ?_
        obtain ⟨hb, hf⟩ := g_guard hf
        refine m_ld hM rfl rfl (by decide) rfl hb ?_
        refine w_goto (t := 123) rfl (by decide) ?_
        cases hf
        exact w_ireturn rfl (int_ret _) (Nat.le_refl _) (Nat.le_refl _) (hQ _ hM)
    · have c2 : x4 = (1 : Int32) := Classical.not_not.mp c2
      rw [if_pos c2] at hf
      refine w_iload rfl rfl ?_
      refine w_if (t := 96) rfl (by decide) (fun c3 => ?_) (fun c3 => ?_)
      · have c3 : s0 = (0 : Int32) := c3
        rw [if_pos c3] at hf
        refine w_bipush (v := (8 : Int32)) rfl (by decide) ?_
        refine w_goto (t := 123) rfl (by decide) ?_
        cases hf
        exact w_ireturn rfl (int_ret _) (Nat.le_refl _) (Nat.le_refl _) (hQ _ hM)
      · have c3 : ¬ (s0 = (0 : Int32)) := c3
        rw [if_neg c3] at hf
        refine w_aload_n rfl rfl ?_
        refine m_getR hM rfl rfl rfl (by decide) ?_
        refine w_sipush (v := (400 : Int32)) rfl (by decide) ?_
        refine w_iload_n rfl rfl ?_
        refine w_imul rfl ?_
        refine w_iload rfl rfl ?_
        refine w_iadd rfl ?_
        obtain ⟨hb, hf⟩ := g_guard hf
        refine m_ld hM rfl rfl (by decide) rfl hb ?_
        refine w_goto (t := 123) rfl (by decide) ?_
        cases hf
        exact w_ireturn rfl (int_ret _) (Nat.le_refl _) (Nat.le_refl _) (hQ _ hM)
  · have c1 : x4 = (0 : Int32) := Classical.not_not.mp c1
    rw [if_pos c1] at hf
    refine w_aload_n rfl rfl ?_
    refine w_iload_n rfl rfl ?_
    refine w_iload rfl rfl ?_
    obtain ⟨q2, hc, hf⟩ := g_bind hf
    refine w_virtual [_, _] _ rfl rfl rfl rfl (Nat.le_of_ble_eq_true rfl) hM.1 rfl (Nat.le_of_ble_eq_true rfl) (Nat.le_of_ble_eq_true rfl) (t_M_signAt (d := d + 3) hc hM (fun h hM => ?_))
    refine w_goto (t := 123) rfl (by decide) ?_
    cases hf
    exact w_ireturn rfl (int_ret _) (Nat.le_refl _) (Nat.le_refl _) (hQ _ hM)
def f_M_shownAt (n : Nat) (S : MS) (x1 : Int32) (x2 : Int32) (x3 : Int32) (x4 : Int32) : Option (Int32 × MS) := (bif inB (x1) 61 then (if ((S).2 5 (ix (x1))) = (1 : Int32) then ((f_M_standing n (S) (x1) (x2) (x3)).bind (fun q2 => (if (0 : Int32) ≤ q2.1 then (bif inB (x1) 61 then (if ((q2.2).2 25 (ix (x1))) ≤ q2.1 then f_M_shownAt_B52  n (q2.2) (x1) (x4) (q2.1) ((0 : Int32)) else f_M_shownAt_B52  n (q2.2) (x1) (x4) (q2.1) ((1 : Int32))) else none) else (if x4 = (0 : Int32) then some ((32 : Int32), q2.2) else some ((0 : Int32), q2.2))))) else (bif inB (x1) 61 then (bif inB (((4 : Int32) * x1) + (1 : Int32)) 244 then (if ((S).2 21 (ix (((4 : Int32) * x1) + (1 : Int32)))) = (0 : Int32) then f_M_shownAt_B207  n (S) (x1) (x2) (x3) (x4)  else (bif inB (x1) 61 then (if x3 = ((S).2 35 (ix (x1))) then (bif inB (x1) 61 then ((f_M_in n (S) (x2 - ((S).2 34 (ix (x1)))) ((0 : Int32)) (((S).2 23 (ix (x1))) - (1 : Int32))).bind (fun q4 => (if q4.1 = (0 : Int32) then f_M_shownAt_B207  n (q4.2) (x1) (x2) (x3) (x4)  else (if x4 = (0 : Int32) then (bif inB (((40 : Int32) * x1) + (x2 - ((S).2 34 (ix (x1))))) 2440 then some ((q4.2).2 24 (ix (((40 : Int32) * x1) + (x2 - ((S).2 34 (ix (x1)))))), q4.2) else none) else (if x4 = (1 : Int32) then some ((8 : Int32), q4.2) else some ((0 : Int32), q4.2)))))) else none) else f_M_shownAt_B207  n (S) (x1) (x2) (x3) (x4) ) else none)) else none) else none)) else none)
set_option maxHeartbeats 4000000 in
set_option maxRecDepth 100000 in
theorem t_M_shownAt {d m n : Nat} {ad : Nat → Nat} {h0 h : gHp} {Q : Option gv → gHp → Prop} {S : MS} {x1 : Int32} {x2 : Int32} {x3 : Int32} {x4 : Int32} {res : Int32 × MS} (hf : f_M_shownAt n S x1 x2 x3 x4 = some res) (hM : MR h0 h m ad S) (hQ : ∀ h', MR h0 h' m ad res.2 → Q (some (.inl res.1)) h') : gCall (d + 5) m_M_shownAt [.inr (some m), .inl x1, .inl x2, .inl x3, .inl x4] h Q := by
  unfold f_M_shownAt at hf
  refine g_enter (d := d + 4) (Nat.le_of_ble_eq_true rfl) ?_
  show gWP (gCall (d + 4)) m_M_shownAt Q 0 [some (.inr (some m)), some (.inl x1), some (.inl x2), some (.inl x3), some (.inl x4), none, none] [] h 0 0
  refine w_aload_n rfl rfl ?_
  refine m_getR hM rfl rfl rfl (by decide) ?_
  refine w_iload_n rfl rfl ?_
  obtain ⟨hb, hf⟩ := g_guard hf
  refine m_ld hM rfl rfl (by decide) rfl hb ?_
  refine w_iconst (v := (1 : Int32)) rfl (by decide) ?_
  refine w_icmp (t := 124) rfl (by decide) (fun c1 => ?_) (fun c1 => ?_)
  · have c1 : ¬ (((S).2 5 (ix (x1))) = (1 : Int32)) := c1
    rw [if_neg c1] at hf
    refine w_iload_n rfl rfl ?_
    refine w_aload_n rfl rfl ?_
    refine m_getR hM rfl rfl rfl (by decide) ?_
    refine w_iload_n rfl rfl ?_
    obtain ⟨hb, hf⟩ := g_guard hf
    refine m_ld hM rfl rfl (by decide) rfl hb ?_
    refine w_isub rfl ?_
    refine w_istore rfl (Nat.le_of_ble_eq_true rfl) rfl ?_
    refine w_aload_n rfl rfl ?_
    refine m_getR hM rfl rfl rfl (by decide) ?_
    refine w_iconst (v := (4 : Int32)) rfl (by decide) ?_
    refine w_iload_n rfl rfl ?_
    refine w_imul rfl ?_
    refine w_iconst (v := (1 : Int32)) rfl (by decide) ?_
    refine w_iadd rfl ?_
    obtain ⟨hb, hf⟩ := g_guard hf
    refine m_zld hM rfl rfl (by decide) rfl hb ?_
    refine w_if (t := 207) rfl (by decide) (fun c2 => ?_) (fun c2 => ?_)
    · have c2 : ((S).2 21 (ix (((4 : Int32) * x1) + (1 : Int32)))) = (0 : Int32) := c2
      rw [if_pos c2] at hf
      exact t_M_shownAt_B207  hQ _ _ (x1) (x2) (x3) (x4)  _ _ _ hf hM
    · have c2 : ¬ (((S).2 21 (ix (((4 : Int32) * x1) + (1 : Int32)))) = (0 : Int32)) := c2
      rw [if_neg c2] at hf
      refine w_iload_n rfl rfl ?_
      refine w_aload_n rfl rfl ?_
      refine m_getR hM rfl rfl rfl (by decide) ?_
      refine w_iload_n rfl rfl ?_
      obtain ⟨hb, hf⟩ := g_guard hf
      refine m_ld hM rfl rfl (by decide) rfl hb ?_
      refine w_icmp (t := 207) rfl (by decide) (fun c3 => ?_) (fun c3 => ?_)
      · have c3 : ¬ (x3 = ((S).2 35 (ix (x1)))) := c3
        rw [if_neg c3] at hf
        exact t_M_shownAt_B207  hQ _ _ (x1) (x2) (x3) (x4)  _ _ _ hf hM
      · have c3 : x3 = ((S).2 35 (ix (x1))) := Classical.not_not.mp c3
        rw [if_pos c3] at hf
        refine w_iload rfl rfl ?_
        refine w_iconst (v := (0 : Int32)) rfl (by decide) ?_
        refine w_aload_n rfl rfl ?_
        refine m_getR hM rfl rfl rfl (by decide) ?_
        refine w_iload_n rfl rfl ?_
        obtain ⟨hb, hf⟩ := g_guard hf
        refine m_ld hM rfl rfl (by decide) rfl hb ?_
        refine w_iconst (v := (1 : Int32)) rfl (by decide) ?_
        refine w_isub rfl ?_
        obtain ⟨q4, hc, hf⟩ := g_bind hf
        refine w_static [_, _, _] _ rfl rfl rfl rfl (Nat.le_of_ble_eq_true rfl) (Nat.le_of_ble_eq_true rfl) (Nat.le_of_ble_eq_true rfl) (t_M_in (d := d + 3) hc hM (fun h hM => ?_))
        refine w_if (t := 207) rfl (by decide) (fun c5 => ?_) (fun c5 => ?_)
        · have c5 : q4.1 = (0 : Int32) := c5
          rw [if_pos c5] at hf
          exact t_M_shownAt_B207  hQ _ _ (x1) (x2) (x3) (x4)  _ _ _ hf hM
        · have c5 : ¬ (q4.1 = (0 : Int32)) := c5
          rw [if_neg c5] at hf
          refine w_iload rfl rfl ?_
          refine w_if (t := 194) rfl (by decide) (fun c6 => ?_) (fun c6 => ?_)
          · have c6 : ¬ (x4 = (0 : Int32)) := c6
            rw [if_neg c6] at hf
            refine w_iload rfl rfl ?_
            refine w_iconst (v := (1 : Int32)) rfl (by decide) ?_
            refine w_icmp (t := 205) rfl (by decide) (fun c7 => ?_) (fun c7 => ?_)
            · have c7 : ¬ (x4 = (1 : Int32)) := c7
              rw [if_neg c7] at hf
              refine w_iconst (v := (0 : Int32)) rfl (by decide) ?_
              cases hf
              exact w_ireturn rfl (int_ret _) (Nat.le_refl _) (Nat.le_refl _) (hQ _ hM)
            · have c7 : x4 = (1 : Int32) := Classical.not_not.mp c7
              rw [if_pos c7] at hf
              refine w_bipush (v := (8 : Int32)) rfl (by decide) ?_
              refine w_goto (t := 206) rfl (by decide) ?_
              cases hf
              exact w_ireturn rfl (int_ret _) (Nat.le_refl _) (Nat.le_refl _) (hQ _ hM)
          · have c6 : x4 = (0 : Int32) := Classical.not_not.mp c6
            rw [if_pos c6] at hf
            refine w_aload_n rfl rfl ?_
            refine m_getR hM rfl rfl rfl (by decide) ?_
            refine w_bipush (v := (40 : Int32)) rfl (by decide) ?_
            refine w_iload_n rfl rfl ?_
            refine w_imul rfl ?_
            refine w_iload rfl rfl ?_
            refine w_iadd rfl ?_
            obtain ⟨hb, hf⟩ := g_guard hf
            refine m_ld hM rfl rfl (by decide) rfl hb ?_
            refine w_goto (t := 206) rfl (by decide) ?_
            cases hf
            exact w_ireturn rfl (int_ret _) (Nat.le_refl _) (Nat.le_refl _) (hQ _ hM)
  · have c1 : ((S).2 5 (ix (x1))) = (1 : Int32) := Classical.not_not.mp c1
    rw [if_pos c1] at hf
    refine w_aload_n rfl rfl ?_
    refine w_iload_n rfl rfl ?_
    refine w_iload_n rfl rfl ?_
    refine w_iload_n rfl rfl ?_
    obtain ⟨q2, hc, hf⟩ := g_bind hf
    refine w_virtual [_, _, _] _ rfl rfl rfl rfl (Nat.le_of_ble_eq_true rfl) hM.1 rfl (Nat.le_of_ble_eq_true rfl) (Nat.le_of_ble_eq_true rfl) (t_M_standing (d := d + 0) hc hM (fun h hM => ?_))
    refine w_istore rfl (Nat.le_of_ble_eq_true rfl) rfl ?_
    refine w_iload rfl rfl ?_
    refine w_if (t := 36) rfl (by decide) (fun c3 => ?_) (fun c3 => ?_)
    · have c3 : (0 : Int32) ≤ q2.1 := c3
      rw [if_pos c3] at hf
      refine w_iload rfl rfl ?_
      refine w_aload_n rfl rfl ?_
      refine m_getR hM rfl rfl rfl (by decide) ?_
      refine w_iload_n rfl rfl ?_
      obtain ⟨hb, hf⟩ := g_guard hf
      refine m_ld hM rfl rfl (by decide) rfl hb ?_
      refine w_icmp (t := 51) rfl (by decide) (fun c4 => ?_) (fun c4 => ?_)
      · have c4 : ((q2.2).2 25 (ix (x1))) ≤ q2.1 := c4
        rw [if_pos c4] at hf
        refine w_iconst (v := (0 : Int32)) rfl (by decide) ?_
        exact t_M_shownAt_B52  hQ _ _ (x1) (x4) (q2.1) ((0 : Int32)) _ _ _ _ hf hM
      · have c4 : ¬ (((q2.2).2 25 (ix (x1))) ≤ q2.1) := c4
        rw [if_neg c4] at hf
        refine w_iconst (v := (1 : Int32)) rfl (by decide) ?_
        refine w_goto (t := 52) rfl (by decide) ?_
        exact t_M_shownAt_B52  hQ _ _ (x1) (x4) (q2.1) ((1 : Int32)) _ _ _ _ hf hM
    · have c3 : ¬ ((0 : Int32) ≤ q2.1) := c3
      rw [if_neg c3] at hf
      refine w_iload rfl rfl ?_
      refine w_if (t := 34) rfl (by decide) (fun c4 => ?_) (fun c4 => ?_)
      · have c4 : ¬ (x4 = (0 : Int32)) := c4
        rw [if_neg c4] at hf
        refine w_iconst (v := (0 : Int32)) rfl (by decide) ?_
        cases hf
        exact w_ireturn rfl (int_ret _) (Nat.le_refl _) (Nat.le_refl _) (hQ _ hM)
      · have c4 : x4 = (0 : Int32) := Classical.not_not.mp c4
        rw [if_pos c4] at hf
        refine w_bipush (v := (32 : Int32)) rfl (by decide) ?_
        refine w_goto (t := 35) rfl (by decide) ?_
        cases hf
        exact w_ireturn rfl (int_ret _) (Nat.le_refl _) (Nat.le_refl _) (hQ _ hM)
def f_M_shown (n : Nat) (S : MS) (x1 : Int32) (x2 : Int32) (x3 : Int32) (x4 : Int32) : Option (Int32 × MS) := ((f_M_isPane n (S) (x1)).bind (fun q1 => (if q1.1 = (0 : Int32) then some ((-1 : Int32), q1.2) else (bif inB (x1) 61 then ((f_M_in n (q1.2) (x2) ((0 : Int32)) (((q1.2).2 14 (ix (x1))) - (1 : Int32))).bind (fun q3 => (if q3.1 = (0 : Int32) then some ((-1 : Int32), q3.2) else (bif inB (x1) 61 then ((f_M_in n (q3.2) (x3) ((0 : Int32)) (((q3.2).2 15 (ix (x1))) - (1 : Int32))).bind (fun q5 => (if q5.1 = (0 : Int32) then some ((-1 : Int32), q5.2) else ((f_M_in n (q5.2) (x4) ((0 : Int32)) ((2 : Int32))).bind (fun q7 => (if q7.1 = (0 : Int32) then some ((-1 : Int32), q7.2) else ((f_M_isWritable n (q7.2) (x1)).bind (fun q9 => (if q9.1 = (0 : Int32) then some ((-3 : Int32), q9.2) else ((f_M_shownAt n (q9.2) (x1) (x2) (x3) (x4)).bind (fun q11 => some (q11.1, q11.2)))))))))))) else none)))) else none))))
set_option maxHeartbeats 4000000 in
set_option maxRecDepth 100000 in
theorem t_M_shown {d m n : Nat} {ad : Nat → Nat} {h0 h : gHp} {Q : Option gv → gHp → Prop} {S : MS} {x1 : Int32} {x2 : Int32} {x3 : Int32} {x4 : Int32} {res : Int32 × MS} (hf : f_M_shown n S x1 x2 x3 x4 = some res) (hM : MR h0 h m ad S) (hQ : ∀ h', MR h0 h' m ad res.2 → Q (some (.inl res.1)) h') : gCall (d + 6) m_M_shown [.inr (some m), .inl x1, .inl x2, .inl x3, .inl x4] h Q := by
  unfold f_M_shown at hf
  refine g_enter (d := d + 5) (Nat.le_of_ble_eq_true rfl) ?_
  show gWP (gCall (d + 5)) m_M_shown Q 0 [some (.inr (some m)), some (.inl x1), some (.inl x2), some (.inl x3), some (.inl x4)] [] h 0 0
  refine w_aload_n rfl rfl ?_
  refine w_iload_n rfl rfl ?_
  obtain ⟨q1, hc, hf⟩ := g_bind hf
  refine w_virtual [_] _ rfl rfl rfl rfl (Nat.le_of_ble_eq_true rfl) hM.1 rfl (Nat.le_of_ble_eq_true rfl) (Nat.le_of_ble_eq_true rfl) (t_M_isPane (d := d + 3) hc hM (fun h hM => ?_))
  refine w_if (t := 50) rfl (by decide) (fun c2 => ?_) (fun c2 => ?_)
  · have c2 : q1.1 = (0 : Int32) := c2
    rw [if_pos c2] at hf
    refine w_iconst (v := (-1 : Int32)) rfl (by decide) ?_
    cases hf
    exact w_ireturn rfl (int_ret _) (Nat.le_refl _) (Nat.le_refl _) (hQ _ hM)
  · have c2 : ¬ (q1.1 = (0 : Int32)) := c2
    rw [if_neg c2] at hf
    refine w_iload_n rfl rfl ?_
    refine w_iconst (v := (0 : Int32)) rfl (by decide) ?_
    refine w_aload_n rfl rfl ?_
    refine m_getR hM rfl rfl rfl (by decide) ?_
    refine w_iload_n rfl rfl ?_
    obtain ⟨hb, hf⟩ := g_guard hf
    refine m_ld hM rfl rfl (by decide) rfl hb ?_
    refine w_iconst (v := (1 : Int32)) rfl (by decide) ?_
    refine w_isub rfl ?_
    obtain ⟨q3, hc, hf⟩ := g_bind hf
    refine w_static [_, _, _] _ rfl rfl rfl rfl (Nat.le_of_ble_eq_true rfl) (Nat.le_of_ble_eq_true rfl) (Nat.le_of_ble_eq_true rfl) (t_M_in (d := d + 4) hc hM (fun h hM => ?_))
    refine w_if (t := 50) rfl (by decide) (fun c4 => ?_) (fun c4 => ?_)
    · have c4 : q3.1 = (0 : Int32) := c4
      rw [if_pos c4] at hf
      refine w_iconst (v := (-1 : Int32)) rfl (by decide) ?_
      cases hf
      exact w_ireturn rfl (int_ret _) (Nat.le_refl _) (Nat.le_refl _) (hQ _ hM)
    · have c4 : ¬ (q3.1 = (0 : Int32)) := c4
      rw [if_neg c4] at hf
      refine w_iload_n rfl rfl ?_
      refine w_iconst (v := (0 : Int32)) rfl (by decide) ?_
      refine w_aload_n rfl rfl ?_
      refine m_getR hM rfl rfl rfl (by decide) ?_
      refine w_iload_n rfl rfl ?_
      obtain ⟨hb, hf⟩ := g_guard hf
      refine m_ld hM rfl rfl (by decide) rfl hb ?_
      refine w_iconst (v := (1 : Int32)) rfl (by decide) ?_
      refine w_isub rfl ?_
      obtain ⟨q5, hc, hf⟩ := g_bind hf
      refine w_static [_, _, _] _ rfl rfl rfl rfl (Nat.le_of_ble_eq_true rfl) (Nat.le_of_ble_eq_true rfl) (Nat.le_of_ble_eq_true rfl) (t_M_in (d := d + 4) hc hM (fun h hM => ?_))
      refine w_if (t := 50) rfl (by decide) (fun c6 => ?_) (fun c6 => ?_)
      · have c6 : q5.1 = (0 : Int32) := c6
        rw [if_pos c6] at hf
        refine w_iconst (v := (-1 : Int32)) rfl (by decide) ?_
        cases hf
        exact w_ireturn rfl (int_ret _) (Nat.le_refl _) (Nat.le_refl _) (hQ _ hM)
      · have c6 : ¬ (q5.1 = (0 : Int32)) := c6
        rw [if_neg c6] at hf
        refine w_iload rfl rfl ?_
        refine w_iconst (v := (0 : Int32)) rfl (by decide) ?_
        refine w_iconst (v := (2 : Int32)) rfl (by decide) ?_
        obtain ⟨q7, hc, hf⟩ := g_bind hf
        refine w_static [_, _, _] _ rfl rfl rfl rfl (Nat.le_of_ble_eq_true rfl) (Nat.le_of_ble_eq_true rfl) (Nat.le_of_ble_eq_true rfl) (t_M_in (d := d + 4) hc hM (fun h hM => ?_))
        refine w_if (t := 52) rfl (by decide) (fun c8 => ?_) (fun c8 => ?_)
        · have c8 : ¬ (q7.1 = (0 : Int32)) := c8
          rw [if_neg c8] at hf
          refine w_aload_n rfl rfl ?_
          refine w_iload_n rfl rfl ?_
          obtain ⟨q9, hc, hf⟩ := g_bind hf
          refine w_virtual [_] _ rfl rfl rfl rfl (Nat.le_of_ble_eq_true rfl) hM.1 rfl (Nat.le_of_ble_eq_true rfl) (Nat.le_of_ble_eq_true rfl) (t_M_isWritable (d := d + 4) hc hM (fun h hM => ?_))
          refine w_if (t := 72) rfl (by decide) (fun c10 => ?_) (fun c10 => ?_)
          · have c10 : q9.1 = (0 : Int32) := c10
            rw [if_pos c10] at hf
            refine w_bipush (v := (-3 : Int32)) rfl (by decide) ?_
            cases hf
            exact w_ireturn rfl (int_ret _) (Nat.le_refl _) (Nat.le_refl _) (hQ _ hM)
          · have c10 : ¬ (q9.1 = (0 : Int32)) := c10
            rw [if_neg c10] at hf
            refine w_aload_n rfl rfl ?_
            refine w_iload_n rfl rfl ?_
            refine w_iload_n rfl rfl ?_
            refine w_iload_n rfl rfl ?_
            refine w_iload rfl rfl ?_
            obtain ⟨q11, hc, hf⟩ := g_bind hf
            refine w_virtual [_, _, _, _] _ rfl rfl rfl rfl (Nat.le_of_ble_eq_true rfl) hM.1 rfl (Nat.le_of_ble_eq_true rfl) (Nat.le_of_ble_eq_true rfl) (t_M_shownAt (d := d + 0) hc hM (fun h hM => ?_))
            refine w_goto (t := 74) rfl (by decide) ?_
            cases hf
            exact w_ireturn rfl (int_ret _) (Nat.le_refl _) (Nat.le_refl _) (hQ _ hM)
        · have c8 : q7.1 = (0 : Int32) := Classical.not_not.mp c8
          rw [if_pos c8] at hf
          refine w_iconst (v := (-1 : Int32)) rfl (by decide) ?_
          cases hf
          exact w_ireturn rfl (int_ret _) (Nat.le_refl _) (Nat.le_refl _) (hQ _ hM)
