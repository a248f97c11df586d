def f_M_click (n : Nat) (S : MS) (x1 : Int32) (x2 : Int32) : Option (Int32 × MS) := ((f_M_isScreen n (S) (x1) (x2)).bind (fun q1 => (if q1.1 = (0 : Int32) then some ((-1 : Int32), q1.2) else ((f_M_paneAt n (q1.2) (x1) (x2)).bind (fun q3 => (if q3.1 < (0 : Int32) then some ((0 : Int32), q3.2) else ((f_M_isWritable n (q3.2) (q3.1)).bind (fun q5 => (if q5.1 = (0 : Int32) then some ((0 : Int32), q5.2) else (bif inB (q3.1) 61 then (bif inB (q3.1) 61 then (bif inB (((4 : Int32) * q3.1) + (3 : Int32)) 244 then (if ((q5.2).2 21 (ix (((4 : Int32) * q3.1) + (3 : Int32)))) = (0 : Int32) then ((f_M_shownAt n (q5.2) (q3.1) (x1 - ((q5.2).2 12 (ix (q3.1)))) (x2 - ((q5.2).2 13 (ix (q3.1)))) ((2 : Int32))).bind (fun q8 => (if q8.1 = (0 : Int32) then some ((0 : Int32), q8.2) else (bif inB (((4 : Int32) * q3.1) + (2 : Int32)) 244 then (if ((q8.2).2 21 (ix (((4 : Int32) * q3.1) + (2 : Int32)))) = (0 : Int32) then some ((0 : Int32), q8.2) else (bif inB (((4 : Int32) * q3.1) + (2 : Int32)) 244 then (bif isZ ((0 : Int32)) then ((f_M_event_4 n ((q8.2).a 21 (ix (((4 : Int32) * q3.1) + (2 : Int32))) ((0 : Int32))) ((2 : Int32)) (q3.1) (q8.1) ((0 : Int32))).bind (fun q11 => some ((1 : Int32), q11))) else none) else none)) else none)))) else (bif inB (((4 : Int32) * q3.1) + (3 : Int32)) 244 then (bif isZ ((0 : Int32)) then ((f_M_event_4 n ((q5.2).a 21 (ix (((4 : Int32) * q3.1) + (3 : Int32))) ((0 : Int32))) ((3 : Int32)) (q3.1) (x1 - ((q5.2).2 12 (ix (q3.1)))) (x2 - ((q5.2).2 13 (ix (q3.1))))).bind (fun q8 => some ((1 : Int32), q8))) else none) else none)) else none) else none) else none))))))))))
set_option maxHeartbeats 4000000 in
set_option maxRecDepth 100000 in
theorem t_M_click {d m n : Nat} {ad : Nat → Nat} {h0 h : gHp} {Q : Option gv → gHp → Prop} {S : MS} {x1 : Int32} {x2 : Int32} {res : Int32 × MS} (hf : f_M_click n S x1 x2 = some res) (hM : MR h0 h m ad S) (hQ : ∀ h', MR h0 h' m ad res.2 → Q (some (.inl res.1)) h') : gCall (d + 6) m_M_click [.inr (some m), .inl x1, .inl x2] h Q := by
  unfold f_M_click at hf
  refine g_enter (d := d + 5) (Nat.le_of_ble_eq_true rfl) ?_
  show gWP (gCall (d + 5)) m_M_click Q 0 [some (.inr (some m)), some (.inl x1), some (.inl x2), none, none, none, none] [] h 0 0
  refine w_aload_n rfl rfl ?_
  refine w_iload_n rfl rfl ?_
  refine w_iload_n rfl rfl ?_
  obtain ⟨q1, hc, hf⟩ := g_bind hf
  refine w_virtual [_, _] _ rfl rfl rfl rfl (Nat.le_of_ble_eq_true rfl) hM.1 rfl (Nat.le_of_ble_eq_true rfl) (Nat.le_of_ble_eq_true rfl) (t_M_isScreen (d := d + 3) hc hM (fun h hM => ?_))
  refine w_if (t := 11) rfl (by decide) (fun c2 => ?_) (fun c2 => ?_)
  · have c2 : ¬ (q1.1 = (0 : Int32)) := c2
    rw [if_neg c2] at hf
    refine w_aload_n rfl rfl ?_
    refine w_iload_n rfl rfl ?_
    refine w_iload_n rfl rfl ?_
    obtain ⟨q3, hc, hf⟩ := g_bind hf
    refine w_virtual [_, _] _ rfl rfl rfl rfl (Nat.le_of_ble_eq_true rfl) hM.1 rfl (Nat.le_of_ble_eq_true rfl) (Nat.le_of_ble_eq_true rfl) (t_M_paneAt (d := d + 2) hc hM (fun h hM => ?_))
    refine w_istore_n rfl (Nat.le_of_ble_eq_true rfl) rfl ?_
    refine w_iload_n rfl rfl ?_
    refine w_if (t := 30) rfl (by decide) (fun c4 => ?_) (fun c4 => ?_)
    · have c4 : q3.1 < (0 : Int32) := c4
      rw [if_pos c4] at hf
      refine w_iconst (v := (0 : Int32)) rfl (by decide) ?_
      cases hf
      exact w_ireturn rfl (int_ret _) (Nat.le_refl _) (Nat.le_refl _) (hQ _ hM)
    · have c4 : ¬ (q3.1 < (0 : Int32)) := c4
      rw [if_neg c4] at hf
      refine w_aload_n rfl rfl ?_
      refine w_iload_n rfl rfl ?_
      obtain ⟨q5, hc, hf⟩ := g_bind hf
      refine w_virtual [_] _ rfl rfl rfl rfl (Nat.le_of_ble_eq_true rfl) hM.1 rfl (Nat.le_of_ble_eq_true rfl) (Nat.le_of_ble_eq_true rfl) (t_M_isWritable (d := d + 4) hc hM (fun h hM => ?_))
      refine w_if (t := 32) rfl (by decide) (fun c6 => ?_) (fun c6 => ?_)
      · have c6 : ¬ (q5.1 = (0 : Int32)) := c6
        rw [if_neg c6] at hf
        refine w_iload_n rfl rfl ?_
        refine w_aload_n rfl rfl ?_
        refine m_getR hM rfl rfl rfl (by decide) ?_
        refine w_iload_n rfl rfl ?_
        obtain ⟨hb, hf⟩ := g_guard hf
        refine m_ld hM rfl rfl (by decide) rfl hb ?_
        refine w_isub rfl ?_
        refine w_istore rfl (Nat.le_of_ble_eq_true rfl) rfl ?_
        refine w_iload_n rfl rfl ?_
        refine w_aload_n rfl rfl ?_
        refine m_getR hM rfl rfl rfl (by decide) ?_
        refine w_iload_n rfl rfl ?_
        obtain ⟨hb, hf⟩ := g_guard hf
        refine m_ld hM rfl rfl (by decide) rfl hb ?_
        refine w_isub rfl ?_
        refine w_istore rfl (Nat.le_of_ble_eq_true rfl) rfl ?_
        refine w_aload_n rfl rfl ?_
        refine m_getR hM rfl rfl rfl (by decide) ?_
        refine w_iconst (v := (4 : Int32)) rfl (by decide) ?_
        refine w_iload_n rfl rfl ?_
        refine w_imul rfl ?_
        refine w_iconst (v := (3 : Int32)) rfl (by decide) ?_
        refine w_iadd rfl ?_
        obtain ⟨hb, hf⟩ := g_guard hf
        refine m_zld hM rfl rfl (by decide) rfl hb ?_
        refine w_if (t := 88) rfl (by decide) (fun c7 => ?_) (fun c7 => ?_)
        · have c7 : ((q5.2).2 21 (ix (((4 : Int32) * q3.1) + (3 : Int32)))) = (0 : Int32) := c7
          rw [if_pos c7] at hf
          refine w_aload_n rfl rfl ?_
          refine w_iload_n rfl rfl ?_
          refine w_iload rfl rfl ?_
          refine w_iload rfl rfl ?_
          refine w_iconst (v := (2 : Int32)) rfl (by decide) ?_
          obtain ⟨q8, hc, hf⟩ := g_bind hf
          refine w_virtual [_, _, _, _] _ rfl rfl rfl rfl (Nat.le_of_ble_eq_true rfl) hM.1 rfl (Nat.le_of_ble_eq_true rfl) (Nat.le_of_ble_eq_true rfl) (t_M_shownAt (d := d + 0) hc hM (fun h hM => ?_))
          refine w_istore rfl (Nat.le_of_ble_eq_true rfl) rfl ?_
          refine w_iload rfl rfl ?_
          refine w_if (t := 118) rfl (by decide) (fun c9 => ?_) (fun c9 => ?_)
          · have c9 : q8.1 = (0 : Int32) := c9
            rw [if_pos c9] at hf
            refine w_iconst (v := (0 : Int32)) rfl (by decide) ?_
            cases hf
            exact w_ireturn rfl (int_ret _) (Nat.le_refl _) (Nat.le_refl _) (hQ _ hM)
          · have c9 : ¬ (q8.1 = (0 : Int32)) := c9
            rw [if_neg c9] at hf
            refine w_aload_n rfl rfl ?_
            refine m_getR hM rfl rfl rfl (by decide) ?_
            refine w_iconst (v := (4 : Int32)) rfl (by decide) ?_
            refine w_iload_n rfl rfl ?_
            refine w_imul rfl ?_
            refine w_iconst (v := (2 : Int32)) rfl (by decide) ?_
            refine w_iadd rfl ?_
            obtain ⟨hb, hf⟩ := g_guard hf
            refine m_zld hM rfl rfl (by decide) rfl hb ?_
            refine w_if (t := 120) rfl (by decide) (fun c10 => ?_) (fun c10 => ?_)
            · have c10 : ¬ (((q8.2).2 21 (ix (((4 : Int32) * q3.1) + (2 : Int32)))) = (0 : Int32)) := c10
              rw [if_neg c10] at hf
              refine w_aload_n rfl rfl ?_
              refine m_getR hM rfl rfl rfl (by decide) ?_
              refine w_iconst (v := (4 : Int32)) rfl (by decide) ?_
              refine w_iload_n rfl rfl ?_
              refine w_imul rfl ?_
              refine w_iconst (v := (2 : Int32)) rfl (by decide) ?_
              refine w_iadd rfl ?_
              refine w_iconst (v := (0 : Int32)) rfl (by decide) ?_
              obtain ⟨hb, hf⟩ := g_guard hf
              obtain ⟨hz, hf⟩ := g_guard hf
              refine m_zst hM rfl rfl (by decide) rfl hb hz (fun h hM => ?_)
              refine w_aload_n rfl rfl ?_
              refine w_iconst (v := (2 : Int32)) rfl (by decide) ?_
              refine w_iload_n rfl rfl ?_
              refine w_iload rfl rfl ?_
              refine w_iconst (v := (0 : Int32)) rfl (by decide) ?_
              obtain ⟨q11, hc, hf⟩ := g_bind hf
              refine w_virtual [_, _, _, _] _ rfl rfl rfl rfl (Nat.le_of_ble_eq_true rfl) hM.1 rfl (Nat.le_of_ble_eq_true rfl) (Nat.le_of_ble_eq_true rfl) (t_M_event_4 (d := d + 2) hc hM (fun h hM => ?_))
              refine w_iconst (v := (1 : Int32)) rfl (by decide) ?_
              cases hf
              exact w_ireturn rfl (int_ret _) (Nat.le_refl _) (Nat.le_refl _) (hQ _ hM)
            · have c10 : ((q8.2).2 21 (ix (((4 : Int32) * q3.1) + (2 : Int32)))) = (0 : Int32) := Classical.not_not.mp c10
              rw [if_pos c10] at hf
              refine w_iconst (v := (0 : Int32)) rfl (by decide) ?_
              cases hf
              exact w_ireturn rfl (int_ret _) (Nat.le_refl _) (Nat.le_refl _) (hQ _ hM)
        · have c7 : ¬ (((q5.2).2 21 (ix (((4 : Int32) * q3.1) + (3 : Int32)))) = (0 : Int32)) := c7
          rw [if_neg c7] at hf
          refine w_aload_n rfl rfl ?_
          refine m_getR hM rfl rfl rfl (by decide) ?_
          refine w_iconst (v := (4 : Int32)) rfl (by decide) ?_
          refine w_iload_n rfl rfl ?_
          refine w_imul rfl ?_
          refine w_iconst (v := (3 : Int32)) rfl (by decide) ?_
          refine w_iadd rfl ?_
          refine w_iconst (v := (0 : Int32)) rfl (by decide) ?_
          obtain ⟨hb, hf⟩ := g_guard hf
          obtain ⟨hz, hf⟩ := g_guard hf
          refine m_zst hM rfl rfl (by decide) rfl hb hz (fun h hM => ?_)
          refine w_aload_n rfl rfl ?_
          refine w_iconst (v := (3 : Int32)) rfl (by decide) ?_
          refine w_iload_n rfl rfl ?_
          refine w_iload rfl rfl ?_
          refine w_iload rfl rfl ?_
          obtain ⟨q8, hc, hf⟩ := g_bind hf
          refine w_virtual [_, _, _, _] _ rfl rfl rfl rfl (Nat.le_of_ble_eq_true rfl) hM.1 rfl (Nat.le_of_ble_eq_true rfl) (Nat.le_of_ble_eq_true rfl) (t_M_event_4 (d := d + 2) hc hM (fun h hM => ?_))
          refine w_iconst (v := (1 : Int32)) rfl (by decide) ?_
          cases hf
          exact w_ireturn rfl (int_ret _) (Nat.le_refl _) (Nat.le_refl _) (hQ _ hM)
      · have c6 : q5.1 = (0 : Int32) := Classical.not_not.mp c6
        rw [if_pos c6] at hf
        refine w_iconst (v := (0 : Int32)) rfl (by decide) ?_
        cases hf
        exact w_ireturn rfl (int_ret _) (Nat.le_refl _) (Nat.le_refl _) (hQ _ hM)
  · have c2 : q1.1 = (0 : Int32) := Classical.not_not.mp c2
    rw [if_pos c2] at hf
    refine w_iconst (v := (-1 : Int32)) rfl (by decide) ?_
    cases hf
    exact w_ireturn rfl (int_ret _) (Nat.le_refl _) (Nat.le_refl _) (hQ _ hM)
def f_M_drawn_B92 : Nat → MS → Int32 → Int32 → Int32 → Int32 → Option (Int32 × MS)
  | 0, _, _, _, _, _ => none
  | n + 1, S, x1, x2, x4, x5 => (if x5 ≤ (0 : Int32) then some (x4, S) else (bif inB (x5) 61 then (if (2 : Int32) ≤ (((S).2 9 (ix (x5))) &&& (3 : Int32)) then (bif inB (x5) 61 then (bif inB ((S).2 7 (ix (x5))) 61 then (if ((S).2 5 (ix ((S).2 7 (ix (x5))))) = (4 : Int32) then (bif inB (x5) 61 then ((f_M_has n (S) ((S).2 7 (ix (x5))) (x1) (x2)).bind (fun q4 => (if q4.1 = (0 : Int32) then (bif inB (x5) 61 then (bif inB ((q4.2).2 8 (ix (x5))) 61 then (if ((q4.2).2 5 (ix ((q4.2).2 8 (ix (x5))))) = (4 : Int32) then (bif inB (x5) 61 then ((f_M_has n (q4.2) ((q4.2).2 8 (ix (x5))) (x1) (x2)).bind (fun q7 => (if q7.1 = (0 : Int32) then f_M_drawn_B92 n (q7.2) (x1) (x2) ((45 : Int32)) ((0 : Int32)) else (bif inB (x5) 61 then f_M_drawn_B92 n (q7.2) (x1) (x2) ((45 : Int32)) ((q7.2).2 8 (ix (x5))) else none)))) else none) else f_M_drawn_B92 n (q4.2) (x1) (x2) ((45 : Int32)) ((0 : Int32))) else none) else none) else (bif inB (x5) 61 then f_M_drawn_B92 n (q4.2) (x1) (x2) ((45 : Int32)) ((q4.2).2 7 (ix (x5))) else none)))) else none) else (bif inB (x5) 61 then (bif inB ((S).2 8 (ix (x5))) 61 then (if ((S).2 5 (ix ((S).2 8 (ix (x5))))) = (4 : Int32) then (bif inB (x5) 61 then ((f_M_has n (S) ((S).2 8 (ix (x5))) (x1) (x2)).bind (fun q5 => (if q5.1 = (0 : Int32) then f_M_drawn_B92 n (q5.2) (x1) (x2) ((45 : Int32)) ((0 : Int32)) else (bif inB (x5) 61 then f_M_drawn_B92 n (q5.2) (x1) (x2) ((45 : Int32)) ((q5.2).2 8 (ix (x5))) else none)))) else none) else f_M_drawn_B92 n (S) (x1) (x2) ((45 : Int32)) ((0 : Int32))) else none) else none)) else none) else none) else (bif inB (x5) 61 then (bif inB ((S).2 7 (ix (x5))) 61 then (if ((S).2 5 (ix ((S).2 7 (ix (x5))))) = (4 : Int32) then (bif inB (x5) 61 then ((f_M_has n (S) ((S).2 7 (ix (x5))) (x1) (x2)).bind (fun q4 => (if q4.1 = (0 : Int32) then (bif inB (x5) 61 then (bif inB ((q4.2).2 8 (ix (x5))) 61 then (if ((q4.2).2 5 (ix ((q4.2).2 8 (ix (x5))))) = (4 : Int32) then (bif inB (x5) 61 then ((f_M_has n (q4.2) ((q4.2).2 8 (ix (x5))) (x1) (x2)).bind (fun q7 => (if q7.1 = (0 : Int32) then f_M_drawn_B92 n (q7.2) (x1) (x2) ((124 : Int32)) ((0 : Int32)) else (bif inB (x5) 61 then f_M_drawn_B92 n (q7.2) (x1) (x2) ((124 : Int32)) ((q7.2).2 8 (ix (x5))) else none)))) else none) else f_M_drawn_B92 n (q4.2) (x1) (x2) ((124 : Int32)) ((0 : Int32))) else none) else none) else (bif inB (x5) 61 then f_M_drawn_B92 n (q4.2) (x1) (x2) ((124 : Int32)) ((q4.2).2 7 (ix (x5))) else none)))) else none) else (bif inB (x5) 61 then (bif inB ((S).2 8 (ix (x5))) 61 then (if ((S).2 5 (ix ((S).2 8 (ix (x5))))) = (4 : Int32) then (bif inB (x5) 61 then ((f_M_has n (S) ((S).2 8 (ix (x5))) (x1) (x2)).bind (fun q5 => (if q5.1 = (0 : Int32) then f_M_drawn_B92 n (q5.2) (x1) (x2) ((124 : Int32)) ((0 : Int32)) else (bif inB (x5) 61 then f_M_drawn_B92 n (q5.2) (x1) (x2) ((124 : Int32)) ((q5.2).2 8 (ix (x5))) else none)))) else none) else f_M_drawn_B92 n (S) (x1) (x2) ((124 : Int32)) ((0 : Int32))) else none) else none)) else none) else none)) else none))
set_option maxHeartbeats 4000000 in
set_option maxRecDepth 100000 in
theorem t_M_drawn_B92 {d m : Nat} {ad : Nat → Nat} {h0 : gHp} {Q : Option gv → gHp → Prop} {res : Int32 × MS} (hQ : ∀ h', MR h0 h' m ad res.2 → Q (some (.inl res.1)) h') : ∀ (n : Nat) (S : MS) (x1 : Int32) (x2 : Int32) (x4 : Int32) (x5 : Int32) (u3 : Option gv) (h : gHp), f_M_drawn_B92 n S x1 x2 x4 x5  = some res → MR h0 h m ad S → gWP (gCall (d + 5)) m_M_drawn Q 92 [some (.inr (some m)), some (.inl x1), some (.inl x2), u3, some (.inl x4), some (.inl x5)] [] h 0 0 := by
  intro n
  induction n with
  | zero =>
    intro S x1 x2 x4 x5  u3 h hf
    cases hf
  | succ n ih =>
    intro S x1 x2 x4 x5  u3 h hf hM
    unfold f_M_drawn_B92 at hf
    refine w_iload rfl rfl ?_
    refine w_if (t := 209) rfl (by decide) (fun c1 => ?_) (fun c1 => ?_)
    · have c1 : x5 ≤ (0 : Int32) := c1
      rw [if_pos c1] at hf
      refine w_iload rfl rfl ?_
      cases hf
      exact w_ireturn rfl (int_ret _) (Nat.le_refl _) (Nat.le_refl _) (hQ _ hM)
    · have c1 : ¬ (x5 ≤ (0 : Int32)) := c1
      rw [if_neg c1] at hf
      refine w_aload_n rfl rfl ?_
      refine m_getR hM rfl rfl rfl (by decide) ?_
      refine w_iload rfl rfl ?_
      obtain ⟨hb, hf⟩ := g_guard hf
      refine m_ld hM rfl rfl (by decide) rfl hb ?_
      refine w_iconst (v := (3 : Int32)) rfl (by decide) ?_
      refine w_iand rfl ?_
      refine w_iconst (v := (2 : Int32)) rfl (by decide) ?_
      refine w_icmp (t := 115) rfl (by decide) (fun c2 => ?_) (fun c2 => ?_)
      · have c2 : (2 : Int32) ≤ (((S).2 9 (ix (x5))) &&& (3 : Int32)) := c2
        rw [if_pos c2] at hf
        refine w_bipush (v := (45 : Int32)) rfl (by decide) ?_
        refine w_istore rfl (Nat.le_of_ble_eq_true rfl) rfl ?_
        refine w_aload_n rfl rfl ?_
        refine m_getR hM rfl rfl rfl (by decide) ?_
        refine w_aload_n rfl rfl ?_
        refine m_getR hM rfl rfl rfl (by decide) ?_
        refine w_iload rfl rfl ?_
        obtain ⟨hb, hf⟩ := g_guard hf
        refine m_ld hM rfl rfl (by decide) rfl hb ?_
        obtain ⟨hb, hf⟩ := g_guard hf
        refine m_ld hM rfl rfl (by decide) rfl hb ?_
        refine w_iconst (v := (4 : Int32)) rfl (by decide) ?_
        refine w_icmp (t := 161) rfl (by decide) (fun c3 => ?_) (fun c3 => ?_)
        · have c3 : ¬ (((S).2 5 (ix ((S).2 7 (ix (x5))))) = (4 : Int32)) := c3
          rw [if_neg c3] at hf
          refine w_aload_n rfl rfl ?_
          refine m_getR hM rfl rfl rfl (by decide) ?_
          refine w_aload_n rfl rfl ?_
          refine m_getR hM rfl rfl rfl (by decide) ?_
          refine w_iload rfl rfl ?_
          obtain ⟨hb, hf⟩ := g_guard hf
          refine m_ld hM rfl rfl (by decide) rfl hb ?_
          obtain ⟨hb, hf⟩ := g_guard hf
          refine m_ld hM rfl rfl (by decide) rfl hb ?_
          refine w_iconst (v := (4 : Int32)) rfl (by decide) ?_
          refine w_icmp (t := 203) rfl (by decide) (fun c4 => ?_) (fun c4 => ?_)
          · have c4 : ¬ (((S).2 5 (ix ((S).2 8 (ix (x5))))) = (4 : Int32)) := c4
            rw [if_neg c4] at hf
            refine w_iconst (v := (0 : Int32)) rfl (by decide) ?_
            refine w_istore rfl (Nat.le_of_ble_eq_true rfl) rfl ?_
            refine w_goto (t := 92) rfl (by decide) ?_
            exact ih _ (x1) (x2) ((45 : Int32)) ((0 : Int32)) _ _ hf hM
          · have c4 : ((S).2 5 (ix ((S).2 8 (ix (x5))))) = (4 : Int32) := Classical.not_not.mp c4
            rw [if_pos c4] at hf
            refine w_aload_n rfl rfl ?_
            refine w_aload_n rfl rfl ?_
            refine m_getR hM rfl rfl rfl (by decide) ?_
            refine w_iload rfl rfl ?_
            obtain ⟨hb, hf⟩ := g_guard hf
            refine m_ld hM rfl rfl (by decide) rfl hb ?_
            refine w_iload_n rfl rfl ?_
            refine w_iload_n rfl rfl ?_
            obtain ⟨q5, hc, hf⟩ := g_bind hf
            refine w_virtual [_, _, _] _ rfl rfl rfl rfl (Nat.le_of_ble_eq_true rfl) hM.1 rfl (Nat.le_of_ble_eq_true rfl) (Nat.le_of_ble_eq_true rfl) (t_M_has (d := d + 3) hc hM (fun h hM => ?_))
            refine w_if (t := 203) rfl (by decide) (fun c6 => ?_) (fun c6 => ?_)
            · have c6 : q5.1 = (0 : Int32) := c6
              rw [if_pos c6] at hf
              refine w_iconst (v := (0 : Int32)) rfl (by decide) ?_
              refine w_istore rfl (Nat.le_of_ble_eq_true rfl) rfl ?_
              refine w_goto (t := 92) rfl (by decide) ?_
              exact ih _ (x1) (x2) ((45 : Int32)) ((0 : Int32)) _ _ hf hM
            · have c6 : ¬ (q5.1 = (0 : Int32)) := c6
              rw [if_neg c6] at hf
              refine w_aload_n rfl rfl ?_
              refine m_getR hM rfl rfl rfl (by decide) ?_
              refine w_iload rfl rfl ?_
              obtain ⟨hb, hf⟩ := g_guard hf
              refine m_ld hM rfl rfl (by decide) rfl hb ?_
              refine w_goto (t := 204) rfl (by decide) ?_
              refine w_istore rfl (Nat.le_of_ble_eq_true rfl) rfl ?_
              refine w_goto (t := 92) rfl (by decide) ?_
              exact ih _ (x1) (x2) ((45 : Int32)) ((q5.2).2 8 (ix (x5))) _ _ hf hM
        · have c3 : ((S).2 5 (ix ((S).2 7 (ix (x5))))) = (4 : Int32) := Classical.not_not.mp c3
          rw [if_pos c3] at hf
          refine w_aload_n rfl rfl ?_
          refine w_aload_n rfl rfl ?_
          refine m_getR hM rfl rfl rfl (by decide) ?_
          refine w_iload rfl rfl ?_
          obtain ⟨hb, hf⟩ := g_guard hf
          refine m_ld hM rfl rfl (by decide) rfl hb ?_
          refine w_iload_n rfl rfl ?_
          refine w_iload_n rfl rfl ?_
          obtain ⟨q4, hc, hf⟩ := g_bind hf
          refine w_virtual [_, _, _] _ rfl rfl rfl rfl (Nat.le_of_ble_eq_true rfl) hM.1 rfl (Nat.le_of_ble_eq_true rfl) (Nat.le_of_ble_eq_true rfl) (t_M_has (d := d + 3) hc hM (fun h hM => ?_))
          refine w_if (t := 161) rfl (by decide) (fun c5 => ?_) (fun c5 => ?_)
          · have c5 : q4.1 = (0 : Int32) := c5
            rw [if_pos c5] at hf
            refine w_aload_n rfl rfl ?_
            refine m_getR hM rfl rfl rfl (by decide) ?_
            refine w_aload_n rfl rfl ?_
            refine m_getR hM rfl rfl rfl (by decide) ?_
            refine w_iload rfl rfl ?_
            obtain ⟨hb, hf⟩ := g_guard hf
            refine m_ld hM rfl rfl (by decide) rfl hb ?_
            obtain ⟨hb, hf⟩ := g_guard hf
            refine m_ld hM rfl rfl (by decide) rfl hb ?_
            refine w_iconst (v := (4 : Int32)) rfl (by decide) ?_
            refine w_icmp (t := 203) rfl (by decide) (fun c6 => ?_) (fun c6 => ?_)
            · have c6 : ¬ (((q4.2).2 5 (ix ((q4.2).2 8 (ix (x5))))) = (4 : Int32)) := c6
              rw [if_neg c6] at hf
              refine w_iconst (v := (0 : Int32)) rfl (by decide) ?_
              refine w_istore rfl (Nat.le_of_ble_eq_true rfl) rfl ?_
              refine w_goto (t := 92) rfl (by decide) ?_
              exact ih _ (x1) (x2) ((45 : Int32)) ((0 : Int32)) _ _ hf hM
            · have c6 : ((q4.2).2 5 (ix ((q4.2).2 8 (ix (x5))))) = (4 : Int32) := Classical.not_not.mp c6
              rw [if_pos c6] at hf
              refine w_aload_n rfl rfl ?_
              refine w_aload_n rfl rfl ?_
              refine m_getR hM rfl rfl rfl (by decide) ?_
              refine w_iload rfl rfl ?_
              obtain ⟨hb, hf⟩ := g_guard hf
              refine m_ld hM rfl rfl (by decide) rfl hb ?_
              refine w_iload_n rfl rfl ?_
              refine w_iload_n rfl rfl ?_
              obtain ⟨q7, hc, hf⟩ := g_bind hf
              refine w_virtual [_, _, _] _ rfl rfl rfl rfl (Nat.le_of_ble_eq_true rfl) hM.1 rfl (Nat.le_of_ble_eq_true rfl) (Nat.le_of_ble_eq_true rfl) (t_M_has (d := d + 3) hc hM (fun h hM => ?_))
              refine w_if (t := 203) rfl (by decide) (fun c8 => ?_) (fun c8 => ?_)
              · have c8 : q7.1 = (0 : Int32) := c8
                rw [if_pos c8] at hf
                refine w_iconst (v := (0 : Int32)) rfl (by decide) ?_
                refine w_istore rfl (Nat.le_of_ble_eq_true rfl) rfl ?_
                refine w_goto (t := 92) rfl (by decide) ?_
                exact ih _ (x1) (x2) ((45 : Int32)) ((0 : Int32)) _ _ hf hM
              · have c8 : ¬ (q7.1 = (0 : Int32)) := c8
                rw [if_neg c8] at hf
                refine w_aload_n rfl rfl ?_
                refine m_getR hM rfl rfl rfl (by decide) ?_
                refine w_iload rfl rfl ?_
                obtain ⟨hb, hf⟩ := g_guard hf
                refine m_ld hM rfl rfl (by decide) rfl hb ?_
                refine w_goto (t := 204) rfl (by decide) ?_
                refine w_istore rfl (Nat.le_of_ble_eq_true rfl) rfl ?_
                refine w_goto (t := 92) rfl (by decide) ?_
                exact ih _ (x1) (x2) ((45 : Int32)) ((q7.2).2 8 (ix (x5))) _ _ hf hM
          · have c5 : ¬ (q4.1 = (0 : Int32)) := c5
            rw [if_neg c5] at hf
            refine w_aload_n rfl rfl ?_
            refine m_getR hM rfl rfl rfl (by decide) ?_
            refine w_iload rfl rfl ?_
            obtain ⟨hb, hf⟩ := g_guard hf
            refine m_ld hM rfl rfl (by decide) rfl hb ?_
            refine w_goto (t := 204) rfl (by decide) ?_
            refine w_istore rfl (Nat.le_of_ble_eq_true rfl) rfl ?_
            refine w_goto (t := 92) rfl (by decide) ?_
            exact ih _ (x1) (x2) ((45 : Int32)) ((q4.2).2 7 (ix (x5))) _ _ hf hM
      · have c2 : ¬ ((2 : Int32) ≤ (((S).2 9 (ix (x5))) &&& (3 : Int32))) := c2
        rw [if_neg c2] at hf
        refine w_bipush (v := (124 : Int32)) rfl (by decide) ?_
        refine w_goto (t := 117) rfl (by decide) ?_
        refine w_istore rfl (Nat.le_of_ble_eq_true rfl) rfl ?_
        refine w_aload_n rfl rfl ?_
        refine m_getR hM rfl rfl rfl (by decide) ?_
        refine w_aload_n rfl rfl ?_
        refine m_getR hM rfl rfl rfl (by decide) ?_
        refine w_iload rfl rfl ?_
        obtain ⟨hb, hf⟩ := g_guard hf
        refine m_ld hM rfl rfl (by decide) rfl hb ?_
        obtain ⟨hb, hf⟩ := g_guard hf
        refine m_ld hM rfl rfl (by decide) rfl hb ?_
        refine w_iconst (v := (4 : Int32)) rfl (by decide) ?_
        refine w_icmp (t := 161) rfl (by decide) (fun c3 => ?_) (fun c3 => ?_)
        · have c3 : ¬ (((S).2 5 (ix ((S).2 7 (ix (x5))))) = (4 : Int32)) := c3
          rw [if_neg c3] at hf
          refine w_aload_n rfl rfl ?_
          refine m_getR hM rfl rfl rfl (by decide) ?_
          refine w_aload_n rfl rfl ?_
          refine m_getR hM rfl rfl rfl (by decide) ?_
          refine w_iload rfl rfl ?_
          obtain ⟨hb, hf⟩ := g_guard hf
          refine m_ld hM rfl rfl (by decide) rfl hb ?_
          obtain ⟨hb, hf⟩ := g_guard hf
          refine m_ld hM rfl rfl (by decide) rfl hb ?_
          refine w_iconst (v := (4 : Int32)) rfl (by decide) ?_
          refine w_icmp (t := 203) rfl (by decide) (fun c4 => ?_) (fun c4 => ?_)
          · have c4 : ¬ (((S).2 5 (ix ((S).2 8 (ix (x5))))) = (4 : Int32)) := c4
            rw [if_neg c4] at hf
            refine w_iconst (v := (0 : Int32)) rfl (by decide) ?_
            refine w_istore rfl (Nat.le_of_ble_eq_true rfl) rfl ?_
            refine w_goto (t := 92) rfl (by decide) ?_
            exact ih _ (x1) (x2) ((124 : Int32)) ((0 : Int32)) _ _ hf hM
          · have c4 : ((S).2 5 (ix ((S).2 8 (ix (x5))))) = (4 : Int32) := Classical.not_not.mp c4
            rw [if_pos c4] at hf
            refine w_aload_n rfl rfl ?_
            refine w_aload_n rfl rfl ?_
            refine m_getR hM rfl rfl rfl (by decide) ?_
            refine w_iload rfl rfl ?_
            obtain ⟨hb, hf⟩ := g_guard hf
            refine m_ld hM rfl rfl (by decide) rfl hb ?_
            refine w_iload_n rfl rfl ?_
            refine w_iload_n rfl rfl ?_
            obtain ⟨q5, hc, hf⟩ := g_bind hf
            refine w_virtual [_, _, _] _ rfl rfl rfl rfl (Nat.le_of_ble_eq_true rfl) hM.1 rfl (Nat.le_of_ble_eq_true rfl) (Nat.le_of_ble_eq_true rfl) (t_M_has (d := d + 3) hc hM (fun h hM => ?_))
            refine w_if (t := 203) rfl (by decide) (fun c6 => ?_) (fun c6 => ?_)
            · have c6 : q5.1 = (0 : Int32) := c6
              rw [if_pos c6] at hf
              refine w_iconst (v := (0 : Int32)) rfl (by decide) ?_
              refine w_istore rfl (Nat.le_of_ble_eq_true rfl) rfl ?_
              refine w_goto (t := 92) rfl (by decide) ?_
              exact ih _ (x1) (x2) ((124 : Int32)) ((0 : Int32)) _ _ hf hM
            · have c6 : ¬ (q5.1 = (0 : Int32)) := c6
              rw [if_neg c6] at hf
              refine w_aload_n rfl rfl ?_
              refine m_getR hM rfl rfl rfl (by decide) ?_
              refine w_iload rfl rfl ?_
              obtain ⟨hb, hf⟩ := g_guard hf
              refine m_ld hM rfl rfl (by decide) rfl hb ?_
              refine w_goto (t := 204) rfl (by decide) ?_
              refine w_istore rfl (Nat.le_of_ble_eq_true rfl) rfl ?_
              refine w_goto (t := 92) rfl (by decide) ?_
              exact ih _ (x1) (x2) ((124 : Int32)) ((q5.2).2 8 (ix (x5))) _ _ hf hM
        · have c3 : ((S).2 5 (ix ((S).2 7 (ix (x5))))) = (4 : Int32) := Classical.not_not.mp c3
          rw [if_pos c3] at hf
          refine w_aload_n rfl rfl ?_
          refine w_aload_n rfl rfl ?_
          refine m_getR hM rfl rfl rfl (by decide) ?_
          refine w_iload rfl rfl ?_
          obtain ⟨hb, hf⟩ := g_guard hf
          refine m_ld hM rfl rfl (by decide) rfl hb ?_
          refine w_iload_n rfl rfl ?_
          refine w_iload_n rfl rfl ?_
          obtain ⟨q4, hc, hf⟩ := g_bind hf
          refine w_virtual [_, _, _] _ rfl rfl rfl rfl (Nat.le_of_ble_eq_true rfl) hM.1 rfl (Nat.le_of_ble_eq_true rfl) (Nat.le_of_ble_eq_true rfl) (t_M_has (d := d + 3) hc hM (fun h hM => ?_))
          refine w_if (t := 161) rfl (by decide) (fun c5 => ?_) (fun c5 => ?_)
          · have c5 : q4.1 = (0 : Int32) := c5
            rw [if_pos c5] at hf
            refine w_aload_n rfl rfl ?_
            refine m_getR hM rfl rfl rfl (by decide) ?_
            refine w_aload_n rfl rfl ?_
            refine m_getR hM rfl rfl rfl (by decide) ?_
            refine w_iload rfl rfl ?_
            obtain ⟨hb, hf⟩ := g_guard hf
            refine m_ld hM rfl rfl (by decide) rfl hb ?_
            obtain ⟨hb, hf⟩ := g_guard hf
            refine m_ld hM rfl rfl (by decide) rfl hb ?_
            refine w_iconst (v := (4 : Int32)) rfl (by decide) ?_
            refine w_icmp (t := 203) rfl (by decide) (fun c6 => ?_) (fun c6 => ?_)
            · have c6 : ¬ (((q4.2).2 5 (ix ((q4.2).2 8 (ix (x5))))) = (4 : Int32)) := c6
              rw [if_neg c6] at hf
              refine w_iconst (v := (0 : Int32)) rfl (by decide) ?_
              refine w_istore rfl (Nat.le_of_ble_eq_true rfl) rfl ?_
              refine w_goto (t := 92) rfl (by decide) ?_
              exact ih _ (x1) (x2) ((124 : Int32)) ((0 : Int32)) _ _ hf hM
            · have c6 : ((q4.2).2 5 (ix ((q4.2).2 8 (ix (x5))))) = (4 : Int32) := Classical.not_not.mp c6
              rw [if_pos c6] at hf
              refine w_aload_n rfl rfl ?_
              refine w_aload_n rfl rfl ?_
              refine m_getR hM rfl rfl rfl (by decide) ?_
              refine w_iload rfl rfl ?_
              obtain ⟨hb, hf⟩ := g_guard hf
              refine m_ld hM rfl rfl (by decide) rfl hb ?_
              refine w_iload_n rfl rfl ?_
              refine w_iload_n rfl rfl ?_
              obtain ⟨q7, hc, hf⟩ := g_bind hf
              refine w_virtual [_, _, _] _ rfl rfl rfl rfl (Nat.le_of_ble_eq_true rfl) hM.1 rfl (Nat.le_of_ble_eq_true rfl) (Nat.le_of_ble_eq_true rfl) (t_M_has (d := d + 3) hc hM (fun h hM => ?_))
              refine w_if (t := 203) rfl (by decide) (fun c8 => ?_) (fun c8 => ?_)
              · have c8 : q7.1 = (0 : Int32) := c8
                rw [if_pos c8] at hf
                refine w_iconst (v := (0 : Int32)) rfl (by decide) ?_
                refine w_istore rfl (Nat.le_of_ble_eq_true rfl) rfl ?_
                refine w_goto (t := 92) rfl (by decide) ?_
                exact ih _ (x1) (x2) ((124 : Int32)) ((0 : Int32)) _ _ hf hM
              · have c8 : ¬ (q7.1 = (0 : Int32)) := c8
                rw [if_neg c8] at hf
                refine w_aload_n rfl rfl ?_
                refine m_getR hM rfl rfl rfl (by decide) ?_
                refine w_iload rfl rfl ?_
                obtain ⟨hb, hf⟩ := g_guard hf
                refine m_ld hM rfl rfl (by decide) rfl hb ?_
                refine w_goto (t := 204) rfl (by decide) ?_
                refine w_istore rfl (Nat.le_of_ble_eq_true rfl) rfl ?_
                refine w_goto (t := 92) rfl (by decide) ?_
                exact ih _ (x1) (x2) ((124 : Int32)) ((q7.2).2 8 (ix (x5))) _ _ hf hM
          · have c5 : ¬ (q4.1 = (0 : Int32)) := c5
            rw [if_neg c5] at hf
            refine w_aload_n rfl rfl ?_
            refine m_getR hM rfl rfl rfl (by decide) ?_
            refine w_iload rfl rfl ?_
            obtain ⟨hb, hf⟩ := g_guard hf
            refine m_ld hM rfl rfl (by decide) rfl hb ?_
            refine w_goto (t := 204) rfl (by decide) ?_
            refine w_istore rfl (Nat.le_of_ble_eq_true rfl) rfl ?_
            refine w_goto (t := 92) rfl (by decide) ?_
            exact ih _ (x1) (x2) ((124 : Int32)) ((q4.2).2 7 (ix (x5))) _ _ hf hM
def f_M_drawn (n : Nat) (S : MS) (x1 : Int32) (x2 : Int32) : Option (Int32 × MS) := ((f_M_isScreen n (S) (x1) (x2)).bind (fun q1 => (if q1.1 = (0 : Int32) then some ((-1 : Int32), q1.2) else ((f_M_paneAt n (q1.2) (x1) (x2)).bind (fun q3 => (if q3.1 ≤ (0 : Int32) then f_M_drawn_B92  n (q3.2) (x1) (x2) ((32 : Int32)) ((q3.2).1 3) else ((f_M_isWritable n (q3.2) (q3.1)).bind (fun q5 => (if q5.1 = (0 : Int32) then (bif inB (q3.1) 61 then (if ((q5.2).2 5 (ix (q3.1))) = (3 : Int32) then (bif inB (q3.1) 61 then (if ((q5.2).2 20 (ix (q3.1))) ≤ (0 : Int32) then some ((32 : Int32), q5.2) else some ((35 : Int32), q5.2)) else none) else some ((32 : Int32), q5.2)) else none) else (bif inB (q3.1) 61 then (bif inB (q3.1) 61 then ((f_M_shownAt n (q5.2) (q3.1) (x1 - ((q5.2).2 12 (ix (q3.1)))) (x2 - ((q5.2).2 13 (ix (q3.1)))) ((0 : Int32))).bind (fun q7 => some (q7.1, q7.2))) else none) else none))))))))))
set_option maxHeartbeats 4000000 in
set_option maxRecDepth 100000 in
theorem t_M_drawn {d m n : Nat} {ad : Nat → Nat} {h0 h : gHp} {Q : Option gv → gHp → Prop} {S : MS} {x1 : Int32} {x2 : Int32} {res : Int32 × MS} (hf : f_M_drawn n S x1 x2 = some res) (hM : MR h0 h m ad S) (hQ : ∀ h', MR h0 h' m ad res.2 → Q (some (.inl res.1)) h') : gCall (d + 6) m_M_drawn [.inr (some m), .inl x1, .inl x2] h Q := by
  unfold f_M_drawn at hf
  refine g_enter (d := d + 5) (Nat.le_of_ble_eq_true rfl) ?_
  show gWP (gCall (d + 5)) m_M_drawn Q 0 [some (.inr (some m)), some (.inl x1), some (.inl x2), none, none, none] [] h 0 0
  refine w_aload_n rfl rfl ?_
  refine w_iload_n rfl rfl ?_
  refine w_iload_n rfl rfl ?_
  obtain ⟨q1, hc, hf⟩ := g_bind hf
  refine w_virtual [_, _] _ rfl rfl rfl rfl (Nat.le_of_ble_eq_true rfl) hM.1 rfl (Nat.le_of_ble_eq_true rfl) (Nat.le_of_ble_eq_true rfl) (t_M_isScreen (d := d + 3) hc hM (fun h hM => ?_))
  refine w_if (t := 11) rfl (by decide) (fun c2 => ?_) (fun c2 => ?_)
  · have c2 : ¬ (q1.1 = (0 : Int32)) := c2
    rw [if_neg c2] at hf
    refine w_aload_n rfl rfl ?_
    refine w_iload_n rfl rfl ?_
    refine w_iload_n rfl rfl ?_
    obtain ⟨q3, hc, hf⟩ := g_bind hf
    refine w_virtual [_, _] _ rfl rfl rfl rfl (Nat.le_of_ble_eq_true rfl) hM.1 rfl (Nat.le_of_ble_eq_true rfl) (Nat.le_of_ble_eq_true rfl) (t_M_paneAt (d := d + 2) hc hM (fun h hM => ?_))
    refine w_istore_n rfl (Nat.le_of_ble_eq_true rfl) rfl ?_
    refine w_iload_n rfl rfl ?_
    refine w_if (t := 82) rfl (by decide) (fun c4 => ?_) (fun c4 => ?_)
    · have c4 : q3.1 ≤ (0 : Int32) := c4
      rw [if_pos c4] at hf
      refine w_bipush (v := (32 : Int32)) rfl (by decide) ?_
      refine w_istore rfl (Nat.le_of_ble_eq_true rfl) rfl ?_
      refine w_aload_n rfl rfl ?_
      refine m_getI hM rfl rfl rfl ?_
      refine w_istore rfl (Nat.le_of_ble_eq_true rfl) rfl ?_
      exact t_M_drawn_B92  hQ _ _ (x1) (x2) ((32 : Int32)) ((q3.2).1 3) _ _ hf hM
    · have c4 : ¬ (q3.1 ≤ (0 : Int32)) := c4
      rw [if_neg c4] at hf
      refine w_aload_n rfl rfl ?_
      refine w_iload_n rfl rfl ?_
      obtain ⟨q5, hc, hf⟩ := g_bind hf
      refine w_virtual [_] _ rfl rfl rfl rfl (Nat.le_of_ble_eq_true rfl) hM.1 rfl (Nat.le_of_ble_eq_true rfl) (Nat.le_of_ble_eq_true rfl) (t_M_isWritable (d := d + 4) hc hM (fun h hM => ?_))
      refine w_if (t := 55) rfl (by decide) (fun c6 => ?_) (fun c6 => ?_)
      · have c6 : q5.1 = (0 : Int32) := c6
        rw [if_pos c6] at hf
        refine w_aload_n rfl rfl ?_
        refine m_getR hM rfl rfl rfl (by decide) ?_
        refine w_iload_n rfl rfl ?_
        obtain ⟨hb, hf⟩ := g_guard hf
        refine m_ld hM rfl rfl (by decide) rfl hb ?_
        refine w_iconst (v := (3 : Int32)) rfl (by decide) ?_
        refine w_icmp (t := 79) rfl (by decide) (fun c7 => ?_) (fun c7 => ?_)
        · have c7 : ¬ (((q5.2).2 5 (ix (q3.1))) = (3 : Int32)) := c7
          rw [if_neg c7] at hf
          refine w_bipush (v := (32 : Int32)) rfl (by decide) ?_
          cases hf
          exact w_ireturn rfl (int_ret _) (Nat.le_refl _) (Nat.le_refl _) (hQ _ hM)
        · have c7 : ((q5.2).2 5 (ix (q3.1))) = (3 : Int32) := Classical.not_not.mp c7
          rw [if_pos c7] at hf
          refine w_aload_n rfl rfl ?_
          refine m_getR hM rfl rfl rfl (by decide) ?_
          refine w_iload_n rfl rfl ?_
          obtain ⟨hb, hf⟩ := g_guard hf
          refine m_ld hM rfl rfl (by decide) rfl hb ?_
          refine w_if (t := 79) rfl (by decide) (fun c8 => ?_) (fun c8 => ?_)
          · have c8 : ((q5.2).2 20 (ix (q3.1))) ≤ (0 : Int32) := c8
            rw [if_pos c8] at hf
            refine w_bipush (v := (32 : Int32)) rfl (by decide) ?_
            cases hf
            exact w_ireturn rfl (int_ret _) (Nat.le_refl _) (Nat.le_refl _) (hQ _ hM)
          · have c8 : ¬ (((q5.2).2 20 (ix (q3.1))) ≤ (0 : Int32)) := c8
            rw [if_neg c8] at hf
            refine w_bipush (v := (35 : Int32)) rfl (by decide) ?_
            refine w_goto (t := 81) rfl (by decide) ?_
            cases hf
            exact w_ireturn rfl (int_ret _) (Nat.le_refl _) (Nat.le_refl _) (hQ _ hM)
      · have c6 : ¬ (q5.1 = (0 : Int32)) := c6
        rw [if_neg c6] at hf
        refine w_aload_n rfl rfl ?_
        refine w_iload_n rfl rfl ?_
        refine w_iload_n rfl rfl ?_
        refine w_aload_n rfl rfl ?_
        refine m_getR hM rfl rfl rfl (by decide) ?_
        refine w_iload_n rfl rfl ?_
        obtain ⟨hb, hf⟩ := g_guard hf
        refine m_ld hM rfl rfl (by decide) rfl hb ?_
        refine w_isub rfl ?_
        refine w_iload_n rfl rfl ?_
        refine w_aload_n rfl rfl ?_
        refine m_getR hM rfl rfl rfl (by decide) ?_
        refine w_iload_n rfl rfl ?_
        obtain ⟨hb, hf⟩ := g_guard hf
        refine m_ld hM rfl rfl (by decide) rfl hb ?_
        refine w_isub rfl ?_
        refine w_iconst (v := (0 : Int32)) rfl (by decide) ?_
        obtain ⟨q7, hc, hf⟩ := g_bind hf
        refine w_virtual [_, _, _, _] _ rfl rfl rfl rfl (Nat.le_of_ble_eq_true rfl) hM.1 rfl (Nat.le_of_ble_eq_true rfl) (Nat.le_of_ble_eq_true rfl) (t_M_shownAt (d := d + 0) hc hM (fun h hM => ?_))
        refine w_goto (t := 81) rfl (by decide) ?_
        cases hf
        exact w_ireturn rfl (int_ret _) (Nat.le_refl _) (Nat.le_refl _) (hQ _ hM)
  · have c2 : q1.1 = (0 : Int32) := Classical.not_not.mp c2
    rw [if_pos c2] at hf
    refine w_iconst (v := (-1 : Int32)) rfl (by decide) ?_
    cases hf
    exact w_ireturn rfl (int_ret _) (Nat.le_refl _) (Nat.le_refl _) (hQ _ hM)
