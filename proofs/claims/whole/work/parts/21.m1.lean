def f_M_isPane (n : Nat) (S : MS) (x1 : Int32) : Option (Int32 × MS) := ((f_M_in n (S) (x1) ((1 : Int32)) ((60 : Int32))).bind (fun q1 => (if q1.1 = (0 : Int32) then some ((0 : Int32), q1.2) else (bif inB (x1) 61 then (if ((q1.2).2 4 (ix (x1))) = (0 : Int32) then some ((0 : Int32), q1.2) else some ((1 : Int32), q1.2)) else none))))
set_option maxHeartbeats 4000000 in
set_option maxRecDepth 100000 in
theorem t_M_isPane {d m n : Nat} {ad : Nat → Nat} {h0 h : gHp} {Q : Option gv → gHp → Prop} {S : MS} {x1 : Int32} {res : Int32 × MS} (hf : f_M_isPane n S x1 = some res) (hM : MR h0 h m ad S) (hQ : ∀ h', MR h0 h' m ad res.2 → Q (some (.inl res.1)) h') : gCall (d + 2) m_M_isPane [.inr (some m), .inl x1] h Q := by
  unfold f_M_isPane at hf
  refine g_enter (d := d + 1) (Nat.le_of_ble_eq_true rfl) ?_
  show gWP (gCall (d + 1)) m_M_isPane Q 0 [some (.inr (some m)), some (.inl x1)] [] h 0 0
  refine w_iload_n rfl rfl ?_
  refine w_iconst (v := (1 : Int32)) rfl (by decide) ?_
  refine w_bipush (v := (60 : Int32)) rfl (by decide) ?_
  obtain ⟨q1, hc, hf⟩ := g_bind hf
  refine w_static [_, _, _] _ rfl rfl rfl rfl (Nat.le_of_ble_eq_true rfl) (Nat.le_of_ble_eq_true rfl) (Nat.le_of_ble_eq_true rfl) (t_M_in (d := d + 0) hc hM (fun h hM => ?_))
  refine w_if (t := 23) rfl (by decide) (fun c2 => ?_) (fun c2 => ?_)
  · have c2 : q1.1 = (0 : Int32) := c2
    rw [if_pos c2] at hf
    refine w_iconst (v := (0 : Int32)) rfl (by decide) ?_
    cases hf
    exact w_ireturn rfl (isZ_ret rfl) (Nat.le_refl _) (Nat.le_refl _) (hQ _ hM)
  · have c2 : ¬ (q1.1 = (0 : Int32)) := c2
    rw [if_neg c2] at hf
    refine w_aload_n rfl rfl ?_
    refine m_getR hM rfl rfl rfl (by decide) ?_
    refine w_iload_n rfl rfl ?_
    obtain ⟨hb, hf⟩ := g_guard hf
    refine m_zld hM rfl rfl (by decide) rfl hb ?_
    refine w_if (t := 23) rfl (by decide) (fun c3 => ?_) (fun c3 => ?_)
    · have c3 : ((q1.2).2 4 (ix (x1))) = (0 : Int32) := c3
      rw [if_pos c3] at hf
      refine w_iconst (v := (0 : Int32)) rfl (by decide) ?_
      cases hf
      exact w_ireturn rfl (isZ_ret rfl) (Nat.le_refl _) (Nat.le_refl _) (hQ _ hM)
    · have c3 : ¬ (((q1.2).2 4 (ix (x1))) = (0 : Int32)) := c3
      rw [if_neg c3] at hf
      refine w_iconst (v := (1 : Int32)) rfl (by decide) ?_
      refine w_goto (t := 24) rfl (by decide) ?_
      cases hf
      exact w_ireturn rfl (isZ_ret rfl) (Nat.le_refl _) (Nat.le_refl _) (hQ _ hM)
def f_M_event_1 (n : Nat) (S : MS) (x1 : Int32) : Option (Int32 × MS) := ((f_M_in n (S) (x1) ((0 : Int32)) ((43 : Int32))).bind (fun q1 => (if q1.1 = (0 : Int32) then some ((-1 : Int32), q1.2) else (if ((q1.2).1 42) = (0 : Int32) then some ((-2 : Int32), q1.2) else (bif inB ((880 : Int32) + x1) 924 then some ((q1.2).2 43 (ix ((880 : Int32) + x1)), q1.2) else none)))))
set_option maxHeartbeats 4000000 in
set_option maxRecDepth 100000 in
theorem t_M_event_1 {d m n : Nat} {ad : Nat → Nat} {h0 h : gHp} {Q : Option gv → gHp → Prop} {S : MS} {x1 : Int32} {res : Int32 × MS} (hf : f_M_event_1 n S x1 = some res) (hM : MR h0 h m ad S) (hQ : ∀ h', MR h0 h' m ad res.2 → Q (some (.inl res.1)) h') : gCall (d + 2) m_M_event_1 [.inr (some m), .inl x1] h Q := by
  unfold f_M_event_1 at hf
  refine g_enter (d := d + 1) (Nat.le_of_ble_eq_true rfl) ?_
  show gWP (gCall (d + 1)) m_M_event_1 Q 0 [some (.inr (some m)), some (.inl x1)] [] h 0 0
  refine w_iload_n rfl rfl ?_
  refine w_iconst (v := (0 : Int32)) rfl (by decide) ?_
  refine w_bipush (v := (43 : Int32)) rfl (by decide) ?_
  obtain ⟨q1, hc, hf⟩ := g_bind hf
  refine w_static [_, _, _] _ rfl rfl rfl rfl (Nat.le_of_ble_eq_true rfl) (Nat.le_of_ble_eq_true rfl) (Nat.le_of_ble_eq_true rfl) (t_M_in (d := d + 0) hc hM (fun h hM => ?_))
  refine w_if (t := 14) rfl (by decide) (fun c2 => ?_) (fun c2 => ?_)
  · have c2 : ¬ (q1.1 = (0 : Int32)) := c2
    rw [if_neg c2] at hf
    refine w_aload_n rfl rfl ?_
    refine m_getI hM rfl rfl rfl ?_
    refine w_if (t := 34) rfl (by decide) (fun c3 => ?_) (fun c3 => ?_)
    · have c3 : ((q1.2).1 42) = (0 : Int32) := c3
      rw [if_pos c3] at hf
      refine w_bipush (v := (-2 : Int32)) rfl (by decide) ?_
      cases hf
      exact w_ireturn rfl (int_ret _) (Nat.le_refl _) (Nat.le_refl _) (hQ _ hM)
    · have c3 : ¬ (((q1.2).1 42) = (0 : Int32)) := c3
      rw [if_neg c3] at hf
      refine w_aload_n rfl rfl ?_
      refine m_getR hM rfl rfl rfl (by decide) ?_
      refine w_sipush (v := (880 : Int32)) rfl (by decide) ?_
      refine w_iload_n rfl rfl ?_
      refine w_iadd rfl ?_
      obtain ⟨hb, hf⟩ := g_guard hf
      refine m_ld hM rfl rfl (by decide) rfl hb ?_
      refine w_goto (t := 36) rfl (by decide) ?_
      cases hf
      exact w_ireturn rfl (int_ret _) (Nat.le_refl _) (Nat.le_refl _) (hQ _ hM)
  · have c2 : q1.1 = (0 : Int32) := Classical.not_not.mp c2
    rw [if_pos c2] at hf
    refine w_iconst (v := (-1 : Int32)) rfl (by decide) ?_
    refine w_goto (t := 36) rfl (by decide) ?_
    cases hf
    exact w_ireturn rfl (int_ret _) (Nat.le_refl _) (Nat.le_refl _) (hQ _ hM)
def f_M_isMethod (n : Nat) (S : MS) (x1 : Int32) (x2 : Int32) : Option (Int32 × MS) := ((f_M_in n (S) (x1) ((0 : Int32)) ((15 : Int32))).bind (fun q1 => (if q1.1 = (0 : Int32) then some ((0 : Int32), q1.2) else (if (x1 &&& (4 : Int32)) = (0 : Int32) then ((f_M_in n (q1.2) (x2) ((0 : Int32)) ((999 : Int32))).bind (fun q4 => (if q4.1 = (0 : Int32) then some ((0 : Int32), q4.2) else some ((1 : Int32), q4.2)))) else ((f_M_in n (q1.2) (x2) ((0 : Int32)) ((100 : Int32))).bind (fun q4 => (if q4.1 = (0 : Int32) then some ((0 : Int32), q4.2) else some ((1 : Int32), q4.2))))))))
set_option maxHeartbeats 4000000 in
set_option maxRecDepth 100000 in
theorem t_M_isMethod {d m n : Nat} {ad : Nat → Nat} {h0 h : gHp} {Q : Option gv → gHp → Prop} {S : MS} {x1 : Int32} {x2 : Int32} {res : Int32 × MS} (hf : f_M_isMethod n S x1 x2 = some res) (hM : MR h0 h m ad S) (hQ : ∀ h', MR h0 h' m ad res.2 → Q (some (.inl res.1)) h') : gCall (d + 2) m_M_isMethod [.inr (some m), .inl x1, .inl x2] h Q := by
  unfold f_M_isMethod at hf
  refine g_enter (d := d + 1) (Nat.le_of_ble_eq_true rfl) ?_
  show gWP (gCall (d + 1)) m_M_isMethod Q 0 [some (.inr (some m)), some (.inl x1), some (.inl x2)] [] h 0 0
  refine w_iload_n rfl rfl ?_
  refine w_iconst (v := (0 : Int32)) rfl (by decide) ?_
  refine w_bipush (v := (15 : Int32)) rfl (by decide) ?_
  obtain ⟨q1, hc, hf⟩ := g_bind hf
  refine w_static [_, _, _] _ rfl rfl rfl rfl (Nat.le_of_ble_eq_true rfl) (Nat.le_of_ble_eq_true rfl) (Nat.le_of_ble_eq_true rfl) (t_M_in (d := d + 0) hc hM (fun h hM => ?_))
  refine w_if (t := 36) rfl (by decide) (fun c2 => ?_) (fun c2 => ?_)
  · have c2 : q1.1 = (0 : Int32) := c2
    rw [if_pos c2] at hf
    refine w_iconst (v := (0 : Int32)) rfl (by decide) ?_
    cases hf
    exact w_ireturn rfl (isZ_ret rfl) (Nat.le_refl _) (Nat.le_refl _) (hQ _ hM)
  · have c2 : ¬ (q1.1 = (0 : Int32)) := c2
    rw [if_neg c2] at hf
    refine w_iload_n rfl rfl ?_
    refine w_iconst (v := (0 : Int32)) rfl (by decide) ?_
    refine w_iload_n rfl rfl ?_
    refine w_iconst (v := (4 : Int32)) rfl (by decide) ?_
    refine w_iand rfl ?_
    refine w_if (t := 23) rfl (by decide) (fun c3 => ?_) (fun c3 => ?_)
    · have c3 : (x1 &&& (4 : Int32)) = (0 : Int32) := c3
      rw [if_pos c3] at hf
      refine w_sipush (v := (999 : Int32)) rfl (by decide) ?_
      obtain ⟨q4, hc, hf⟩ := g_bind hf
      refine w_static [_, _, _] _ rfl rfl rfl rfl (Nat.le_of_ble_eq_true rfl) (Nat.le_of_ble_eq_true rfl) (Nat.le_of_ble_eq_true rfl) (t_M_in (d := d + 0) hc hM (fun h hM => ?_))
      refine w_if (t := 36) rfl (by decide) (fun c5 => ?_) (fun c5 => ?_)
      · have c5 : q4.1 = (0 : Int32) := c5
        rw [if_pos c5] at hf
        refine w_iconst (v := (0 : Int32)) rfl (by decide) ?_
        cases hf
        exact w_ireturn rfl (isZ_ret rfl) (Nat.le_refl _) (Nat.le_refl _) (hQ _ hM)
      · have c5 : ¬ (q4.1 = (0 : Int32)) := c5
        rw [if_neg c5] at hf
        refine w_iconst (v := (1 : Int32)) rfl (by decide) ?_
        refine w_goto (t := 37) rfl (by decide) ?_
        cases hf
        exact w_ireturn rfl (isZ_ret rfl) (Nat.le_refl _) (Nat.le_refl _) (hQ _ hM)
    · have c3 : ¬ ((x1 &&& (4 : Int32)) = (0 : Int32)) := c3
      rw [if_neg c3] at hf
      refine w_bipush (v := (100 : Int32)) rfl (by decide) ?_
      refine w_goto (t := 26) rfl (by decide) ?_
      obtain ⟨q4, hc, hf⟩ := g_bind hf
      refine w_static [_, _, _] _ rfl rfl rfl rfl (Nat.le_of_ble_eq_true rfl) (Nat.le_of_ble_eq_true rfl) (Nat.le_of_ble_eq_true rfl) (t_M_in (d := d + 0) hc hM (fun h hM => ?_))
      refine w_if (t := 36) rfl (by decide) (fun c5 => ?_) (fun c5 => ?_)
      · have c5 : q4.1 = (0 : Int32) := c5
        rw [if_pos c5] at hf
        refine w_iconst (v := (0 : Int32)) rfl (by decide) ?_
        cases hf
        exact w_ireturn rfl (isZ_ret rfl) (Nat.le_refl _) (Nat.le_refl _) (hQ _ hM)
      · have c5 : ¬ (q4.1 = (0 : Int32)) := c5
        rw [if_neg c5] at hf
        refine w_iconst (v := (1 : Int32)) rfl (by decide) ?_
        refine w_goto (t := 37) rfl (by decide) ?_
        cases hf
        exact w_ireturn rfl (isZ_ret rfl) (Nat.le_refl _) (Nat.le_refl _) (hQ _ hM)
def f_M_isScreen (n : Nat) (S : MS) (x1 : Int32) (x2 : Int32) : Option (Int32 × MS) := ((f_M_in n (S) (x1) ((0 : Int32)) (((S).1 0) - (1 : Int32))).bind (fun q1 => (if q1.1 = (0 : Int32) then some ((0 : Int32), q1.2) else ((f_M_in n (q1.2) (x2) ((0 : Int32)) (((q1.2).1 1) - (1 : Int32))).bind (fun q3 => (if q3.1 = (0 : Int32) then some ((0 : Int32), q3.2) else some ((1 : Int32), q3.2)))))))
set_option maxHeartbeats 4000000 in
set_option maxRecDepth 100000 in
theorem t_M_isScreen {d m n : Nat} {ad : Nat → Nat} {h0 h : gHp} {Q : Option gv → gHp → Prop} {S : MS} {x1 : Int32} {x2 : Int32} {res : Int32 × MS} (hf : f_M_isScreen n S x1 x2 = some res) (hM : MR h0 h m ad S) (hQ : ∀ h', MR h0 h' m ad res.2 → Q (some (.inl res.1)) h') : gCall (d + 2) m_M_isScreen [.inr (some m), .inl x1, .inl x2] h Q := by
  unfold f_M_isScreen at hf
  refine g_enter (d := d + 1) (Nat.le_of_ble_eq_true rfl) ?_
  show gWP (gCall (d + 1)) m_M_isScreen Q 0 [some (.inr (some m)), some (.inl x1), some (.inl x2)] [] h 0 0
  refine w_iload_n rfl rfl ?_
  refine w_iconst (v := (0 : Int32)) rfl (by decide) ?_
  refine w_aload_n rfl rfl ?_
  refine m_getI hM rfl rfl rfl ?_
  refine w_iconst (v := (1 : Int32)) rfl (by decide) ?_
  refine w_isub rfl ?_
  obtain ⟨q1, hc, hf⟩ := g_bind hf
  refine w_static [_, _, _] _ rfl rfl rfl rfl (Nat.le_of_ble_eq_true rfl) (Nat.le_of_ble_eq_true rfl) (Nat.le_of_ble_eq_true rfl) (t_M_in (d := d + 0) hc hM (fun h hM => ?_))
  refine w_if (t := 32) rfl (by decide) (fun c2 => ?_) (fun c2 => ?_)
  · have c2 : q1.1 = (0 : Int32) := c2
    rw [if_pos c2] at hf
    refine w_iconst (v := (0 : Int32)) rfl (by decide) ?_
    cases hf
    exact w_ireturn rfl (isZ_ret rfl) (Nat.le_refl _) (Nat.le_refl _) (hQ _ hM)
  · have c2 : ¬ (q1.1 = (0 : Int32)) := c2
    rw [if_neg c2] at hf
    refine w_iload_n rfl rfl ?_
    refine w_iconst (v := (0 : Int32)) rfl (by decide) ?_
    refine w_aload_n rfl rfl ?_
    refine m_getI hM rfl rfl rfl ?_
    refine w_iconst (v := (1 : Int32)) rfl (by decide) ?_
    refine w_isub rfl ?_
    obtain ⟨q3, hc, hf⟩ := g_bind hf
    refine w_static [_, _, _] _ rfl rfl rfl rfl (Nat.le_of_ble_eq_true rfl) (Nat.le_of_ble_eq_true rfl) (Nat.le_of_ble_eq_true rfl) (t_M_in (d := d + 0) hc hM (fun h hM => ?_))
    refine w_if (t := 32) rfl (by decide) (fun c4 => ?_) (fun c4 => ?_)
    · have c4 : q3.1 = (0 : Int32) := c4
      rw [if_pos c4] at hf
      refine w_iconst (v := (0 : Int32)) rfl (by decide) ?_
      cases hf
      exact w_ireturn rfl (isZ_ret rfl) (Nat.le_refl _) (Nat.le_refl _) (hQ _ hM)
    · have c4 : ¬ (q3.1 = (0 : Int32)) := c4
      rw [if_neg c4] at hf
      refine w_iconst (v := (1 : Int32)) rfl (by decide) ?_
      refine w_goto (t := 33) rfl (by decide) ?_
      cases hf
      exact w_ireturn rfl (isZ_ret rfl) (Nat.le_refl _) (Nat.le_refl _) (hQ _ hM)
def f_M_drop_B2 : Nat → MS → Int32 → Option (MS)
  | 0, _, _ => none
  | n + 1, S, x1 => (if ((S).1 41) ≤ x1 then some ((S).f 41 (((S).1 41) - (1 : Int32))) else ((f_M_move n (S) (x1) (x1 - (1 : Int32))).bind (fun q2 => f_M_drop_B2 n (q2) (x1 + (1 : Int32)))))
set_option maxHeartbeats 4000000 in
set_option maxRecDepth 100000 in
theorem t_M_drop_B2 {d m : Nat} {ad : Nat → Nat} {h0 : gHp} {Q : Option gv → gHp → Prop} {res : MS} (hQ : ∀ h', MR h0 h' m ad res → Q (none) h') : ∀ (n : Nat) (S : MS) (x1 : Int32) (h : gHp), f_M_drop_B2 n S x1  = some res → MR h0 h m ad S → gWP (gCall (d + 1)) m_M_drop Q 2 [some (.inr (some m)), some (.inl x1)] [] h 0 0 := by
  intro n
  induction n with
  | zero =>
    intro S x1   h hf
    cases hf
  | succ n ih =>
    intro S x1   h hf hM
    unfold f_M_drop_B2 at hf
    refine w_iload_n rfl rfl ?_
    refine w_aload_n rfl rfl ?_
    refine m_getI hM rfl rfl rfl ?_
    refine w_icmp (t := 24) rfl (by decide) (fun c1 => ?_) (fun c1 => ?_)
    · have c1 : ((S).1 41) ≤ x1 := c1
      rw [if_pos c1] at hf
      refine w_aload_n rfl rfl ?_
      refine w_dup rfl ?_
      refine m_getI hM rfl rfl rfl ?_
      refine w_iconst (v := (1 : Int32)) rfl (by decide) ?_
      refine w_isub rfl ?_
      refine m_putI hM rfl rfl rfl rfl (nar_int _) (fun h hM => ?_)
      cases hf
      exact w_return rfl rfl (Nat.le_refl _) (Nat.le_refl _) (hQ _ hM)
    · have c1 : ¬ (((S).1 41) ≤ x1) := c1
      rw [if_neg c1] at hf
      refine w_aload_n rfl rfl ?_
      refine w_iload_n rfl rfl ?_
      refine w_iload_n rfl rfl ?_
      refine w_iconst (v := (1 : Int32)) rfl (by decide) ?_
      refine w_isub rfl ?_
      obtain ⟨q2, hc, hf⟩ := g_bind hf
      refine w_virtual [_, _] _ rfl rfl rfl rfl (Nat.le_of_ble_eq_true rfl) hM.1 rfl (Nat.le_of_ble_eq_true rfl) (Nat.le_of_ble_eq_true rfl) (t_M_move (d := d + 0) hc hM (fun h hM => ?_))
      refine w_iinc (v := (1 : Int32)) rfl rfl (by decide) rfl ?_
      refine w_goto (t := 2) rfl (by decide) ?_
      exact ih _ (x1 + (1 : Int32))  _ hf hM
def f_M_drop (n : Nat) (S : MS) : Option (MS) := f_M_drop_B2  n (S) ((1 : Int32))
set_option maxHeartbeats 4000000 in
set_option maxRecDepth 100000 in
theorem t_M_drop {d m n : Nat} {ad : Nat → Nat} {h0 h : gHp} {Q : Option gv → gHp → Prop} {S : MS} {res : MS} (hf : f_M_drop n S  = some res) (hM : MR h0 h m ad S) (hQ : ∀ h', MR h0 h' m ad res → Q (none) h') : gCall (d + 2) m_M_drop [.inr (some m)] h Q := by
  unfold f_M_drop at hf
  refine g_enter (d := d + 1) (Nat.le_of_ble_eq_true rfl) ?_
  show gWP (gCall (d + 1)) m_M_drop Q 0 [some (.inr (some m)), none] [] h 0 0
  refine w_iconst (v := (1 : Int32)) rfl (by decide) ?_
  refine w_istore_n rfl (Nat.le_of_ble_eq_true rfl) rfl ?_
  exact t_M_drop_B2  hQ _ _ ((1 : Int32))  _ hf hM
def f_M_lay (n : Nat) (S : MS) (x1 : Int32) (x2 : Int32) (x3 : Int32) (x4 : Int32) (x5 : Int32) (x6 : Int32) : Option (MS) := ((f_M_isCell n (S) (x1) (x2) (x3)).bind (fun q1 => (if q1.1 = (0 : Int32) then some (q1.2) else (bif inB ((((1440 : Int32) * x1) + ((60 : Int32) * x3)) + x2) 87840 then (bif inB ((((1440 : Int32) * x1) + ((60 : Int32) * x3)) + x2) 87840 then (bif inB ((((1440 : Int32) * x1) + ((60 : Int32) * x3)) + x2) 87840 then some ((((q1.2).a 29 (ix ((((1440 : Int32) * x1) + ((60 : Int32) * x3)) + x2)) (x4)).a 30 (ix ((((1440 : Int32) * x1) + ((60 : Int32) * x3)) + x2)) (x5)).a 31 (ix ((((1440 : Int32) * x1) + ((60 : Int32) * x3)) + x2)) (x6)) else none) else none) else none))))
set_option maxHeartbeats 4000000 in
set_option maxRecDepth 100000 in
theorem t_M_lay {d m n : Nat} {ad : Nat → Nat} {h0 h : gHp} {Q : Option gv → gHp → Prop} {S : MS} {x1 : Int32} {x2 : Int32} {x3 : Int32} {x4 : Int32} {x5 : Int32} {x6 : Int32} {res : MS} (hf : f_M_lay n S x1 x2 x3 x4 x5 x6 = some res) (hM : MR h0 h m ad S) (hQ : ∀ h', MR h0 h' m ad res → Q (none) h') : gCall (d + 2) m_M_lay [.inr (some m), .inl x1, .inl x2, .inl x3, .inl x4, .inl x5, .inl x6] h Q := by
  unfold f_M_lay at hf
  refine g_enter (d := d + 1) (Nat.le_of_ble_eq_true rfl) ?_
  show gWP (gCall (d + 1)) m_M_lay Q 0 [some (.inr (some m)), some (.inl x1), some (.inl x2), some (.inl x3), some (.inl x4), some (.inl x5), some (.inl x6), none] [] h 0 0
  refine w_aload_n rfl rfl ?_
  refine w_iload_n rfl rfl ?_
  refine w_iload_n rfl rfl ?_
  refine w_iload_n rfl rfl ?_
  obtain ⟨q1, hc, hf⟩ := g_bind hf
  refine w_virtual [_, _, _] _ rfl rfl rfl rfl (Nat.le_of_ble_eq_true rfl) hM.1 rfl (Nat.le_of_ble_eq_true rfl) (Nat.le_of_ble_eq_true rfl) (t_M_isCell (d := d + 0) hc hM (fun h hM => ?_))
  refine w_if (t := 51) rfl (by decide) (fun c2 => ?_) (fun c2 => ?_)
  · have c2 : q1.1 = (0 : Int32) := c2
    rw [if_pos c2] at hf
    cases hf
    exact w_return rfl rfl (Nat.le_refl _) (Nat.le_refl _) (hQ _ hM)
  · have c2 : ¬ (q1.1 = (0 : Int32)) := c2
    rw [if_neg c2] at hf
    refine w_sipush (v := (1440 : Int32)) rfl (by decide) ?_
    refine w_iload_n rfl rfl ?_
    refine w_imul rfl ?_
    refine w_bipush (v := (60 : Int32)) rfl (by decide) ?_
    refine w_iload_n rfl rfl ?_
    refine w_imul rfl ?_
    refine w_iadd rfl ?_
    refine w_iload_n rfl rfl ?_
    refine w_iadd rfl ?_
    refine w_istore rfl (Nat.le_of_ble_eq_true rfl) rfl ?_
    refine w_aload_n rfl rfl ?_
    refine m_getR hM rfl rfl rfl (by decide) ?_
    refine w_iload rfl rfl ?_
    refine w_iload rfl rfl ?_
    obtain ⟨hb, hf⟩ := g_guard hf
    refine m_st hM rfl rfl (by decide) rfl hb (fun h hM => ?_)
    refine w_aload_n rfl rfl ?_
    refine m_getR hM rfl rfl rfl (by decide) ?_
    refine w_iload rfl rfl ?_
    refine w_iload rfl rfl ?_
    obtain ⟨hb, hf⟩ := g_guard hf
    refine m_st hM rfl rfl (by decide) rfl hb (fun h hM => ?_)
    refine w_aload_n rfl rfl ?_
    refine m_getR hM rfl rfl rfl (by decide) ?_
    refine w_iload rfl rfl ?_
    refine w_iload rfl rfl ?_
    obtain ⟨hb, hf⟩ := g_guard hf
    refine m_st hM rfl rfl (by decide) rfl hb (fun h hM => ?_)
    cases hf
    exact w_return rfl rfl (Nat.le_refl _) (Nat.le_refl _) (hQ _ hM)
def f_M_has (n : Nat) (S : MS) (x1 : Int32) (x2 : Int32) (x3 : Int32) : Option (Int32 × MS) := (bif inB (x1) 61 then (bif inB (x1) 61 then (bif inB (x1) 61 then ((f_M_in n (S) (x2) ((S).2 12 (ix (x1))) ((((S).2 12 (ix (x1))) + ((S).2 14 (ix (x1)))) - (1 : Int32))).bind (fun q1 => (if q1.1 = (0 : Int32) then some ((0 : Int32), q1.2) else (bif inB (x1) 61 then (bif inB (x1) 61 then (bif inB (x1) 61 then ((f_M_in n (q1.2) (x3) ((q1.2).2 13 (ix (x1))) ((((q1.2).2 13 (ix (x1))) + ((q1.2).2 15 (ix (x1)))) - (1 : Int32))).bind (fun q3 => (if q3.1 = (0 : Int32) then some ((0 : Int32), q3.2) else some ((1 : Int32), q3.2)))) else none) else none) else none)))) else none) else none) else none)
set_option maxHeartbeats 4000000 in
set_option maxRecDepth 100000 in
theorem t_M_has {d m n : Nat} {ad : Nat → Nat} {h0 h : gHp} {Q : Option gv → gHp → Prop} {S : MS} {x1 : Int32} {x2 : Int32} {x3 : Int32} {res : Int32 × MS} (hf : f_M_has n S x1 x2 x3 = some res) (hM : MR h0 h m ad S) (hQ : ∀ h', MR h0 h' m ad res.2 → Q (some (.inl res.1)) h') : gCall (d + 2) m_M_has [.inr (some m), .inl x1, .inl x2, .inl x3] h Q := by
  unfold f_M_has at hf
  refine g_enter (d := d + 1) (Nat.le_of_ble_eq_true rfl) ?_
  show gWP (gCall (d + 1)) m_M_has Q 0 [some (.inr (some m)), some (.inl x1), some (.inl x2), some (.inl x3)] [] h 0 0
  refine w_iload_n rfl rfl ?_
  refine w_aload_n rfl rfl ?_
  refine m_getR hM rfl rfl rfl (by decide) ?_
  refine w_iload_n rfl rfl ?_
  obtain ⟨hb, hf⟩ := g_guard hf
  refine m_ld hM rfl rfl (by decide) rfl hb ?_
  refine w_aload_n rfl rfl ?_
  refine m_getR hM rfl rfl rfl (by decide) ?_
  refine w_iload_n rfl rfl ?_
  obtain ⟨hb, hf⟩ := g_guard hf
  refine m_ld hM rfl rfl (by decide) rfl hb ?_
  refine w_aload_n rfl rfl ?_
  refine m_getR hM rfl rfl rfl (by decide) ?_
  refine w_iload_n rfl rfl ?_
  obtain ⟨hb, hf⟩ := g_guard hf
  refine m_ld hM rfl rfl (by decide) rfl hb ?_
  refine w_iadd rfl ?_
  refine w_iconst (v := (1 : Int32)) rfl (by decide) ?_
  refine w_isub rfl ?_
  obtain ⟨q1, hc, hf⟩ := g_bind hf
  refine w_static [_, _, _] _ rfl rfl rfl rfl (Nat.le_of_ble_eq_true rfl) (Nat.le_of_ble_eq_true rfl) (Nat.le_of_ble_eq_true rfl) (t_M_in (d := d + 0) hc hM (fun h hM => ?_))
  refine w_if (t := 60) rfl (by decide) (fun c2 => ?_) (fun c2 => ?_)
  · have c2 : q1.1 = (0 : Int32) := c2
    rw [if_pos c2] at hf
    refine w_iconst (v := (0 : Int32)) rfl (by decide) ?_
    cases hf
    exact w_ireturn rfl (isZ_ret rfl) (Nat.le_refl _) (Nat.le_refl _) (hQ _ hM)
  · have c2 : ¬ (q1.1 = (0 : Int32)) := c2
    rw [if_neg c2] at hf
    refine w_iload_n rfl rfl ?_
    refine w_aload_n rfl rfl ?_
    refine m_getR hM rfl rfl rfl (by decide) ?_
    refine w_iload_n rfl rfl ?_
    obtain ⟨hb, hf⟩ := g_guard hf
    refine m_ld hM rfl rfl (by decide) rfl hb ?_
    refine w_aload_n rfl rfl ?_
    refine m_getR hM rfl rfl rfl (by decide) ?_
    refine w_iload_n rfl rfl ?_
    obtain ⟨hb, hf⟩ := g_guard hf
    refine m_ld hM rfl rfl (by decide) rfl hb ?_
    refine w_aload_n rfl rfl ?_
    refine m_getR hM rfl rfl rfl (by decide) ?_
    refine w_iload_n rfl rfl ?_
    obtain ⟨hb, hf⟩ := g_guard hf
    refine m_ld hM rfl rfl (by decide) rfl hb ?_
    refine w_iadd rfl ?_
    refine w_iconst (v := (1 : Int32)) rfl (by decide) ?_
    refine w_isub rfl ?_
    obtain ⟨q3, hc, hf⟩ := g_bind hf
    refine w_static [_, _, _] _ rfl rfl rfl rfl (Nat.le_of_ble_eq_true rfl) (Nat.le_of_ble_eq_true rfl) (Nat.le_of_ble_eq_true rfl) (t_M_in (d := d + 0) hc hM (fun h hM => ?_))
    refine w_if (t := 60) rfl (by decide) (fun c4 => ?_) (fun c4 => ?_)
    · have c4 : q3.1 = (0 : Int32) := c4
      rw [if_pos c4] at hf
      refine w_iconst (v := (0 : Int32)) rfl (by decide) ?_
      cases hf
      exact w_ireturn rfl (isZ_ret rfl) (Nat.le_refl _) (Nat.le_refl _) (hQ _ hM)
    · have c4 : ¬ (q3.1 = (0 : Int32)) := c4
      rw [if_neg c4] at hf
      refine w_iconst (v := (1 : Int32)) rfl (by decide) ?_
      refine w_goto (t := 61) rfl (by decide) ?_
      cases hf
      exact w_ireturn rfl (isZ_ret rfl) (Nat.le_refl _) (Nat.le_refl _) (hQ _ hM)
def f_M_count_B4 : Nat → MS → Int32 → Int32 → Int32 → Option (Int32 × MS)
  | 0, _, _, _, _ => none
  | n + 1, S, x1, x2, x3 => (if ((S).1 2) < x3 then (if x1 = (0 : Int32) then some ((S).1 0, S) else (if x1 = (1 : Int32) then some ((S).1 1, S) else (if x1 = (2 : Int32) then some (x2, S) else (if x1 = (3 : Int32) then ((f_M_leaves n (S) ).bind (fun q6 => some (q6.1, q6.2))) else (if x1 = (4 : Int32) then some ((S).1 2, S) else (if x1 = (5 : Int32) then some ((S).1 41, S) else some ((-1 : Int32), S))))))) else (bif inB (x3) 61 then (if ((S).2 4 (ix (x3))) = (0 : Int32) then f_M_count_B4 n (S) (x1) (x2 + (0 : Int32)) (x3 + (1 : Int32)) else f_M_count_B4 n (S) (x1) (x2 + (1 : Int32)) (x3 + (1 : Int32))) else none))
set_option maxHeartbeats 4000000 in
set_option maxRecDepth 100000 in
theorem t_M_count_B4 {d m : Nat} {ad : Nat → Nat} {h0 : gHp} {Q : Option gv → gHp → Prop} {res : Int32 × MS} (hQ : ∀ h', MR h0 h' m ad res.2 → Q (some (.inl res.1)) h') : ∀ (n : Nat) (S : MS) (x1 : Int32) (x2 : Int32) (x3 : Int32) (h : gHp), f_M_count_B4 n S x1 x2 x3  = some res → MR h0 h m ad S → gWP (gCall (d + 1)) m_M_count Q 4 [some (.inr (some m)), some (.inl x1), some (.inl x2), some (.inl x3)] [] h 0 0 := by
  intro n
  induction n with
  | zero =>
    intro S x1 x2 x3   h hf
    cases hf
  | succ n ih =>
    intro S x1 x2 x3   h hf hM
    unfold f_M_count_B4 at hf
    refine w_iload_n rfl rfl ?_
    refine w_aload_n rfl rfl ?_
    refine m_getI hM rfl rfl rfl ?_
    refine w_icmp (t := 35) rfl (by decide) (fun c1 => ?_) (fun c1 => ?_)
    · have c1 : ((S).1 2) < x3 := c1
      rw [if_pos c1] at hf
      refine w_iload_n rfl rfl ?_
      refine w_if (t := 46) rfl (by decide) (fun c2 => ?_) (fun c2 => ?_)
      · have c2 : ¬ (x1 = (0 : Int32)) := c2
        rw [if_neg c2] at hf
        refine w_iload_n rfl rfl ?_
        refine w_iconst (v := (1 : Int32)) rfl (by decide) ?_
        refine w_icmp (t := 58) rfl (by decide) (fun c3 => ?_) (fun c3 => ?_)
        · have c3 : ¬ (x1 = (1 : Int32)) := c3
          rw [if_neg c3] at hf
          refine w_iload_n rfl rfl ?_
          refine w_iconst (v := (2 : Int32)) rfl (by decide) ?_
          refine w_icmp (t := 67) rfl (by decide) (fun c4 => ?_) (fun c4 => ?_)
          · have c4 : ¬ (x1 = (2 : Int32)) := c4
            rw [if_neg c4] at hf
            refine w_iload_n rfl rfl ?_
            refine w_iconst (v := (3 : Int32)) rfl (by decide) ?_
            refine w_icmp (t := 79) rfl (by decide) (fun c5 => ?_) (fun c5 => ?_)
            · have c5 : ¬ (x1 = (3 : Int32)) := c5
              rw [if_neg c5] at hf
              refine w_iload_n rfl rfl ?_
              refine w_iconst (v := (4 : Int32)) rfl (by decide) ?_
              refine w_icmp (t := 91) rfl (by decide) (fun c6 => ?_) (fun c6 => ?_)
              · have c6 : ¬ (x1 = (4 : Int32)) := c6
                rw [if_neg c6] at hf
                refine w_iload_n rfl rfl ?_
                refine w_iconst (v := (5 : Int32)) rfl (by decide) ?_
                refine w_icmp (t := 103) rfl (by decide) (fun c7 => ?_) (fun c7 => ?_)
                · have c7 : ¬ (x1 = (5 : Int32)) := c7
                  rw [if_neg c7] at hf
                  refine w_iconst (v := (-1 : Int32)) rfl (by decide) ?_
                  cases hf
                  exact w_ireturn rfl (int_ret _) (Nat.le_refl _) (Nat.le_refl _) (hQ _ hM)
                · have c7 : x1 = (5 : Int32) := Classical.not_not.mp c7
                  rw [if_pos c7] at hf
                  refine w_aload_n rfl rfl ?_
                  refine m_getI hM rfl rfl rfl ?_
                  refine w_goto (t := 104) rfl (by decide) ?_
                  cases hf
                  exact w_ireturn rfl (int_ret _) (Nat.le_refl _) (Nat.le_refl _) (hQ _ hM)
              · have c6 : x1 = (4 : Int32) := Classical.not_not.mp c6
                rw [if_pos c6] at hf
                refine w_aload_n rfl rfl ?_
                refine m_getI hM rfl rfl rfl ?_
                refine w_goto (t := 104) rfl (by decide) ?_
                cases hf
                exact w_ireturn rfl (int_ret _) (Nat.le_refl _) (Nat.le_refl _) (hQ _ hM)
            · have c5 : x1 = (3 : Int32) := Classical.not_not.mp c5
              rw [if_pos c5] at hf
              refine w_aload_n rfl rfl ?_
              obtain ⟨q6, hc, hf⟩ := g_bind hf
              refine w_virtual [] _ rfl rfl rfl rfl (Nat.le_of_ble_eq_true rfl) hM.1 rfl (Nat.le_of_ble_eq_true rfl) (Nat.le_of_ble_eq_true rfl) (t_M_leaves (d := d + 0) hc hM (fun h hM => ?_))
              refine w_goto (t := 104) rfl (by decide) ?_
              cases hf
              exact w_ireturn rfl (int_ret _) (Nat.le_refl _) (Nat.le_refl _) (hQ _ hM)
          · have c4 : x1 = (2 : Int32) := Classical.not_not.mp c4
            rw [if_pos c4] at hf
            refine w_iload_n rfl rfl ?_
            refine w_goto (t := 104) rfl (by decide) ?_
            cases hf
            exact w_ireturn rfl (int_ret _) (Nat.le_refl _) (Nat.le_refl _) (hQ _ hM)
        · have c3 : x1 = (1 : Int32) := Classical.not_not.mp c3
          rw [if_pos c3] at hf
          refine w_aload_n rfl rfl ?_
          refine m_getI hM rfl rfl rfl ?_
          refine w_goto (t := 104) rfl (by decide) ?_
          cases hf
          exact w_ireturn rfl (int_ret _) (Nat.le_refl _) (Nat.le_refl _) (hQ _ hM)
      · have c2 : x1 = (0 : Int32) := Classical.not_not.mp c2
        rw [if_pos c2] at hf
        refine w_aload_n rfl rfl ?_
        refine m_getI hM rfl rfl rfl ?_
        refine w_goto (t := 104) rfl (by decide) ?_
        cases hf
        exact w_ireturn rfl (int_ret _) (Nat.le_refl _) (Nat.le_refl _) (hQ _ hM)
    · have c1 : ¬ (((S).1 2) < x3) := c1
      rw [if_neg c1] at hf
      refine w_iload_n rfl rfl ?_
      refine w_aload_n rfl rfl ?_
      refine m_getR hM rfl rfl rfl (by decide) ?_
      refine w_iload_n rfl rfl ?_
      obtain ⟨hb, hf⟩ := g_guard hf
      refine m_zld hM rfl rfl (by decide) rfl hb ?_
      refine w_if (t := 26) rfl (by decide) (fun c2 => ?_) (fun c2 => ?_)
      · have c2 : ((S).2 4 (ix (x3))) = (0 : Int32) := c2
        rw [if_pos c2] at hf
        refine w_iconst (v := (0 : Int32)) rfl (by decide) ?_
        refine w_iadd rfl ?_
        refine w_istore_n rfl (Nat.le_of_ble_eq_true rfl) rfl ?_
        refine w_iinc (v := (1 : Int32)) rfl rfl (by decide) rfl ?_
        refine w_goto (t := 4) rfl (by decide) ?_
        exact ih _ (x1) (x2 + (0 : Int32)) (x3 + (1 : Int32))  _ hf hM
      · have c2 : ¬ (((S).2 4 (ix (x3))) = (0 : Int32)) := c2
        rw [if_neg c2] at hf
        refine w_iconst (v := (1 : Int32)) rfl (by decide) ?_
        refine w_goto (t := 27) rfl (by decide) ?_
        refine w_iadd rfl ?_
        refine w_istore_n rfl (Nat.le_of_ble_eq_true rfl) rfl ?_
        refine w_iinc (v := (1 : Int32)) rfl rfl (by decide) rfl ?_
        refine w_goto (t := 4) rfl (by decide) ?_
        exact ih _ (x1) (x2 + (1 : Int32)) (x3 + (1 : Int32))  _ hf hM
def f_M_count (n : Nat) (S : MS) (x1 : Int32) : Option (Int32 × MS) := f_M_count_B4  n (S) (x1) ((0 : Int32)) ((1 : Int32))
set_option maxHeartbeats 4000000 in
set_option maxRecDepth 100000 in
theorem t_M_count {d m n : Nat} {ad : Nat → Nat} {h0 h : gHp} {Q : Option gv → gHp → Prop} {S : MS} {x1 : Int32} {res : Int32 × MS} (hf : f_M_count n S x1 = some res) (hM : MR h0 h m ad S) (hQ : ∀ h', MR h0 h' m ad res.2 → Q (some (.inl res.1)) h') : gCall (d + 2) m_M_count [.inr (some m), .inl x1] h Q := by
  unfold f_M_count at hf
  refine g_enter (d := d + 1) (Nat.le_of_ble_eq_true rfl) ?_
  show gWP (gCall (d + 1)) m_M_count Q 0 [some (.inr (some m)), some (.inl x1), none, none] [] h 0 0
  refine w_iconst (v := (0 : Int32)) rfl (by decide) ?_
  refine w_istore_n rfl (Nat.le_of_ble_eq_true rfl) rfl ?_
  refine w_iconst (v := (1 : Int32)) rfl (by decide) ?_
  refine w_istore_n rfl (Nat.le_of_ble_eq_true rfl) rfl ?_
  exact t_M_count_B4  hQ _ _ (x1) ((0 : Int32)) ((1 : Int32))  _ hf hM
def f_M_fit_B10 (rec2 : MS → Int32 → Int32 → Option (MS)) : Nat → MS → Int32 → Int32 → Int32 → Option (MS)
  | 0, _, _, _, _ => none
  | n + 1, S, x1, x2, x3 => (if (60 : Int32) ≤ x3 then rec2 (S) (x1) (x2 + (1 : Int32)) else (bif inB (x1) 61 then (if ((S).2 14 (ix (x1))) ≤ x3 then ((f_M_blank n (S) ((((1440 : Int32) * x1) + ((60 : Int32) * x2)) + x3)).bind (fun q3 => f_M_fit_B10 rec2 n (q3) (x1) (x2) (x3 + (1 : Int32)))) else (bif inB (x1) 61 then (if ((S).2 15 (ix (x1))) ≤ x2 then ((f_M_blank n (S) ((((1440 : Int32) * x1) + ((60 : Int32) * x2)) + x3)).bind (fun q4 => f_M_fit_B10 rec2 n (q4) (x1) (x2) (x3 + (1 : Int32)))) else (bif inB (x1) 61 then (if ((S).2 32 (ix (x1))) ≤ x3 then ((f_M_blank n (S) ((((1440 : Int32) * x1) + ((60 : Int32) * x2)) + x3)).bind (fun q5 => f_M_fit_B10 rec2 n (q5) (x1) (x2) (x3 + (1 : Int32)))) else (bif inB (x1) 61 then (if x2 < ((S).2 33 (ix (x1))) then f_M_fit_B10 rec2 n (S) (x1) (x2) (x3 + (1 : Int32)) else ((f_M_blank n (S) ((((1440 : Int32) * x1) + ((60 : Int32) * x2)) + x3)).bind (fun q6 => f_M_fit_B10 rec2 n (q6) (x1) (x2) (x3 + (1 : Int32))))) else none)) else none)) else none)) else none))
set_option maxHeartbeats 4000000 in
set_option maxRecDepth 100000 in
theorem t_M_fit_B10 {d m : Nat} {ad : Nat → Nat} {h0 : gHp} {Q : Option gv → gHp → Prop} {res : MS} {rec2 : MS → Int32 → Int32 → Option (MS)} (hrec2 : ∀ (S : MS) (x1 : Int32) (x2 : Int32) (u3 : Option gv) (h : gHp), rec2 S x1 x2 = some res → MR h0 h m ad S → gWP (gCall (d + 1)) m_M_fit Q 2 [some (.inr (some m)), some (.inl x1), some (.inl x2), u3] [] h 0 0) (hQ : ∀ h', MR h0 h' m ad res → Q (none) h') : ∀ (n : Nat) (S : MS) (x1 : Int32) (x2 : Int32) (x3 : Int32) (h : gHp), f_M_fit_B10 rec2 n S x1 x2 x3  = some res → MR h0 h m ad S → gWP (gCall (d + 1)) m_M_fit Q 10 [some (.inr (some m)), some (.inl x1), some (.inl x2), some (.inl x3)] [] h 0 0 := by
  intro n
  induction n with
  | zero =>
    intro S x1 x2 x3   h hf
    cases hf
  | succ n ih =>
    intro S x1 x2 x3   h hf hM
    unfold f_M_fit_B10 at hf
    refine w_iload_n rfl rfl ?_
    refine w_bipush (v := (60 : Int32)) rfl (by decide) ?_
    refine w_icmp (t := 78) rfl (by decide) (fun c1 => ?_) (fun c1 => ?_)
    · have c1 : (60 : Int32) ≤ x3 := c1
      rw [if_pos c1] at hf
      refine w_iinc (v := (1 : Int32)) rfl rfl (by decide) rfl ?_
      refine w_goto (t := 2) rfl (by decide) ?_
      exact hrec2 _ (x1) (x2 + (1 : Int32)) _ _ hf hM
    · have c1 : ¬ ((60 : Int32) ≤ x3) := c1
      rw [if_neg c1] at hf
      refine w_iload_n rfl rfl ?_
      refine w_aload_n rfl rfl ?_
      refine m_getR hM rfl rfl rfl (by decide) ?_
      refine w_iload_n rfl rfl ?_
      obtain ⟨hb, hf⟩ := g_guard hf
      refine m_ld hM rfl rfl (by decide) rfl hb ?_
      refine w_icmp (t := 56) rfl (by decide) (fun c2 => ?_) (fun c2 => ?_)
      · have c2 : ((S).2 14 (ix (x1))) ≤ x3 := c2
        rw [if_pos c2] at hf
        refine w_aload_n rfl rfl ?_
        refine w_sipush (v := (1440 : Int32)) rfl (by decide) ?_
        refine w_iload_n rfl rfl ?_
        refine w_imul rfl ?_
        refine w_bipush (v := (60 : Int32)) rfl (by decide) ?_
        refine w_iload_n rfl rfl ?_
        refine w_imul rfl ?_
        refine w_iadd rfl ?_
        refine w_iload_n rfl rfl ?_
        refine w_iadd rfl ?_
        obtain ⟨q3, hc, hf⟩ := g_bind hf
        refine w_virtual [_] _ rfl rfl rfl rfl (Nat.le_of_ble_eq_true rfl) hM.1 rfl (Nat.le_of_ble_eq_true rfl) (Nat.le_of_ble_eq_true rfl) (t_M_blank (d := d + 0) hc hM (fun h hM => ?_))
        refine w_iinc (v := (1 : Int32)) rfl rfl (by decide) rfl ?_
        refine w_goto (t := 10) rfl (by decide) ?_
        exact ih _ (x1) (x2) (x3 + (1 : Int32))  _ hf hM
      · have c2 : ¬ (((S).2 14 (ix (x1))) ≤ x3) := c2
        rw [if_neg c2] at hf
        refine w_iload_n rfl rfl ?_
        refine w_aload_n rfl rfl ?_
        refine m_getR hM rfl rfl rfl (by decide) ?_
        refine w_iload_n rfl rfl ?_
        obtain ⟨hb, hf⟩ := g_guard hf
        refine m_ld hM rfl rfl (by decide) rfl hb ?_
        refine w_icmp (t := 56) rfl (by decide) (fun c3 => ?_) (fun c3 => ?_)
        · have c3 : ((S).2 15 (ix (x1))) ≤ x2 := c3
          rw [if_pos c3] at hf
          refine w_aload_n rfl rfl ?_
          refine w_sipush (v := (1440 : Int32)) rfl (by decide) ?_
          refine w_iload_n rfl rfl ?_
          refine w_imul rfl ?_
          refine w_bipush (v := (60 : Int32)) rfl (by decide) ?_
          refine w_iload_n rfl rfl ?_
          refine w_imul rfl ?_
          refine w_iadd rfl ?_
          refine w_iload_n rfl rfl ?_
          refine w_iadd rfl ?_
          obtain ⟨q4, hc, hf⟩ := g_bind hf
          refine w_virtual [_] _ rfl rfl rfl rfl (Nat.le_of_ble_eq_true rfl) hM.1 rfl (Nat.le_of_ble_eq_true rfl) (Nat.le_of_ble_eq_true rfl) (t_M_blank (d := d + 0) hc hM (fun h hM => ?_))
          refine w_iinc (v := (1 : Int32)) rfl rfl (by decide) rfl ?_
          refine w_goto (t := 10) rfl (by decide) ?_
          exact ih _ (x1) (x2) (x3 + (1 : Int32))  _ hf hM
        · have c3 : ¬ (((S).2 15 (ix (x1))) ≤ x2) := c3
          rw [if_neg c3] at hf
          refine w_iload_n rfl rfl ?_
          refine w_aload_n rfl rfl ?_
          refine m_getR hM rfl rfl rfl (by decide) ?_
          refine w_iload_n rfl rfl ?_
          obtain ⟨hb, hf⟩ := g_guard hf
          refine m_ld hM rfl rfl (by decide) rfl hb ?_
          refine w_icmp (t := 56) rfl (by decide) (fun c4 => ?_) (fun c4 => ?_)
          · have c4 : ((S).2 32 (ix (x1))) ≤ x3 := c4
            rw [if_pos c4] at hf
            refine w_aload_n rfl rfl ?_
            refine w_sipush (v := (1440 : Int32)) rfl (by decide) ?_
            refine w_iload_n rfl rfl ?_
            refine w_imul rfl ?_
            refine w_bipush (v := (60 : Int32)) rfl (by decide) ?_
            refine w_iload_n rfl rfl ?_
            refine w_imul rfl ?_
            refine w_iadd rfl ?_
            refine w_iload_n rfl rfl ?_
            refine w_iadd rfl ?_
            obtain ⟨q5, hc, hf⟩ := g_bind hf
            refine w_virtual [_] _ rfl rfl rfl rfl (Nat.le_of_ble_eq_true rfl) hM.1 rfl (Nat.le_of_ble_eq_true rfl) (Nat.le_of_ble_eq_true rfl) (t_M_blank (d := d + 0) hc hM (fun h hM => ?_))
            refine w_iinc (v := (1 : Int32)) rfl rfl (by decide) rfl ?_
            refine w_goto (t := 10) rfl (by decide) ?_
            exact ih _ (x1) (x2) (x3 + (1 : Int32))  _ hf hM
          · have c4 : ¬ (((S).2 32 (ix (x1))) ≤ x3) := c4
            rw [if_neg c4] at hf
            refine w_iload_n rfl rfl ?_
            refine w_aload_n rfl rfl ?_
            refine m_getR hM rfl rfl rfl (by decide) ?_
            refine w_iload_n rfl rfl ?_
            obtain ⟨hb, hf⟩ := g_guard hf
            refine m_ld hM rfl rfl (by decide) rfl hb ?_
            refine w_icmp (t := 72) rfl (by decide) (fun c5 => ?_) (fun c5 => ?_)
            · have c5 : x2 < ((S).2 33 (ix (x1))) := c5
              rw [if_pos c5] at hf
              refine w_iinc (v := (1 : Int32)) rfl rfl (by decide) rfl ?_
              refine w_goto (t := 10) rfl (by decide) ?_
              exact ih _ (x1) (x2) (x3 + (1 : Int32))  _ hf hM
            · have c5 : ¬ (x2 < ((S).2 33 (ix (x1)))) := c5
              rw [if_neg c5] at hf
              refine w_aload_n rfl rfl ?_
              refine w_sipush (v := (1440 : Int32)) rfl (by decide) ?_
              refine w_iload_n rfl rfl ?_
              refine w_imul rfl ?_
              refine w_bipush (v := (60 : Int32)) rfl (by decide) ?_
              refine w_iload_n rfl rfl ?_
              refine w_imul rfl ?_
              refine w_iadd rfl ?_
              refine w_iload_n rfl rfl ?_
              refine w_iadd rfl ?_
              obtain ⟨q6, hc, hf⟩ := g_bind hf
              refine w_virtual [_] _ rfl rfl rfl rfl (Nat.le_of_ble_eq_true rfl) hM.1 rfl (Nat.le_of_ble_eq_true rfl) (Nat.le_of_ble_eq_true rfl) (t_M_blank (d := d + 0) hc hM (fun h hM => ?_))
              refine w_iinc (v := (1 : Int32)) rfl rfl (by decide) rfl ?_
              refine w_goto (t := 10) rfl (by decide) ?_
              exact ih _ (x1) (x2) (x3 + (1 : Int32))  _ hf hM
def f_M_fit_B2 : Nat → MS → Int32 → Int32 → Option (MS)
  | 0, _, _, _ => none
  | n + 1, S, x1, x2 => (if (24 : Int32) ≤ x2 then (bif inB (x1) 61 then (bif inB (x1) 61 then (bif inB (x1) 61 then (bif inB (x1) 61 then some (((S).a 32 (ix (x1)) ((S).2 14 (ix (x1)))).a 33 (ix (x1)) (((S).a 32 (ix (x1)) ((S).2 14 (ix (x1)))).2 15 (ix (x1)))) else none) else none) else none) else none) else f_M_fit_B10 (f_M_fit_B2 n) n (S) (x1) (x2) ((0 : Int32)))
set_option maxHeartbeats 4000000 in
set_option maxRecDepth 100000 in
theorem t_M_fit_B2 {d m : Nat} {ad : Nat → Nat} {h0 : gHp} {Q : Option gv → gHp → Prop} {res : MS} (hQ : ∀ h', MR h0 h' m ad res → Q (none) h') : ∀ (n : Nat) (S : MS) (x1 : Int32) (x2 : Int32) (u3 : Option gv) (h : gHp), f_M_fit_B2 n S x1 x2  = some res → MR h0 h m ad S → gWP (gCall (d + 1)) m_M_fit Q 2 [some (.inr (some m)), some (.inl x1), some (.inl x2), u3] [] h 0 0 := by
  intro n
  induction n with
  | zero =>
    intro S x1 x2  u3 h hf
    cases hf
  | succ n ih =>
    intro S x1 x2  u3 h hf hM
    unfold f_M_fit_B2 at hf
    refine w_iload_n rfl rfl ?_
    refine w_bipush (v := (24 : Int32)) rfl (by decide) ?_
    refine w_icmp (t := 84) rfl (by decide) (fun c1 => ?_) (fun c1 => ?_)
    · have c1 : (24 : Int32) ≤ x2 := c1
      rw [if_pos c1] at hf
      refine w_aload_n rfl rfl ?_
      refine m_getR hM rfl rfl rfl (by decide) ?_
      refine w_iload_n rfl rfl ?_
      refine w_aload_n rfl rfl ?_
      refine m_getR hM rfl rfl rfl (by decide) ?_
      refine w_iload_n rfl rfl ?_
      obtain ⟨hb, hf⟩ := g_guard hf
      refine m_ld hM rfl rfl (by decide) rfl hb ?_
      obtain ⟨hb, hf⟩ := g_guard hf
      refine m_st hM rfl rfl (by decide) rfl hb (fun h hM => ?_)
      refine w_aload_n rfl rfl ?_
      refine m_getR hM rfl rfl rfl (by decide) ?_
      refine w_iload_n rfl rfl ?_
      refine w_aload_n rfl rfl ?_
      refine m_getR hM rfl rfl rfl (by decide) ?_
      refine w_iload_n rfl rfl ?_
      obtain ⟨hb, hf⟩ := g_guard hf
      refine m_ld hM rfl rfl (by decide) rfl hb ?_
      obtain ⟨hb, hf⟩ := g_guard hf
      refine m_st hM rfl rfl (by decide) rfl hb (fun h hM => ?_)
      cases hf
      exact w_return rfl rfl (Nat.le_refl _) (Nat.le_refl _) (hQ _ hM)
    · have c1 : ¬ ((24 : Int32) ≤ x2) := c1
      rw [if_neg c1] at hf
      refine w_iconst (v := (0 : Int32)) rfl (by decide) ?_
      refine w_istore_n rfl (Nat.le_of_ble_eq_true rfl) rfl ?_
      exact t_M_fit_B10 ih hQ _ _ (x1) (x2) ((0 : Int32))  _ hf hM
def f_M_fit (n : Nat) (S : MS) (x1 : Int32) : Option (MS) := f_M_fit_B2  n (S) (x1) ((0 : Int32))
set_option maxHeartbeats 4000000 in
set_option maxRecDepth 100000 in
theorem t_M_fit {d m n : Nat} {ad : Nat → Nat} {h0 h : gHp} {Q : Option gv → gHp → Prop} {S : MS} {x1 : Int32} {res : MS} (hf : f_M_fit n S x1 = some res) (hM : MR h0 h m ad S) (hQ : ∀ h', MR h0 h' m ad res → Q (none) h') : gCall (d + 2) m_M_fit [.inr (some m), .inl x1] h Q := by
  unfold f_M_fit at hf
  refine g_enter (d := d + 1) (Nat.le_of_ble_eq_true rfl) ?_
  show gWP (gCall (d + 1)) m_M_fit Q 0 [some (.inr (some m)), some (.inl x1), none, none] [] h 0 0
  refine w_iconst (v := (0 : Int32)) rfl (by decide) ?_
  refine w_istore_n rfl (Nat.le_of_ble_eq_true rfl) rfl ?_
  exact t_M_fit_B2  hQ _ _ (x1) ((0 : Int32)) _ _ hf hM
def f_M_findParts_B122 (rec3 : MS → Int32 → Int32 → Int32 → Option (MS)) : Nat → MS → Int32 → Int32 → Int32 → Option (MS)
  | 0, _, _, _, _ => none
  | n + 1, S, x1, x3, x4 => (if x3 ≤ x4 then rec3 (S) (x1) (x3) (x4) else ((f_M_signAt n (S) (x1) (x4)).bind (fun q2 => (if q2.1 = (32 : Int32) then f_M_findParts_B122 rec3 n (q2.2) (x1) (x3) (x4 + (1 : Int32)) else rec3 (q2.2) (x1) (x3) (x4)))))
set_option maxHeartbeats 4000000 in
set_option maxRecDepth 100000 in
theorem t_M_findParts_B122 {d m : Nat} {ad : Nat → Nat} {h0 : gHp} {Q : Option gv → gHp → Prop} {res : MS} {rec3 : MS → Int32 → Int32 → Int32 → Option (MS)} (hrec3 : ∀ (S : MS) (x1 : Int32) (x3 : Int32) (x4 : Int32) (u2 : Option gv) (u5 : Option gv) (h : gHp), rec3 S x1 x3 x4 = some res → MR h0 h m ad S → gWP (gCall (d + 1)) m_M_findParts Q 3 [some (.inr (some m)), some (.inl x1), u2, some (.inl x3), some (.inl x4), u5] [] h 0 0) (hQ : ∀ h', MR h0 h' m ad res → Q (none) h') : ∀ (n : Nat) (S : MS) (x1 : Int32) (x3 : Int32) (x4 : Int32) (u2 : Option gv) (u5 : Option gv) (h : gHp), f_M_findParts_B122 rec3 n S x1 x3 x4  = some res → MR h0 h m ad S → gWP (gCall (d + 1)) m_M_findParts Q 122 [some (.inr (some m)), some (.inl x1), u2, some (.inl x3), some (.inl x4), u5] [] h 0 0 := by
  intro n
  induction n with
  | zero =>
    intro S x1 x3 x4  u2 u5 h hf
    cases hf
  | succ n ih =>
    intro S x1 x3 x4  u2 u5 h hf hM
    unfold f_M_findParts_B122 at hf
    refine w_iload rfl rfl ?_
    refine w_iload_n rfl rfl ?_
    refine w_icmp (t := 146) rfl (by decide) (fun c1 => ?_) (fun c1 => ?_)
    · have c1 : x3 ≤ x4 := c1
      rw [if_pos c1] at hf
      refine w_goto (t := 3) rfl (by decide) ?_
      exact hrec3 _ (x1) (x3) (x4) _ _ _ hf hM
    · have c1 : ¬ (x3 ≤ x4) := c1
      rw [if_neg c1] at hf
      refine w_aload_n rfl rfl ?_
      refine w_iload_n rfl rfl ?_
      refine w_iload rfl rfl ?_
      obtain ⟨q2, hc, hf⟩ := g_bind hf
      refine w_virtual [_, _] _ rfl rfl rfl rfl (Nat.le_of_ble_eq_true rfl) hM.1 rfl (Nat.le_of_ble_eq_true rfl) (Nat.le_of_ble_eq_true rfl) (t_M_signAt (d := d + 0) hc hM (fun h hM => ?_))
      refine w_bipush (v := (32 : Int32)) rfl (by decide) ?_
      refine w_icmp (t := 146) rfl (by decide) (fun c3 => ?_) (fun c3 => ?_)
      · have c3 : ¬ (q2.1 = (32 : Int32)) := c3
        rw [if_neg c3] at hf
        refine w_goto (t := 3) rfl (by decide) ?_
        exact hrec3 _ (x1) (x3) (x4) _ _ _ hf hM
      · have c3 : q2.1 = (32 : Int32) := Classical.not_not.mp c3
        rw [if_pos c3] at hf
        refine w_iinc (v := (1 : Int32)) rfl rfl (by decide) rfl ?_
        refine w_goto (t := 122) rfl (by decide) ?_
        exact ih _ (x1) (x3) (x4 + (1 : Int32)) _ _ _ hf hM
def f_M_findParts_B49 (rec3 : MS → Int32 → Int32 → Int32 → Option (MS)) : Nat → MS → Int32 → Int32 → Int32 → Int32 → Option (MS)
  | 0, _, _, _, _, _ => none
  | n + 1, S, x1, x3, x4, x5 => (if x5 < x4 then (if x4 ≤ x5 then ((f_M_line n (S) (x4) (x5 - x4)).bind (fun q3 => f_M_findParts_B122 rec3 n (q3) (x1) (x3) (x5))) else (bif inB (x1) 61 then ((f_M_line n (S) (x4) ((S).2 14 (ix (x1)))).bind (fun q3 => (bif inB (x1) 61 then rec3 (q3) (x1) (x3) (x4 + ((q3).2 14 (ix (x1)))) else none))) else none)) else ((f_M_signAt n (S) (x1) (x5)).bind (fun q2 => (if q2.1 = (32 : Int32) then (if x4 ≤ x5 then ((f_M_line n (q2.2) (x4) (x5 - x4)).bind (fun q5 => f_M_findParts_B122 rec3 n (q5) (x1) (x3) (x5))) else (bif inB (x1) 61 then ((f_M_line n (q2.2) (x4) ((q2.2).2 14 (ix (x1)))).bind (fun q5 => (bif inB (x1) 61 then rec3 (q5) (x1) (x3) (x4 + ((q5).2 14 (ix (x1)))) else none))) else none)) else f_M_findParts_B49 rec3 n (q2.2) (x1) (x3) (x4) (x5 + (-1 : Int32))))))
set_option maxHeartbeats 4000000 in
set_option maxRecDepth 100000 in
theorem t_M_findParts_B49 {d m : Nat} {ad : Nat → Nat} {h0 : gHp} {Q : Option gv → gHp → Prop} {res : MS} {rec3 : MS → Int32 → Int32 → Int32 → Option (MS)} (hrec3 : ∀ (S : MS) (x1 : Int32) (x3 : Int32) (x4 : Int32) (u2 : Option gv) (u5 : Option gv) (h : gHp), rec3 S x1 x3 x4 = some res → MR h0 h m ad S → gWP (gCall (d + 1)) m_M_findParts Q 3 [some (.inr (some m)), some (.inl x1), u2, some (.inl x3), some (.inl x4), u5] [] h 0 0) (hQ : ∀ h', MR h0 h' m ad res → Q (none) h') : ∀ (n : Nat) (S : MS) (x1 : Int32) (x3 : Int32) (x4 : Int32) (x5 : Int32) (u2 : Option gv) (h : gHp), f_M_findParts_B49 rec3 n S x1 x3 x4 x5  = some res → MR h0 h m ad S → gWP (gCall (d + 1)) m_M_findParts Q 49 [some (.inr (some m)), some (.inl x1), u2, some (.inl x3), some (.inl x4), some (.inl x5)] [] h 0 0 := by
  intro n
  induction n with
  | zero =>
    intro S x1 x3 x4 x5  u2 h hf
    cases hf
  | succ n ih =>
    intro S x1 x3 x4 x5  u2 h hf hM
    unfold f_M_findParts_B49 at hf
    refine w_iload rfl rfl ?_
    refine w_iload rfl rfl ?_
    refine w_icmp (t := 74) rfl (by decide) (fun c1 => ?_) (fun c1 => ?_)
    · have c1 : x5 < x4 := c1
      rw [if_pos c1] at hf
      refine w_iload rfl rfl ?_
      refine w_iload rfl rfl ?_
      refine w_icmp (t := 107) rfl (by decide) (fun c2 => ?_) (fun c2 => ?_)
      · have c2 : x4 ≤ x5 := c2
        rw [if_pos c2] at hf
        refine w_aload_n rfl rfl ?_
        refine w_iload rfl rfl ?_
        refine w_iload rfl rfl ?_
        refine w_iload rfl rfl ?_
        refine w_isub rfl ?_
        obtain ⟨q3, hc, hf⟩ := g_bind hf
        refine w_virtual [_, _] _ rfl rfl rfl rfl (Nat.le_of_ble_eq_true rfl) hM.1 rfl (Nat.le_of_ble_eq_true rfl) (Nat.le_of_ble_eq_true rfl) (t_M_line (d := d + 0) hc hM (fun h hM => ?_))
        refine w_iload rfl rfl ?_
        refine w_istore rfl (Nat.le_of_ble_eq_true rfl) rfl ?_
        exact t_M_findParts_B122 hrec3 hQ _ _ (x1) (x3) (x5) _ _ _ hf hM
      · have c2 : ¬ (x4 ≤ x5) := c2
        rw [if_neg c2] at hf
        refine w_aload_n rfl rfl ?_
        refine w_iload rfl rfl ?_
        refine w_aload_n rfl rfl ?_
        refine m_getR hM rfl rfl rfl (by decide) ?_
        refine w_iload_n rfl rfl ?_
        obtain ⟨hb, hf⟩ := g_guard hf
        refine m_ld hM rfl rfl (by decide) rfl hb ?_
        obtain ⟨q3, hc, hf⟩ := g_bind hf
        refine w_virtual [_, _] _ rfl rfl rfl rfl (Nat.le_of_ble_eq_true rfl) hM.1 rfl (Nat.le_of_ble_eq_true rfl) (Nat.le_of_ble_eq_true rfl) (t_M_line (d := d + 0) hc hM (fun h hM => ?_))
        refine w_iload rfl rfl ?_
        refine w_aload_n rfl rfl ?_
        refine m_getR hM rfl rfl rfl (by decide) ?_
        refine w_iload_n rfl rfl ?_
        obtain ⟨hb, hf⟩ := g_guard hf
        refine m_ld hM rfl rfl (by decide) rfl hb ?_
        refine w_iadd rfl ?_
        refine w_istore rfl (Nat.le_of_ble_eq_true rfl) rfl ?_
        refine w_goto (t := 146) rfl (by decide) ?_
        refine w_goto (t := 3) rfl (by decide) ?_
        exact hrec3 _ (x1) (x3) (x4 + ((q3).2 14 (ix (x1)))) _ _ _ hf hM
    · have c1 : ¬ (x5 < x4) := c1
      rw [if_neg c1] at hf
      refine w_aload_n rfl rfl ?_
      refine w_iload_n rfl rfl ?_
      refine w_iload rfl rfl ?_
      obtain ⟨q2, hc, hf⟩ := g_bind hf
      refine w_virtual [_, _] _ rfl rfl rfl rfl (Nat.le_of_ble_eq_true rfl) hM.1 rfl (Nat.le_of_ble_eq_true rfl) (Nat.le_of_ble_eq_true rfl) (t_M_signAt (d := d + 0) hc hM (fun h hM => ?_))
      refine w_bipush (v := (32 : Int32)) rfl (by decide) ?_
      refine w_icmp (t := 74) rfl (by decide) (fun c3 => ?_) (fun c3 => ?_)
      · have c3 : q2.1 = (32 : Int32) := c3
        rw [if_pos c3] at hf
        refine w_iload rfl rfl ?_
        refine w_iload rfl rfl ?_
        refine w_icmp (t := 107) rfl (by decide) (fun c4 => ?_) (fun c4 => ?_)
        · have c4 : x4 ≤ x5 := c4
          rw [if_pos c4] at hf
          refine w_aload_n rfl rfl ?_
          refine w_iload rfl rfl ?_
          refine w_iload rfl rfl ?_
          refine w_iload rfl rfl ?_
          refine w_isub rfl ?_
          obtain ⟨q5, hc, hf⟩ := g_bind hf
          refine w_virtual [_, _] _ rfl rfl rfl rfl (Nat.le_of_ble_eq_true rfl) hM.1 rfl (Nat.le_of_ble_eq_true rfl) (Nat.le_of_ble_eq_true rfl) (t_M_line (d := d + 0) hc hM (fun h hM => ?_))
          refine w_iload rfl rfl ?_
          refine w_istore rfl (Nat.le_of_ble_eq_true rfl) rfl ?_
          exact t_M_findParts_B122 hrec3 hQ _ _ (x1) (x3) (x5) _ _ _ hf hM
        · have c4 : ¬ (x4 ≤ x5) := c4
          rw [if_neg c4] at hf
          refine w_aload_n rfl rfl ?_
          refine w_iload rfl rfl ?_
          refine w_aload_n rfl rfl ?_
          refine m_getR hM rfl rfl rfl (by decide) ?_
          refine w_iload_n rfl rfl ?_
          obtain ⟨hb, hf⟩ := g_guard hf
          refine m_ld hM rfl rfl (by decide) rfl hb ?_
          obtain ⟨q5, hc, hf⟩ := g_bind hf
          refine w_virtual [_, _] _ rfl rfl rfl rfl (Nat.le_of_ble_eq_true rfl) hM.1 rfl (Nat.le_of_ble_eq_true rfl) (Nat.le_of_ble_eq_true rfl) (t_M_line (d := d + 0) hc hM (fun h hM => ?_))
          refine w_iload rfl rfl ?_
          refine w_aload_n rfl rfl ?_
          refine m_getR hM rfl rfl rfl (by decide) ?_
          refine w_iload_n rfl rfl ?_
          obtain ⟨hb, hf⟩ := g_guard hf
          refine m_ld hM rfl rfl (by decide) rfl hb ?_
          refine w_iadd rfl ?_
          refine w_istore rfl (Nat.le_of_ble_eq_true rfl) rfl ?_
          refine w_goto (t := 146) rfl (by decide) ?_
          refine w_goto (t := 3) rfl (by decide) ?_
          exact hrec3 _ (x1) (x3) (x4 + ((q5).2 14 (ix (x1)))) _ _ _ hf hM
      · have c3 : ¬ (q2.1 = (32 : Int32)) := c3
        rw [if_neg c3] at hf
        refine w_iinc (v := (-1 : Int32)) rfl rfl (by decide) rfl ?_
        refine w_goto (t := 49) rfl (by decide) ?_
        exact ih _ (x1) (x3) (x4) (x5 + (-1 : Int32)) _ _ hf hM
def f_M_findParts_B3 : Nat → MS → Int32 → Int32 → Int32 → Option (MS)
  | 0, _, _, _, _ => none
  | n + 1, S, x1, x3, x4 => (if x3 ≤ x4 then some (S) else (bif inB (x1) 61 then (if ((S).2 14 (ix (x1))) < (x3 - x4) then (bif inB (x1) 61 then f_M_findParts_B49 (f_M_findParts_B3 n) n (S) (x1) (x3) (x4) (x4 + ((S).2 14 (ix (x1)))) else none) else ((f_M_line n (S) (x4) (x3 - x4)).bind (fun q3 => f_M_findParts_B3 n (q3) (x1) (x3) (x3)))) else none))
set_option maxHeartbeats 4000000 in
set_option maxRecDepth 100000 in
theorem t_M_findParts_B3 {d m : Nat} {ad : Nat → Nat} {h0 : gHp} {Q : Option gv → gHp → Prop} {res : MS} (hQ : ∀ h', MR h0 h' m ad res → Q (none) h') : ∀ (n : Nat) (S : MS) (x1 : Int32) (x3 : Int32) (x4 : Int32) (u2 : Option gv) (u5 : Option gv) (h : gHp), f_M_findParts_B3 n S x1 x3 x4  = some res → MR h0 h m ad S → gWP (gCall (d + 1)) m_M_findParts Q 3 [some (.inr (some m)), some (.inl x1), u2, some (.inl x3), some (.inl x4), u5] [] h 0 0 := by
  intro n
  induction n with
  | zero =>
    intro S x1 x3 x4  u2 u5 h hf
    cases hf
  | succ n ih =>
    intro S x1 x3 x4  u2 u5 h hf hM
    unfold f_M_findParts_B3 at hf
    refine w_iload rfl rfl ?_
    refine w_iload_n rfl rfl ?_
    refine w_icmp (t := 149) rfl (by decide) (fun c1 => ?_) (fun c1 => ?_)
    · have c1 : x3 ≤ x4 := c1
      rw [if_pos c1] at hf
      cases hf
      exact w_return rfl rfl (Nat.le_refl _) (Nat.le_refl _) (hQ _ hM)
    · have c1 : ¬ (x3 ≤ x4) := c1
      rw [if_neg c1] at hf
      refine w_iload_n rfl rfl ?_
      refine w_iload rfl rfl ?_
      refine w_isub rfl ?_
      refine w_aload_n rfl rfl ?_
      refine m_getR hM rfl rfl rfl (by decide) ?_
      refine w_iload_n rfl rfl ?_
      obtain ⟨hb, hf⟩ := g_guard hf
      refine m_ld hM rfl rfl (by decide) rfl hb ?_
      refine w_icmp (t := 38) rfl (by decide) (fun c2 => ?_) (fun c2 => ?_)
      · have c2 : ((S).2 14 (ix (x1))) < (x3 - x4) := c2
        rw [if_pos c2] at hf
        refine w_iload rfl rfl ?_
        refine w_aload_n rfl rfl ?_
        refine m_getR hM rfl rfl rfl (by decide) ?_
        refine w_iload_n rfl rfl ?_
        obtain ⟨hb, hf⟩ := g_guard hf
        refine m_ld hM rfl rfl (by decide) rfl hb ?_
        refine w_iadd rfl ?_
        refine w_istore rfl (Nat.le_of_ble_eq_true rfl) rfl ?_
        exact t_M_findParts_B49 ih hQ _ _ (x1) (x3) (x4) (x4 + ((S).2 14 (ix (x1)))) _ _ hf hM
      · have c2 : ¬ (((S).2 14 (ix (x1))) < (x3 - x4)) := c2
        rw [if_neg c2] at hf
        refine w_aload_n rfl rfl ?_
        refine w_iload rfl rfl ?_
        refine w_iload_n rfl rfl ?_
        refine w_iload rfl rfl ?_
        refine w_isub rfl ?_
        obtain ⟨q3, hc, hf⟩ := g_bind hf
        refine w_virtual [_, _] _ rfl rfl rfl rfl (Nat.le_of_ble_eq_true rfl) hM.1 rfl (Nat.le_of_ble_eq_true rfl) (Nat.le_of_ble_eq_true rfl) (t_M_line (d := d + 0) hc hM (fun h hM => ?_))
        refine w_iload_n rfl rfl ?_
        refine w_istore rfl (Nat.le_of_ble_eq_true rfl) rfl ?_
        refine w_goto (t := 3) rfl (by decide) ?_
        exact ih _ (x1) (x3) (x3) _ _ _ hf hM
def f_M_findParts (n : Nat) (S : MS) (x1 : Int32) (x2 : Int32) (x3 : Int32) : Option (MS) := f_M_findParts_B3  n (S) (x1) (x3) (x2)
set_option maxHeartbeats 4000000 in
set_option maxRecDepth 100000 in
theorem t_M_findParts {d m n : Nat} {ad : Nat → Nat} {h0 h : gHp} {Q : Option gv → gHp → Prop} {S : MS} {x1 : Int32} {x2 : Int32} {x3 : Int32} {res : MS} (hf : f_M_findParts n S x1 x2 x3 = some res) (hM : MR h0 h m ad S) (hQ : ∀ h', MR h0 h' m ad res → Q (none) h') : gCall (d + 2) m_M_findParts [.inr (some m), .inl x1, .inl x2, .inl x3] h Q := by
  unfold f_M_findParts at hf
  refine g_enter (d := d + 1) (Nat.le_of_ble_eq_true rfl) ?_
  show gWP (gCall (d + 1)) m_M_findParts Q 0 [some (.inr (some m)), some (.inl x1), some (.inl x2), some (.inl x3), none, none] [] h 0 0
  refine w_iload_n rfl rfl ?_
  refine w_istore rfl (Nat.le_of_ble_eq_true rfl) rfl ?_
  exact t_M_findParts_B3  hQ _ _ (x1) (x3) (x2) _ _ _ hf hM
def f_M_split_B113 (n : Nat) (S : MS) (x1 : Int32) (x2 : Int32) (x3 : Int32) (x4 : Int32) (s0 : Int32) : Option (MS) := (if x2 = (0 : Int32) then (bif inB (x1) 61 then (bif inB (x1) 61 then (bif inB (x1) 61 then (bif inB (x1) 61 then ((f_M_room n (S) ((S).2 7 (ix (x1))) ((S).2 12 (ix (x1))) ((S).2 13 (ix (x1))) ((S).2 14 (ix (x1))) (s0)).bind (fun q2 => (bif inB (x1) 61 then (bif inB (x1) 61 then (bif inB (x1) 61 then (bif inB (x1) 61 then ((f_M_room n (q2) ((q2).2 8 (ix (x1))) ((q2).2 12 (ix (x1))) ((((q2).2 13 (ix (x1))) + s0) + x4) ((q2).2 14 (ix (x1))) ((x3 - x4) - s0)).bind (fun q3 => some (q3))) else none) else none) else none) else none))) else none) else none) else none) else none) else (bif inB (x1) 61 then (bif inB (x1) 61 then (bif inB (x1) 61 then (bif inB (x1) 61 then ((f_M_room n (S) ((S).2 7 (ix (x1))) ((S).2 12 (ix (x1))) ((S).2 13 (ix (x1))) (s0) ((S).2 15 (ix (x1)))).bind (fun q2 => (bif inB (x1) 61 then (bif inB (x1) 61 then (bif inB (x1) 61 then (bif inB (x1) 61 then ((f_M_room n (q2) ((q2).2 8 (ix (x1))) ((((q2).2 12 (ix (x1))) + s0) + x4) ((q2).2 13 (ix (x1))) ((x3 - x4) - s0) ((q2).2 15 (ix (x1)))).bind (fun q3 => some (q3))) else none) else none) else none) else none))) else none) else none) else none) else none))
set_option maxHeartbeats 4000000 in
set_option maxRecDepth 100000 in
theorem t_M_split_B113 {d m : Nat} {ad : Nat → Nat} {h0 : gHp} {Q : Option gv → gHp → Prop} {res : MS} (hQ : ∀ h', MR h0 h' m ad res → Q (none) h') (n : Nat) (S : MS) (x1 : Int32) (x2 : Int32) (x3 : Int32) (x4 : Int32) (s0 : Int32) (u5 : Option gv) (u6 : Option gv) (u7 : Option gv) (h : gHp) (hf : f_M_split_B113 n S x1 x2 x3 x4 s0 = some res) (hM : MR h0 h m ad S) : gWP (gCall (d + 1)) m_M_split Q 113 [some (.inr (some m)), some (.inl x1), some (.inl x2), some (.inl x3), some (.inl x4), u5, u6, u7] [.inl s0] h 0 0 := by
  unfold f_M_split_B113 at hf
  refine w_istore rfl (Nat.le_of_ble_eq_true rfl) rfl ?_
  refine w_iload_n rfl rfl ?_
  refine w_iload rfl rfl ?_
  refine w_isub rfl ?_
  refine w_iload rfl rfl ?_
  refine w_isub rfl ?_
  refine w_istore rfl (Nat.le_of_ble_eq_true rfl) rfl ?_
  refine w_iload_n rfl rfl ?_
  refine w_if (t := 197) rfl (by decide) (fun c1 => ?_) (fun c1 => ?_)
  · have c1 : x2 = (0 : Int32) := c1
    rw [if_pos c1] at hf
    refine w_aload_n rfl rfl ?_
    refine w_aload_n rfl rfl ?_
    refine m_getR hM rfl rfl rfl (by decide) ?_
    refine w_iload_n rfl rfl ?_
    obtain ⟨hb, hf⟩ := g_guard hf
    refine m_ld hM rfl rfl (by decide) rfl hb ?_
    refine w_aload_n rfl rfl ?_
    refine m_getR hM rfl rfl rfl (by decide) ?_
    refine w_iload_n rfl rfl ?_
    obtain ⟨hb, hf⟩ := g_guard hf
    refine m_ld hM rfl rfl (by decide) rfl hb ?_
    refine w_aload_n rfl rfl ?_
    refine m_getR hM rfl rfl rfl (by decide) ?_
    refine w_iload_n rfl rfl ?_
    obtain ⟨hb, hf⟩ := g_guard hf
    refine m_ld hM rfl rfl (by decide) rfl hb ?_
    refine w_aload_n rfl rfl ?_
    refine m_getR hM rfl rfl rfl (by decide) ?_
    refine w_iload_n rfl rfl ?_
    obtain ⟨hb, hf⟩ := g_guard hf
    refine m_ld hM rfl rfl (by decide) rfl hb ?_
    refine w_iload rfl rfl ?_
    obtain ⟨q2, hc, hf⟩ := g_bind hf
    refine w_virtual [_, _, _, _, _] _ rfl rfl rfl rfl (Nat.le_of_ble_eq_true rfl) hM.1 rfl (Nat.le_of_ble_eq_true rfl) (Nat.le_of_ble_eq_true rfl) (t_M_room (d := d + 0) hc hM (fun h hM => ?_))
    refine w_aload_n rfl rfl ?_
    refine w_aload_n rfl rfl ?_
    refine m_getR hM rfl rfl rfl (by decide) ?_
    refine w_iload_n rfl rfl ?_
    obtain ⟨hb, hf⟩ := g_guard hf
    refine m_ld hM rfl rfl (by decide) rfl hb ?_
    refine w_aload_n rfl rfl ?_
    refine m_getR hM rfl rfl rfl (by decide) ?_
    refine w_iload_n rfl rfl ?_
    obtain ⟨hb, hf⟩ := g_guard hf
    refine m_ld hM rfl rfl (by decide) rfl hb ?_
    refine w_aload_n rfl rfl ?_
    refine m_getR hM rfl rfl rfl (by decide) ?_
    refine w_iload_n rfl rfl ?_
    obtain ⟨hb, hf⟩ := g_guard hf
    refine m_ld hM rfl rfl (by decide) rfl hb ?_
    refine w_iload rfl rfl ?_
    refine w_iadd rfl ?_
    refine w_iload rfl rfl ?_
    refine w_iadd rfl ?_
    refine w_aload_n rfl rfl ?_
    refine m_getR hM rfl rfl rfl (by decide) ?_
    refine w_iload_n rfl rfl ?_
    obtain ⟨hb, hf⟩ := g_guard hf
    refine m_ld hM rfl rfl (by decide) rfl hb ?_
    refine w_iload rfl rfl ?_
    obtain ⟨q3, hc, hf⟩ := g_bind hf
    refine w_virtual [_, _, _, _, _] _ rfl rfl rfl rfl (Nat.le_of_ble_eq_true rfl) hM.1 rfl (Nat.le_of_ble_eq_true rfl) (Nat.le_of_ble_eq_true rfl) (t_M_room (d := d + 0) hc hM (fun h hM => ?_))
    cases hf
    exact w_return rfl rfl (Nat.le_refl _) (Nat.le_refl _) (hQ _ hM)
  · have c1 : ¬ (x2 = (0 : Int32)) := c1
    rw [if_neg c1] at hf
    refine w_aload_n rfl rfl ?_
    refine w_aload_n rfl rfl ?_
    refine m_getR hM rfl rfl rfl (by decide) ?_
    refine w_iload_n rfl rfl ?_
    obtain ⟨hb, hf⟩ := g_guard hf
    refine m_ld hM rfl rfl (by decide) rfl hb ?_
    refine w_aload_n rfl rfl ?_
    refine m_getR hM rfl rfl rfl (by decide) ?_
    refine w_iload_n rfl rfl ?_
    obtain ⟨hb, hf⟩ := g_guard hf
    refine m_ld hM rfl rfl (by decide) rfl hb ?_
    refine w_aload_n rfl rfl ?_
    refine m_getR hM rfl rfl rfl (by decide) ?_
    refine w_iload_n rfl rfl ?_
    obtain ⟨hb, hf⟩ := g_guard hf
    refine m_ld hM rfl rfl (by decide) rfl hb ?_
    refine w_iload rfl rfl ?_
    refine w_aload_n rfl rfl ?_
    refine m_getR hM rfl rfl rfl (by decide) ?_
    refine w_iload_n rfl rfl ?_
    obtain ⟨hb, hf⟩ := g_guard hf
    refine m_ld hM rfl rfl (by decide) rfl hb ?_
    obtain ⟨q2, hc, hf⟩ := g_bind hf
    refine w_virtual [_, _, _, _, _] _ rfl rfl rfl rfl (Nat.le_of_ble_eq_true rfl) hM.1 rfl (Nat.le_of_ble_eq_true rfl) (Nat.le_of_ble_eq_true rfl) (t_M_room (d := d + 0) hc hM (fun h hM => ?_))
    refine w_aload_n rfl rfl ?_
    refine w_aload_n rfl rfl ?_
    refine m_getR hM rfl rfl rfl (by decide) ?_
    refine w_iload_n rfl rfl ?_
    obtain ⟨hb, hf⟩ := g_guard hf
    refine m_ld hM rfl rfl (by decide) rfl hb ?_
    refine w_aload_n rfl rfl ?_
    refine m_getR hM rfl rfl rfl (by decide) ?_
    refine w_iload_n rfl rfl ?_
    obtain ⟨hb, hf⟩ := g_guard hf
    refine m_ld hM rfl rfl (by decide) rfl hb ?_
    refine w_iload rfl rfl ?_
    refine w_iadd rfl ?_
    refine w_iload rfl rfl ?_
    refine w_iadd rfl ?_
    refine w_aload_n rfl rfl ?_
    refine m_getR hM rfl rfl rfl (by decide) ?_
    refine w_iload_n rfl rfl ?_
    obtain ⟨hb, hf⟩ := g_guard hf
    refine m_ld hM rfl rfl (by decide) rfl hb ?_
    refine w_iload rfl rfl ?_
    refine w_aload_n rfl rfl ?_
    refine m_getR hM rfl rfl rfl (by decide) ?_
    refine w_iload_n rfl rfl ?_
    obtain ⟨hb, hf⟩ := g_guard hf
    refine m_ld hM rfl rfl (by decide) rfl hb ?_
    obtain ⟨q3, hc, hf⟩ := g_bind hf
    refine w_virtual [_, _, _, _, _] _ rfl rfl rfl rfl (Nat.le_of_ble_eq_true rfl) hM.1 rfl (Nat.le_of_ble_eq_true rfl) (Nat.le_of_ble_eq_true rfl) (t_M_room (d := d + 0) hc hM (fun h hM => ?_))
    refine w_goto (t := 263) rfl (by decide) ?_
    cases hf
    exact w_return rfl rfl (Nat.le_refl _) (Nat.le_refl _) (hQ _ hM)
def f_M_split_B88 (n : Nat) (S : MS) (x1 : Int32) (x2 : Int32) (x3 : Int32) (x4 : Int32) (s0 : Int32) : Option (MS) := (bif inB (x1) 61 then (if (((S).2 9 (ix (x1))) &&& (1 : Int32)) = (0 : Int32) then f_M_split_B113  n (S) (x1) (x2) (x3) (x4) (s0) else f_M_split_B113  n (S) (x1) (x2) (x3) (x4) ((x3 - x4) - s0)) else none)
set_option maxHeartbeats 4000000 in
set_option maxRecDepth 100000 in
theorem t_M_split_B88 {d m : Nat} {ad : Nat → Nat} {h0 : gHp} {Q : Option gv → gHp → Prop} {res : MS} (hQ : ∀ h', MR h0 h' m ad res → Q (none) h') (n : Nat) (S : MS) (x1 : Int32) (x2 : Int32) (x3 : Int32) (x4 : Int32) (s0 : Int32) (u5 : Option gv) (u6 : Option gv) (u7 : Option gv) (h : gHp) (hf : f_M_split_B88 n S x1 x2 x3 x4 s0 = some res) (hM : MR h0 h m ad S) : gWP (gCall (d + 1)) m_M_split Q 88 [some (.inr (some m)), some (.inl x1), some (.inl x2), some (.inl x3), some (.inl x4), u5, u6, u7] [.inl s0] h 0 0 := by
  unfold f_M_split_B88 at hf
  refine w_istore rfl (Nat.le_of_ble_eq_true rfl) rfl ?_
  refine w_aload_n rfl rfl ?_
  refine m_getR hM rfl rfl rfl (by decide) ?_
  refine w_iload_n rfl rfl ?_
  obtain ⟨hb, hf⟩ := g_guard hf
  refine m_ld hM rfl rfl (by decide) rfl hb ?_
  refine w_iconst (v := (1 : Int32)) rfl (by decide) ?_
  refine w_iand rfl ?_
  refine w_if (t := 106) rfl (by decide) (fun c1 => ?_) (fun c1 => ?_)
  · have c1 : ¬ ((((S).2 9 (ix (x1))) &&& (1 : Int32)) = (0 : Int32)) := c1
    rw [if_neg c1] at hf
    refine w_iload_n rfl rfl ?_
    refine w_iload rfl rfl ?_
    refine w_isub rfl ?_
    refine w_iload rfl rfl ?_
    refine w_isub rfl ?_
    exact t_M_split_B113  hQ _ _ (x1) (x2) (x3) (x4) ((x3 - x4) - s0) _ _ _ _ hf hM
  · have c1 : (((S).2 9 (ix (x1))) &&& (1 : Int32)) = (0 : Int32) := Classical.not_not.mp c1
    rw [if_pos c1] at hf
    refine w_iload rfl rfl ?_
    refine w_goto (t := 113) rfl (by decide) ?_
    exact t_M_split_B113  hQ _ _ (x1) (x2) (x3) (x4) (s0) _ _ _ _ hf hM
def f_M_split_B59 (n : Nat) (S : MS) (x1 : Int32) (x2 : Int32) (x3 : Int32) (s0 : Int32) : Option (MS) := ((f_M_wanted n (S) (x1) (x3) (x2)).bind (fun q1 => (if q1.1 ≤ (x3 - s0) then f_M_split_B88  n (q1.2) (x1) (x2) (x3) (s0) (q1.1) else f_M_split_B88  n (q1.2) (x1) (x2) (x3) (s0) (x3 - s0))))
set_option maxHeartbeats 4000000 in
set_option maxRecDepth 100000 in
theorem t_M_split_B59 {d m : Nat} {ad : Nat → Nat} {h0 : gHp} {Q : Option gv → gHp → Prop} {res : MS} (hQ : ∀ h', MR h0 h' m ad res → Q (none) h') (n : Nat) (S : MS) (x1 : Int32) (x2 : Int32) (x3 : Int32) (s0 : Int32) (u4 : Option gv) (u5 : Option gv) (u6 : Option gv) (u7 : Option gv) (h : gHp) (hf : f_M_split_B59 n S x1 x2 x3 s0 = some res) (hM : MR h0 h m ad S) : gWP (gCall (d + 1)) m_M_split Q 59 [some (.inr (some m)), some (.inl x1), some (.inl x2), some (.inl x3), u4, u5, u6, u7] [.inl s0] h 0 0 := by
  unfold f_M_split_B59 at hf
  refine w_istore rfl (Nat.le_of_ble_eq_true rfl) rfl ?_
  refine w_aload_n rfl rfl ?_
  refine w_iload_n rfl rfl ?_
  refine w_iload_n rfl rfl ?_
  refine w_iload_n rfl rfl ?_
  obtain ⟨q1, hc, hf⟩ := g_bind hf
  refine w_virtual [_, _, _] _ rfl rfl rfl rfl (Nat.le_of_ble_eq_true rfl) hM.1 rfl (Nat.le_of_ble_eq_true rfl) (Nat.le_of_ble_eq_true rfl) (t_M_wanted (d := d + 0) hc hM (fun h hM => ?_))
  refine w_istore rfl (Nat.le_of_ble_eq_true rfl) rfl ?_
  refine w_iload rfl rfl ?_
  refine w_iload_n rfl rfl ?_
  refine w_iload rfl rfl ?_
  refine w_isub rfl ?_
  refine w_icmp (t := 86) rfl (by decide) (fun c2 => ?_) (fun c2 => ?_)
  · have c2 : q1.1 ≤ (x3 - s0) := c2
    rw [if_pos c2] at hf
    refine w_iload rfl rfl ?_
    exact t_M_split_B88  hQ _ _ (x1) (x2) (x3) (s0) (q1.1) _ _ _ _ hf hM
  · have c2 : ¬ (q1.1 ≤ (x3 - s0)) := c2
    rw [if_neg c2] at hf
    refine w_iload_n rfl rfl ?_
    refine w_iload rfl rfl ?_
    refine w_isub rfl ?_
    refine w_goto (t := 88) rfl (by decide) ?_
    exact t_M_split_B88  hQ _ _ (x1) (x2) (x3) (s0) (x3 - s0) _ _ _ _ hf hM
def f_M_split_B58 (n : Nat) (S : MS) (x1 : Int32) (x2 : Int32) (x3 : Int32) : Option (MS) := f_M_split_B59  n (S) (x1) (x2) (x3) ((0 : Int32))
set_option maxHeartbeats 4000000 in
set_option maxRecDepth 100000 in
theorem t_M_split_B58 {d m : Nat} {ad : Nat → Nat} {h0 : gHp} {Q : Option gv → gHp → Prop} {res : MS} (hQ : ∀ h', MR h0 h' m ad res → Q (none) h') (n : Nat) (S : MS) (x1 : Int32) (x2 : Int32) (x3 : Int32) (u4 : Option gv) (u5 : Option gv) (u6 : Option gv) (u7 : Option gv) (h : gHp) (hf : f_M_split_B58 n S x1 x2 x3  = some res) (hM : MR h0 h m ad S) : gWP (gCall (d + 1)) m_M_split Q 58 [some (.inr (some m)), some (.inl x1), some (.inl x2), some (.inl x3), u4, u5, u6, u7] [] h 0 0 := by
  unfold f_M_split_B58 at hf
  refine w_iconst (v := (0 : Int32)) rfl (by decide) ?_
  exact t_M_split_B59  hQ _ _ (x1) (x2) (x3) ((0 : Int32)) _ _ _ _ _ hf hM
def f_M_split_B37 (n : Nat) (S : MS) (x1 : Int32) (x2 : Int32) (s0 : Int32) : Option (MS) := (bif inB (x1) 61 then (if (((S).2 9 (ix (x1))) &&& (8 : Int32)) = (0 : Int32) then (if s0 ≤ (0 : Int32) then f_M_split_B58  n (S) (x1) (x2) (s0)  else f_M_split_B59  n (S) (x1) (x2) (s0) ((1 : Int32))) else f_M_split_B58  n (S) (x1) (x2) (s0) ) else none)
set_option maxHeartbeats 4000000 in
set_option maxRecDepth 100000 in
theorem t_M_split_B37 {d m : Nat} {ad : Nat → Nat} {h0 : gHp} {Q : Option gv → gHp → Prop} {res : MS} (hQ : ∀ h', MR h0 h' m ad res → Q (none) h') (n : Nat) (S : MS) (x1 : Int32) (x2 : Int32) (s0 : Int32) (u3 : Option gv) (u4 : Option gv) (u5 : Option gv) (u6 : Option gv) (u7 : Option gv) (h : gHp) (hf : f_M_split_B37 n S x1 x2 s0 = some res) (hM : MR h0 h m ad S) : gWP (gCall (d + 1)) m_M_split Q 37 [some (.inr (some m)), some (.inl x1), some (.inl x2), u3, u4, u5, u6, u7] [.inl s0] h 0 0 := by
  unfold f_M_split_B37 at hf
  refine w_istore_n rfl (Nat.le_of_ble_eq_true rfl) rfl ?_
  refine w_aload_n rfl rfl ?_
  refine m_getR hM rfl rfl rfl (by decide) ?_
  refine w_iload_n rfl rfl ?_
  obtain ⟨hb, hf⟩ := g_guard hf
  refine m_ld hM rfl rfl (by decide) rfl hb ?_
  refine w_bipush (v := (8 : Int32)) rfl (by decide) ?_
  refine w_iand rfl ?_
  refine w_if (t := 58) rfl (by decide) (fun c1 => ?_) (fun c1 => ?_)
  · have c1 : ¬ ((((S).2 9 (ix (x1))) &&& (8 : Int32)) = (0 : Int32)) := c1
    rw [if_neg c1] at hf
    exact t_M_split_B58  hQ _ _ (x1) (x2) (s0)  _ _ _ _ _ hf hM
  · have c1 : (((S).2 9 (ix (x1))) &&& (8 : Int32)) = (0 : Int32) := Classical.not_not.mp c1
    rw [if_pos c1] at hf
    refine w_iload_n rfl rfl ?_
    refine w_if (t := 58) rfl (by decide) (fun c2 => ?_) (fun c2 => ?_)
    · have c2 : s0 ≤ (0 : Int32) := c2
      rw [if_pos c2] at hf
      exact t_M_split_B58  hQ _ _ (x1) (x2) (s0)  _ _ _ _ _ hf hM
    · have c2 : ¬ (s0 ≤ (0 : Int32)) := c2
      rw [if_neg c2] at hf
      refine w_iconst (v := (1 : Int32)) rfl (by decide) ?_
      refine w_goto (t := 59) rfl (by decide) ?_
      exact t_M_split_B59  hQ _ _ (x1) (x2) (s0) ((1 : Int32)) _ _ _ _ _ hf hM
def f_M_split_B17 (n : Nat) (S : MS) (x1 : Int32) (s0 : Int32) : Option (MS) := (if s0 = (0 : Int32) then (bif inB (x1) 61 then f_M_split_B37  n (S) (x1) (s0) ((S).2 15 (ix (x1))) else none) else (bif inB (x1) 61 then f_M_split_B37  n (S) (x1) (s0) ((S).2 14 (ix (x1))) else none))
set_option maxHeartbeats 4000000 in
set_option maxRecDepth 100000 in
theorem t_M_split_B17 {d m : Nat} {ad : Nat → Nat} {h0 : gHp} {Q : Option gv → gHp → Prop} {res : MS} (hQ : ∀ h', MR h0 h' m ad res → Q (none) h') (n : Nat) (S : MS) (x1 : Int32) (s0 : Int32) (u2 : Option gv) (u3 : Option gv) (u4 : Option gv) (u5 : Option gv) (u6 : Option gv) (u7 : Option gv) (h : gHp) (hf : f_M_split_B17 n S x1 s0 = some res) (hM : MR h0 h m ad S) : gWP (gCall (d + 1)) m_M_split Q 17 [some (.inr (some m)), some (.inl x1), u2, u3, u4, u5, u6, u7] [.inl s0] h 0 0 := by
  unfold f_M_split_B17 at hf
  refine w_istore_n rfl (Nat.le_of_ble_eq_true rfl) rfl ?_
  refine w_iload_n rfl rfl ?_
  refine w_if (t := 31) rfl (by decide) (fun c1 => ?_) (fun c1 => ?_)
  · have c1 : s0 = (0 : Int32) := c1
    rw [if_pos c1] at hf
    refine w_aload_n rfl rfl ?_
    refine m_getR hM rfl rfl rfl (by decide) ?_
    refine w_iload_n rfl rfl ?_
    obtain ⟨hb, hf⟩ := g_guard hf
    refine m_ld hM rfl rfl (by decide) rfl hb ?_
    exact t_M_split_B37  hQ _ _ (x1) (s0) ((S).2 15 (ix (x1))) _ _ _ _ _ _ hf hM
  · have c1 : ¬ (s0 = (0 : Int32)) := c1
    rw [if_neg c1] at hf
    refine w_aload_n rfl rfl ?_
    refine m_getR hM rfl rfl rfl (by decide) ?_
    refine w_iload_n rfl rfl ?_
    obtain ⟨hb, hf⟩ := g_guard hf
    refine m_ld hM rfl rfl (by decide) rfl hb ?_
    refine w_goto (t := 37) rfl (by decide) ?_
    exact t_M_split_B37  hQ _ _ (x1) (s0) ((S).2 14 (ix (x1))) _ _ _ _ _ _ hf hM
def f_M_split (n : Nat) (S : MS) (x1 : Int32) : Option (MS) := (bif inB (x1) 61 then (if (2 : Int32) ≤ (((S).2 9 (ix (x1))) &&& (3 : Int32)) then f_M_split_B17  n (S) (x1) ((0 : Int32)) else f_M_split_B17  n (S) (x1) ((1 : Int32))) else none)
set_option maxHeartbeats 4000000 in
set_option maxRecDepth 100000 in
theorem t_M_split {d m n : Nat} {ad : Nat → Nat} {h0 h : gHp} {Q : Option gv → gHp → Prop} {S : MS} {x1 : Int32} {res : MS} (hf : f_M_split n S x1 = some res) (hM : MR h0 h m ad S) (hQ : ∀ h', MR h0 h' m ad res → Q (none) h') : gCall (d + 2) m_M_split [.inr (some m), .inl x1] h Q := by
  unfold f_M_split at hf
  refine g_enter (d := d + 1) (Nat.le_of_ble_eq_true rfl) ?_
  show gWP (gCall (d + 1)) m_M_split Q 0 [some (.inr (some m)), some (.inl x1), none, none, none, none, none, none] [] h 0 0
  refine w_aload_n rfl rfl ?_
  refine m_getR hM rfl rfl rfl (by decide) ?_
  refine w_iload_n rfl rfl ?_
  obtain ⟨hb, hf⟩ := g_guard hf
  refine m_ld hM rfl rfl (by decide) rfl hb ?_
  refine w_iconst (v := (3 : Int32)) rfl (by decide) ?_
  refine w_iand rfl ?_
  refine w_iconst (v := (2 : Int32)) rfl (by decide) ?_
  refine w_icmp (t := 16) rfl (by decide) (fun c1 => ?_) (fun c1 => ?_)
  · have c1 : (2 : Int32) ≤ (((S).2 9 (ix (x1))) &&& (3 : Int32)) := c1
    rw [if_pos c1] at hf
    refine w_iconst (v := (0 : Int32)) rfl (by decide) ?_
    exact t_M_split_B17  hQ _ _ (x1) ((0 : Int32)) _ _ _ _ _ _ _ hf hM
  · have c1 : ¬ ((2 : Int32) ≤ (((S).2 9 (ix (x1))) &&& (3 : Int32))) := c1
    rw [if_neg c1] at hf
    refine w_iconst (v := (1 : Int32)) rfl (by decide) ?_
    refine w_goto (t := 17) rfl (by decide) ?_
    exact t_M_split_B17  hQ _ _ (x1) ((1 : Int32)) _ _ _ _ _ _ _ hf hM
