def f_Wrap_lastSpace_B2 : Nat → gHp → Option Nat → Int32 → Int32 → Option (Int32 × gHp)
  | 0, _, _, _, _ => none
  | n + 1, h, x0, x1, x3 => (if x3 < x1 then some ((-1 : Int32), h) else (x0.bind (fun b2 => (((bif gtis (gtag (h) b2) 6 then f_Text_cellOf n (h) b2 (x3) else none)).bind (fun q3 => ((f_G_signOf n (q3.2) (q3.1)).bind (fun q4 => (if q4.1 = (32 : Int32) then some (x3, q4.2) else f_Wrap_lastSpace_B2 n (q4.2) (x0) (x1) (x3 + (-1 : Int32))))))))))
set_option maxHeartbeats 4000000 in
set_option maxRecDepth 100000 in
theorem t_Wrap_lastSpace_B2 {d : Nat} {Q : Option gv → gHp → Prop} {res : Int32 × gHp} (hQ : Q (some (.inl res.1)) res.2) : ∀ (n : Nat) (h : gHp) (x0 : Option Nat) (x1 : Int32) (x3 : Int32) (u2 : Option gv), f_Wrap_lastSpace_B2 n h x0 x1 x3  = some res → gWP (gCall (d + 2)) m_Wrap_lastSpace Q 2 [some (.inr x0), some (.inl x1), u2, some (.inl x3)] [] h 0 0 := by
  intro n
  induction n with
  | zero =>
    intro h x0 x1 x3  u2 hf
    cases hf
  | succ n ih =>
    intro h x0 x1 x3  u2 hf
    unfold f_Wrap_lastSpace_B2 at hf
    refine w_iload_n rfl rfl ?_
    refine w_iload_n rfl rfl ?_
    refine w_icmp (t := 28) rfl (by decide) (fun c1 => ?_) (fun c1 => ?_)
    · have c1 : x3 < x1 := c1
      rw [if_pos c1] at hf
      refine w_iconst (v := (-1 : Int32)) rfl (by decide) ?_
      cases hf
      exact w_ireturn rfl (int_ret _) (Nat.le_refl _) (Nat.le_refl _) hQ
    · have c1 : ¬ (x3 < x1) := c1
      rw [if_neg c1] at hf
      refine w_aload_n rfl rfl ?_
      refine w_iload_n rfl rfl ?_
      obtain ⟨b2, ho, hf⟩ := g_bind hf
      refine x_dr1 ho ?_
      obtain ⟨q3, hc, hf⟩ := g_bind hf
      obtain ⟨hg, hc⟩ := g_guard hc
      refine x_virt 6 [_] _ hg rfl rfl rfl rfl (Nat.le_of_ble_eq_true rfl) rfl (Nat.le_of_ble_eq_true rfl) (Nat.le_of_ble_eq_true rfl) (t_Text_cellOf (d := d + 0) hc ?_)
      obtain ⟨q4, hc, hf⟩ := g_bind hf
      refine w_static [_] _ rfl rfl rfl rfl (Nat.le_of_ble_eq_true rfl) (Nat.le_of_ble_eq_true rfl) (Nat.le_of_ble_eq_true rfl) (t_G_signOf (d := d + 1) hc ?_)
      refine w_bipush (v := (32 : Int32)) rfl (by decide) ?_
      refine w_icmp (t := 22) rfl (by decide) (fun c5 => ?_) (fun c5 => ?_)
      · have c5 : ¬ (q4.1 = (32 : Int32)) := c5
        rw [if_neg c5] at hf
        refine w_iinc (v := (-1 : Int32)) rfl rfl (by decide) rfl ?_
        refine w_goto (t := 2) rfl (by decide) ?_
        exact ih _ (x0) (x1) (x3 + (-1 : Int32)) _ hf
      · have c5 : q4.1 = (32 : Int32) := Classical.not_not.mp c5
        rw [if_pos c5] at hf
        refine w_iload_n rfl rfl ?_
        cases hf
        exact w_ireturn rfl (int_ret _) (Nat.le_refl _) (Nat.le_refl _) hQ
def f_Wrap_lastSpace (n : Nat) (h : gHp) (x0 : Option Nat) (x1 : Int32) (x2 : Int32) : Option (Int32 × gHp) := f_Wrap_lastSpace_B2  n (h) (x0) (x1) (x2) 
set_option maxHeartbeats 4000000 in
set_option maxRecDepth 100000 in
theorem t_Wrap_lastSpace {d n : Nat} {h : gHp} {x0 : Option Nat} {x1 : Int32} {x2 : Int32} {res : Int32 × gHp} {Q : Option gv → gHp → Prop} (hf : f_Wrap_lastSpace n h x0 x1 x2 = some res) (hQ : Q (some (.inl res.1)) res.2) : gCall (d + 3) m_Wrap_lastSpace [.inr x0, .inl x1, .inl x2] h Q := by
  unfold f_Wrap_lastSpace at hf
  refine g_enter (d := d + 2) (Nat.le_of_ble_eq_true rfl) ?_
  show gWP (gCall (d + 2)) m_Wrap_lastSpace Q 0 [some (.inr x0), some (.inl x1), some (.inl x2), none] [] h 0 0
  refine w_iload_n rfl rfl ?_
  refine w_istore_n rfl (Nat.le_of_ble_eq_true rfl) rfl ?_
  exact t_Wrap_lastSpace_B2  hQ _ _ (x0) (x1) (x2)  _ hf
def f_Wrap_afterSpaces_B2 : Nat → gHp → Option Nat → Int32 → Int32 → Option (Int32 × gHp)
  | 0, _, _, _, _ => none
  | n + 1, h, x0, x2, x3 => (if x2 ≤ x3 then some (x2, h) else (x0.bind (fun b2 => (((bif gtis (gtag (h) b2) 6 then f_Text_cellOf n (h) b2 (x3) else none)).bind (fun q3 => ((f_G_signOf n (q3.2) (q3.1)).bind (fun q4 => (if q4.1 = (32 : Int32) then f_Wrap_afterSpaces_B2 n (q4.2) (x0) (x2) (x3 + (1 : Int32)) else some (x3, q4.2)))))))))
set_option maxHeartbeats 4000000 in
set_option maxRecDepth 100000 in
theorem t_Wrap_afterSpaces_B2 {d : Nat} {Q : Option gv → gHp → Prop} {res : Int32 × gHp} (hQ : Q (some (.inl res.1)) res.2) : ∀ (n : Nat) (h : gHp) (x0 : Option Nat) (x2 : Int32) (x3 : Int32) (u1 : Option gv), f_Wrap_afterSpaces_B2 n h x0 x2 x3  = some res → gWP (gCall (d + 2)) m_Wrap_afterSpaces Q 2 [some (.inr x0), u1, some (.inl x2), some (.inl x3)] [] h 0 0 := by
  intro n
  induction n with
  | zero =>
    intro h x0 x2 x3  u1 hf
    cases hf
  | succ n ih =>
    intro h x0 x2 x3  u1 hf
    unfold f_Wrap_afterSpaces_B2 at hf
    refine w_iload_n rfl rfl ?_
    refine w_iload_n rfl rfl ?_
    refine w_icmp (t := 28) rfl (by decide) (fun c1 => ?_) (fun c1 => ?_)
    · have c1 : x2 ≤ x3 := c1
      rw [if_pos c1] at hf
      refine w_iload_n rfl rfl ?_
      cases hf
      exact w_ireturn rfl (int_ret _) (Nat.le_refl _) (Nat.le_refl _) hQ
    · have c1 : ¬ (x2 ≤ x3) := c1
      rw [if_neg c1] at hf
      refine w_aload_n rfl rfl ?_
      refine w_iload_n rfl rfl ?_
      obtain ⟨b2, ho, hf⟩ := g_bind hf
      refine x_dr1 ho ?_
      obtain ⟨q3, hc, hf⟩ := g_bind hf
      obtain ⟨hg, hc⟩ := g_guard hc
      refine x_virt 6 [_] _ hg rfl rfl rfl rfl (Nat.le_of_ble_eq_true rfl) rfl (Nat.le_of_ble_eq_true rfl) (Nat.le_of_ble_eq_true rfl) (t_Text_cellOf (d := d + 0) hc ?_)
      obtain ⟨q4, hc, hf⟩ := g_bind hf
      refine w_static [_] _ rfl rfl rfl rfl (Nat.le_of_ble_eq_true rfl) (Nat.le_of_ble_eq_true rfl) (Nat.le_of_ble_eq_true rfl) (t_G_signOf (d := d + 1) hc ?_)
      refine w_bipush (v := (32 : Int32)) rfl (by decide) ?_
      refine w_icmp (t := 22) rfl (by decide) (fun c5 => ?_) (fun c5 => ?_)
      · have c5 : q4.1 = (32 : Int32) := c5
        rw [if_pos c5] at hf
        refine w_iinc (v := (1 : Int32)) rfl rfl (by decide) rfl ?_
        refine w_goto (t := 2) rfl (by decide) ?_
        exact ih _ (x0) (x2) (x3 + (1 : Int32)) _ hf
      · have c5 : ¬ (q4.1 = (32 : Int32)) := c5
        rw [if_neg c5] at hf
        refine w_iload_n rfl rfl ?_
        cases hf
        exact w_ireturn rfl (int_ret _) (Nat.le_refl _) (Nat.le_refl _) hQ
def f_Wrap_afterSpaces (n : Nat) (h : gHp) (x0 : Option Nat) (x1 : Int32) (x2 : Int32) : Option (Int32 × gHp) := f_Wrap_afterSpaces_B2  n (h) (x0) (x2) (x1) 
set_option maxHeartbeats 4000000 in
set_option maxRecDepth 100000 in
theorem t_Wrap_afterSpaces {d n : Nat} {h : gHp} {x0 : Option Nat} {x1 : Int32} {x2 : Int32} {res : Int32 × gHp} {Q : Option gv → gHp → Prop} (hf : f_Wrap_afterSpaces n h x0 x1 x2 = some res) (hQ : Q (some (.inl res.1)) res.2) : gCall (d + 3) m_Wrap_afterSpaces [.inr x0, .inl x1, .inl x2] h Q := by
  unfold f_Wrap_afterSpaces at hf
  refine g_enter (d := d + 2) (Nat.le_of_ble_eq_true rfl) ?_
  show gWP (gCall (d + 2)) m_Wrap_afterSpaces Q 0 [some (.inr x0), some (.inl x1), some (.inl x2), none] [] h 0 0
  refine w_iload_n rfl rfl ?_
  refine w_istore_n rfl (Nat.le_of_ble_eq_true rfl) rfl ?_
  exact t_Wrap_afterSpaces_B2  hQ _ _ (x0) (x2) (x1)  _ hf
def f_Wrap_foldParagraph_B19 (a0 : Nat) : Nat → gHp → Option Nat → Int32 → Int32 → Int32 → Int32 → Option (gHp)
  | 0, _, _, _, _, _, _ => none
  | n + 1, h, x1, x2, x4, x5, x6 => (bif gtin (gtag (h) a0) [8] then ((gref (h) a0 0).bind (fun b1 => ((gtag (h) b1).bind (fun t2 => (bif (Nat.ble 20 t2.1 && Nat.ble t2.1 24) then (if (Int32.ofNat t2.2) ≤ x6 then some (h) else (if x4 ≤ x5 then some (h) else (if x2 < (x4 - x5) then ((f_Wrap_lastSpace n (h) (x1) (x5) (x5 + x2)).bind (fun q6 => (if (0 : Int32) ≤ q6.1 then (((bif gtis (gtag (q6.2) a0) 8 then f_Wrap_addLine n (q6.2) a0 (x5) (q6.1) else none)).bind (fun q8 => ((f_Wrap_afterSpaces n (q8) (x1) (q6.1) (x4)).bind (fun q9 => f_Wrap_foldParagraph_B19 a0 n (q9.2) (x1) (x2) (x4) (q9.1) (x6 + (1 : Int32)))))) else (((bif gtis (gtag (q6.2) a0) 8 then f_Wrap_addLine n (q6.2) a0 (x5) (x5 + x2) else none)).bind (fun q8 => f_Wrap_foldParagraph_B19 a0 n (q8) (x1) (x2) (x4) (x5 + x2) (x6 + (1 : Int32))))))) else (((bif gtis (gtag (h) a0) 8 then f_Wrap_addLine n (h) a0 (x5) (x4) else none)).bind (fun q6 => some (q6)))))) else none))))) else none)
set_option maxHeartbeats 4000000 in
set_option maxRecDepth 100000 in
theorem t_Wrap_foldParagraph_B19 {d a0 : Nat} {Q : Option gv → gHp → Prop} {res : gHp} (hQ : Q (none) res) : ∀ (n : Nat) (h : gHp) (x1 : Option Nat) (x2 : Int32) (x4 : Int32) (x5 : Int32) (x6 : Int32) (u3 : Option gv) (u7 : Option gv), f_Wrap_foldParagraph_B19 a0 n h x1 x2 x4 x5 x6  = some res → gWP (gCall (d + 3)) m_Wrap_foldParagraph Q 19 [some (.inr (some a0)), some (.inr x1), some (.inl x2), u3, some (.inl x4), some (.inl x5), some (.inl x6), u7] [] h 0 0 := by
  intro n
  induction n with
  | zero =>
    intro h x1 x2 x4 x5 x6  u3 u7 hf
    cases hf
  | succ n ih =>
    intro h x1 x2 x4 x5 x6  u3 u7 hf
    unfold f_Wrap_foldParagraph_B19 at hf
    refine w_iload rfl rfl ?_
    refine w_aload_n rfl rfl ?_
    obtain ⟨hg, hf⟩ := g_guard hf
    refine x_getR hg rfl rfl rfl ?_
    obtain ⟨b1, ho, hf⟩ := g_bind hf
    refine x_dr0 ho ?_
    obtain ⟨t2, ht, hf⟩ := g_bind hf
    obtain ⟨hg, hf⟩ := g_guard hf
    refine x_len ht hg rfl ?_
    refine w_icmp (t := 114) rfl (by decide) (fun c3 => ?_) (fun c3 => ?_)
    · have c3 : (Int32.ofNat t2.2) ≤ x6 := c3
      rw [if_pos c3] at hf
      cases hf
      exact w_return rfl rfl (Nat.le_refl _) (Nat.le_refl _) hQ
    · have c3 : ¬ ((Int32.ofNat t2.2) ≤ x6) := c3
      rw [if_neg c3] at hf
      refine w_iload rfl rfl ?_
      refine w_iload rfl rfl ?_
      refine w_icmp (t := 114) rfl (by decide) (fun c4 => ?_) (fun c4 => ?_)
      · have c4 : x4 ≤ x5 := c4
        rw [if_pos c4] at hf
        cases hf
        exact w_return rfl rfl (Nat.le_refl _) (Nat.le_refl _) hQ
      · have c4 : ¬ (x4 ≤ x5) := c4
        rw [if_neg c4] at hf
        refine w_iload rfl rfl ?_
        refine w_iload rfl rfl ?_
        refine w_isub rfl ?_
        refine w_iload_n rfl rfl ?_
        refine w_icmp (t := 54) rfl (by decide) (fun c5 => ?_) (fun c5 => ?_)
        · have c5 : x2 < (x4 - x5) := c5
          rw [if_pos c5] at hf
          refine w_aload_n rfl rfl ?_
          refine w_iload rfl rfl ?_
          refine w_iload rfl rfl ?_
          refine w_iload_n rfl rfl ?_
          refine w_iadd rfl ?_
          obtain ⟨q6, hc, hf⟩ := g_bind hf
          refine w_static [_, _, _] _ rfl rfl rfl rfl (Nat.le_of_ble_eq_true rfl) (Nat.le_of_ble_eq_true rfl) (Nat.le_of_ble_eq_true rfl) (t_Wrap_lastSpace (d := d + 0) hc ?_)
          refine w_istore rfl (Nat.le_of_ble_eq_true rfl) rfl ?_
          refine w_iload rfl rfl ?_
          refine w_if (t := 90) rfl (by decide) (fun c7 => ?_) (fun c7 => ?_)
          · have c7 : (0 : Int32) ≤ q6.1 := c7
            rw [if_pos c7] at hf
            refine w_aload_n rfl rfl ?_
            refine w_iload rfl rfl ?_
            refine w_iload rfl rfl ?_
            obtain ⟨q8, hc, hf⟩ := g_bind hf
            obtain ⟨hg, hc⟩ := g_guard hc
            refine x_virt 8 [_, _] _ hg rfl rfl rfl rfl (Nat.le_of_ble_eq_true rfl) rfl (Nat.le_of_ble_eq_true rfl) (Nat.le_of_ble_eq_true rfl) (t_Wrap_addLine (d := d + 2) hc ?_)
            refine w_aload_n rfl rfl ?_
            refine w_iload rfl rfl ?_
            refine w_iload rfl rfl ?_
            obtain ⟨q9, hc, hf⟩ := g_bind hf
            refine w_static [_, _, _] _ rfl rfl rfl rfl (Nat.le_of_ble_eq_true rfl) (Nat.le_of_ble_eq_true rfl) (Nat.le_of_ble_eq_true rfl) (t_Wrap_afterSpaces (d := d + 0) hc ?_)
            refine w_istore rfl (Nat.le_of_ble_eq_true rfl) rfl ?_
            refine w_iinc (v := (1 : Int32)) rfl rfl (by decide) rfl ?_
            refine w_goto (t := 19) rfl (by decide) ?_
            exact ih _ (x1) (x2) (x4) (q9.1) (x6 + (1 : Int32)) _ _ hf
          · have c7 : ¬ ((0 : Int32) ≤ q6.1) := c7
            rw [if_neg c7] at hf
            refine w_aload_n rfl rfl ?_
            refine w_iload rfl rfl ?_
            refine w_iload rfl rfl ?_
            refine w_iload_n rfl rfl ?_
            refine w_iadd rfl ?_
            obtain ⟨q8, hc, hf⟩ := g_bind hf
            obtain ⟨hg, hc⟩ := g_guard hc
            refine x_virt 8 [_, _] _ hg rfl rfl rfl rfl (Nat.le_of_ble_eq_true rfl) rfl (Nat.le_of_ble_eq_true rfl) (Nat.le_of_ble_eq_true rfl) (t_Wrap_addLine (d := d + 2) hc ?_)
            refine w_iload rfl rfl ?_
            refine w_iload_n rfl rfl ?_
            refine w_iadd rfl ?_
            refine w_istore rfl (Nat.le_of_ble_eq_true rfl) rfl ?_
            refine w_goto (t := 108) rfl (by decide) ?_
            refine w_iinc (v := (1 : Int32)) rfl rfl (by decide) rfl ?_
            refine w_goto (t := 19) rfl (by decide) ?_
            exact ih _ (x1) (x2) (x4) (x5 + x2) (x6 + (1 : Int32)) _ _ hf
        · have c5 : ¬ (x2 < (x4 - x5)) := c5
          rw [if_neg c5] at hf
          refine w_aload_n rfl rfl ?_
          refine w_iload rfl rfl ?_
          refine w_iload rfl rfl ?_
          obtain ⟨q6, hc, hf⟩ := g_bind hf
          obtain ⟨hg, hc⟩ := g_guard hc
          refine x_virt 8 [_, _] _ hg rfl rfl rfl rfl (Nat.le_of_ble_eq_true rfl) rfl (Nat.le_of_ble_eq_true rfl) (Nat.le_of_ble_eq_true rfl) (t_Wrap_addLine (d := d + 2) hc ?_)
          cases hf
          exact w_return rfl rfl (Nat.le_refl _) (Nat.le_refl _) hQ
def f_Wrap_foldParagraph_B13 (a0 : Nat) (n : Nat) (h : gHp) (x1 : Option Nat) (x2 : Int32) (x3 : Int32) (x4 : Int32) : Option (gHp) := f_Wrap_foldParagraph_B19 a0  n (h) (x1) (x2) (x4) (x3) ((0 : Int32)) 
set_option maxHeartbeats 4000000 in
set_option maxRecDepth 100000 in
theorem t_Wrap_foldParagraph_B13 {d a0 : Nat} {Q : Option gv → gHp → Prop} {res : gHp} (hQ : Q (none) res) (n : Nat) (h : gHp) (x1 : Option Nat) (x2 : Int32) (x3 : Int32) (x4 : Int32) (u5 : Option gv) (u6 : Option gv) (u7 : Option gv) (hf : f_Wrap_foldParagraph_B13 a0 n h x1 x2 x3 x4  = some res) : gWP (gCall (d + 3)) m_Wrap_foldParagraph Q 13 [some (.inr (some a0)), some (.inr x1), some (.inl x2), some (.inl x3), some (.inl x4), u5, u6, u7] [] h 0 0 := by
  unfold f_Wrap_foldParagraph_B13 at hf
  refine w_iload_n rfl rfl ?_
  refine w_istore rfl (Nat.le_of_ble_eq_true rfl) rfl ?_
  refine w_iconst (v := (0 : Int32)) rfl (by decide) ?_
  refine w_istore rfl (Nat.le_of_ble_eq_true rfl) rfl ?_
  exact t_Wrap_foldParagraph_B19  hQ _ _ (x1) (x2) (x4) (x3) ((0 : Int32))  _ _ hf
def f_Wrap_foldParagraph (n : Nat) (h : gHp) (a0 : Nat) (x1 : Option Nat) (x2 : Int32) (x3 : Int32) (x4 : Int32) : Option (gHp) := (if x3 = x4 then (((bif gtis (gtag (h) a0) 8 then f_Wrap_addLine n (h) a0 (x3) (x4) else none)).bind (fun q2 => f_Wrap_foldParagraph_B13 a0  n (q2) (x1) (x2) (x3) (x4) )) else f_Wrap_foldParagraph_B13 a0  n (h) (x1) (x2) (x3) (x4) )
set_option maxHeartbeats 4000000 in
set_option maxRecDepth 100000 in
theorem t_Wrap_foldParagraph {d n a0 : Nat} {h : gHp} {x1 : Option Nat} {x2 : Int32} {x3 : Int32} {x4 : Int32} {res : gHp} {Q : Option gv → gHp → Prop} (hf : f_Wrap_foldParagraph n h a0 x1 x2 x3 x4 = some res) (hQ : Q (none) res) : gCall (d + 4) m_Wrap_foldParagraph [.inr (some a0), .inr x1, .inl x2, .inl x3, .inl x4] h Q := by
  unfold f_Wrap_foldParagraph at hf
  refine g_enter (d := d + 3) (Nat.le_of_ble_eq_true rfl) ?_
  show gWP (gCall (d + 3)) m_Wrap_foldParagraph Q 0 [some (.inr (some a0)), some (.inr x1), some (.inl x2), some (.inl x3), some (.inl x4), none, none, none] [] h 0 0
  refine w_iload_n rfl rfl ?_
  refine w_iload rfl rfl ?_
  refine w_icmp (t := 13) rfl (by decide) (fun c1 => ?_) (fun c1 => ?_)
  · have c1 : ¬ (x3 = x4) := c1
    rw [if_neg c1] at hf
    exact t_Wrap_foldParagraph_B13  hQ _ _ (x1) (x2) (x3) (x4)  _ _ _ hf
  · have c1 : x3 = x4 := Classical.not_not.mp c1
    rw [if_pos c1] at hf
    refine w_aload_n rfl rfl ?_
    refine w_iload_n rfl rfl ?_
    refine w_iload rfl rfl ?_
    obtain ⟨q2, hc, hf⟩ := g_bind hf
    obtain ⟨hg, hc⟩ := g_guard hc
    refine x_virt 8 [_, _] _ hg rfl rfl rfl rfl (Nat.le_of_ble_eq_true rfl) rfl (Nat.le_of_ble_eq_true rfl) (Nat.le_of_ble_eq_true rfl) (t_Wrap_addLine (d := d + 2) hc ?_)
    exact t_Wrap_foldParagraph_B13  hQ _ _ (x1) (x2) (x3) (x4)  _ _ _ hf
def f_Wrap_fold_B25 (a0 : Nat) : Nat → gHp → Option Nat → Int32 → Int32 → Int32 → Int32 → Option (gHp)
  | 0, _, _, _, _, _, _ => none
  | n + 1, h, x1, x2, x3, x4, x5 => (if x3 < x5 then some (h) else (if x5 = x3 then (((bif gtis (gtag (h) a0) 8 then f_Wrap_foldParagraph n (h) a0 (x1) (x2) (x4) (x5) else none)).bind (fun q3 => f_Wrap_fold_B25 a0 n (q3) (x1) (x2) (x3) (x5 + (1 : Int32)) (x5 + (1 : Int32)))) else (x1.bind (fun b3 => (((bif gtis (gtag (h) b3) 6 then f_Text_cellOf n (h) b3 (x5) else none)).bind (fun q4 => ((f_G_signOf n (q4.2) (q4.1)).bind (fun q5 => (if q5.1 = (10 : Int32) then (((bif gtis (gtag (q5.2) a0) 8 then f_Wrap_foldParagraph n (q5.2) a0 (x1) (x2) (x4) (x5) else none)).bind (fun q7 => f_Wrap_fold_B25 a0 n (q7) (x1) (x2) (x3) (x5 + (1 : Int32)) (x5 + (1 : Int32)))) else f_Wrap_fold_B25 a0 n (q5.2) (x1) (x2) (x3) (x4) (x5 + (1 : Int32)))))))))))
set_option maxHeartbeats 4000000 in
set_option maxRecDepth 100000 in
theorem t_Wrap_fold_B25 {d a0 : Nat} {Q : Option gv → gHp → Prop} {res : gHp} (hQ : Q (none) res) : ∀ (n : Nat) (h : gHp) (x1 : Option Nat) (x2 : Int32) (x3 : Int32) (x4 : Int32) (x5 : Int32), f_Wrap_fold_B25 a0 n h x1 x2 x3 x4 x5  = some res → gWP (gCall (d + 4)) m_Wrap_fold Q 25 [some (.inr (some a0)), some (.inr x1), some (.inl x2), some (.inl x3), some (.inl x4), some (.inl x5)] [] h 0 0 := by
  intro n
  induction n with
  | zero =>
    intro h x1 x2 x3 x4 x5   hf
    cases hf
  | succ n ih =>
    intro h x1 x2 x3 x4 x5   hf
    unfold f_Wrap_fold_B25 at hf
    refine w_iload rfl rfl ?_
    refine w_iload_n rfl rfl ?_
    refine w_icmp (t := 73) rfl (by decide) (fun c1 => ?_) (fun c1 => ?_)
    · have c1 : x3 < x5 := c1
      rw [if_pos c1] at hf
      cases hf
      exact w_return rfl rfl (Nat.le_refl _) (Nat.le_refl _) hQ
    · have c1 : ¬ (x3 < x5) := c1
      rw [if_neg c1] at hf
      refine w_iload rfl rfl ?_
      refine w_iload_n rfl rfl ?_
      refine w_icmp (t := 51) rfl (by decide) (fun c2 => ?_) (fun c2 => ?_)
      · have c2 : x5 = x3 := c2
        rw [if_pos c2] at hf
        refine w_aload_n rfl rfl ?_
        refine w_aload_n rfl rfl ?_
        refine w_iload_n rfl rfl ?_
        refine w_iload rfl rfl ?_
        refine w_iload rfl rfl ?_
        obtain ⟨q3, hc, hf⟩ := g_bind hf
        obtain ⟨hg, hc⟩ := g_guard hc
        refine x_virt 8 [_, _, _, _] _ hg rfl rfl rfl rfl (Nat.le_of_ble_eq_true rfl) rfl (Nat.le_of_ble_eq_true rfl) (Nat.le_of_ble_eq_true rfl) (t_Wrap_foldParagraph (d := d + 0) hc ?_)
        refine w_iload rfl rfl ?_
        refine w_iconst (v := (1 : Int32)) rfl (by decide) ?_
        refine w_iadd rfl ?_
        refine w_istore rfl (Nat.le_of_ble_eq_true rfl) rfl ?_
        refine w_iinc (v := (1 : Int32)) rfl rfl (by decide) rfl ?_
        refine w_goto (t := 25) rfl (by decide) ?_
        exact ih _ (x1) (x2) (x3) (x5 + (1 : Int32)) (x5 + (1 : Int32))  hf
      · have c2 : ¬ (x5 = x3) := c2
        rw [if_neg c2] at hf
        refine w_aload_n rfl rfl ?_
        refine w_iload rfl rfl ?_
        obtain ⟨b3, ho, hf⟩ := g_bind hf
        refine x_dr1 ho ?_
        obtain ⟨q4, hc, hf⟩ := g_bind hf
        obtain ⟨hg, hc⟩ := g_guard hc
        refine x_virt 6 [_] _ hg rfl rfl rfl rfl (Nat.le_of_ble_eq_true rfl) rfl (Nat.le_of_ble_eq_true rfl) (Nat.le_of_ble_eq_true rfl) (t_Text_cellOf (d := d + 2) hc ?_)
        obtain ⟨q5, hc, hf⟩ := g_bind hf
        refine w_static [_] _ rfl rfl rfl rfl (Nat.le_of_ble_eq_true rfl) (Nat.le_of_ble_eq_true rfl) (Nat.le_of_ble_eq_true rfl) (t_G_signOf (d := d + 3) hc ?_)
        refine w_bipush (v := (10 : Int32)) rfl (by decide) ?_
        refine w_icmp (t := 67) rfl (by decide) (fun c6 => ?_) (fun c6 => ?_)
        · have c6 : ¬ (q5.1 = (10 : Int32)) := c6
          rw [if_neg c6] at hf
          refine w_iinc (v := (1 : Int32)) rfl rfl (by decide) rfl ?_
          refine w_goto (t := 25) rfl (by decide) ?_
          exact ih _ (x1) (x2) (x3) (x4) (x5 + (1 : Int32))  hf
        · have c6 : q5.1 = (10 : Int32) := Classical.not_not.mp c6
          rw [if_pos c6] at hf
          refine w_aload_n rfl rfl ?_
          refine w_aload_n rfl rfl ?_
          refine w_iload_n rfl rfl ?_
          refine w_iload rfl rfl ?_
          refine w_iload rfl rfl ?_
          obtain ⟨q7, hc, hf⟩ := g_bind hf
          obtain ⟨hg, hc⟩ := g_guard hc
          refine x_virt 8 [_, _, _, _] _ hg rfl rfl rfl rfl (Nat.le_of_ble_eq_true rfl) rfl (Nat.le_of_ble_eq_true rfl) (Nat.le_of_ble_eq_true rfl) (t_Wrap_foldParagraph (d := d + 0) hc ?_)
          refine w_iload rfl rfl ?_
          refine w_iconst (v := (1 : Int32)) rfl (by decide) ?_
          refine w_iadd rfl ?_
          refine w_istore rfl (Nat.le_of_ble_eq_true rfl) rfl ?_
          refine w_iinc (v := (1 : Int32)) rfl rfl (by decide) rfl ?_
          refine w_goto (t := 25) rfl (by decide) ?_
          exact ih _ (x1) (x2) (x3) (x5 + (1 : Int32)) (x5 + (1 : Int32))  hf
def f_Wrap_fold (n : Nat) (h : gHp) (a0 : Nat) (x1 : Option Nat) (x2 : Int32) : Option (gHp) := (bif gtin (gtag (h) a0) [8] then (x1.bind (fun b1 => (((bif gtis (gtag (gsetI (h) a0 2 ((0 : Int32))) b1) 6 then f_Text_length n (gsetI (h) a0 2 ((0 : Int32))) b1  else none)).bind (fun q2 => (if q2.1 = (0 : Int32) then some (q2.2) else (if (0 : Int32) < x2 then f_Wrap_fold_B25 a0  n (q2.2) (x1) (x2) (q2.1) ((0 : Int32)) ((0 : Int32))  else some (q2.2))))))) else none)
set_option maxHeartbeats 4000000 in
set_option maxRecDepth 100000 in
theorem t_Wrap_fold {d n a0 : Nat} {h : gHp} {x1 : Option Nat} {x2 : Int32} {res : gHp} {Q : Option gv → gHp → Prop} (hf : f_Wrap_fold n h a0 x1 x2 = some res) (hQ : Q (none) res) : gCall (d + 5) m_Wrap_fold [.inr (some a0), .inr x1, .inl x2] h Q := by
  unfold f_Wrap_fold at hf
  refine g_enter (d := d + 4) (Nat.le_of_ble_eq_true rfl) ?_
  show gWP (gCall (d + 4)) m_Wrap_fold Q 0 [some (.inr (some a0)), some (.inr x1), some (.inl x2), none, none, none] [] h 0 0
  refine w_aload_n rfl rfl ?_
  refine w_iconst (v := (0 : Int32)) rfl (by decide) ?_
  obtain ⟨hg, hf⟩ := g_guard hf
  refine x_putI hg rfl rfl (by decide) ?_
  refine w_aload_n rfl rfl ?_
  obtain ⟨b1, ho, hf⟩ := g_bind hf
  refine x_dr0 ho ?_
  obtain ⟨q2, hc, hf⟩ := g_bind hf
  obtain ⟨hg, hc⟩ := g_guard hc
  refine x_virt 6 [] _ hg rfl rfl rfl rfl (Nat.le_of_ble_eq_true rfl) rfl (Nat.le_of_ble_eq_true rfl) (Nat.le_of_ble_eq_true rfl) (t_Text_length (d := d + 3) hc ?_)
  refine w_istore_n rfl (Nat.le_of_ble_eq_true rfl) rfl ?_
  refine w_iload_n rfl rfl ?_
  refine w_if (t := 18) rfl (by decide) (fun c3 => ?_) (fun c3 => ?_)
  · have c3 : q2.1 = (0 : Int32) := c3
    rw [if_pos c3] at hf
    cases hf
    exact w_return rfl rfl (Nat.le_refl _) (Nat.le_refl _) hQ
  · have c3 : ¬ (q2.1 = (0 : Int32)) := c3
    rw [if_neg c3] at hf
    refine w_iload_n rfl rfl ?_
    refine w_if (t := 19) rfl (by decide) (fun c4 => ?_) (fun c4 => ?_)
    · have c4 : (0 : Int32) < x2 := c4
      rw [if_pos c4] at hf
      refine w_iconst (v := (0 : Int32)) rfl (by decide) ?_
      refine w_istore rfl (Nat.le_of_ble_eq_true rfl) rfl ?_
      refine w_iconst (v := (0 : Int32)) rfl (by decide) ?_
      refine w_istore rfl (Nat.le_of_ble_eq_true rfl) rfl ?_
      exact t_Wrap_fold_B25  hQ _ _ (x1) (x2) (q2.1) ((0 : Int32)) ((0 : Int32))   hf
    · have c4 : ¬ ((0 : Int32) < x2) := c4
      rw [if_neg c4] at hf
      cases hf
      exact w_return rfl rfl (Nat.le_refl _) (Nat.le_refl _) hQ
def f_Text_countLines (n : Nat) (h : gHp) (a0 : Nat) : Option (Int32 × gHp) := (bif gtin (gtag (h) a0) [6] then (bif gtin (gtag (h) a0) [6] then ((gref (h) a0 15).bind (fun b1 => (((bif gtis (gtag (h) b1) 8 then f_Wrap_fold n (h) b1 (some a0) (gint (h) a0 5) else none)).bind (fun q2 => (bif gtin (gtag (q2) a0) [6] then ((gref (q2) a0 15).bind (fun b3 => (bif gtin (gtag (q2) b3) [8] then some (gint (q2) b3 2, q2) else none))) else none))))) else none) else none)
set_option maxHeartbeats 4000000 in
set_option maxRecDepth 100000 in
theorem t_Text_countLines {d n a0 : Nat} {h : gHp} {res : Int32 × gHp} {Q : Option gv → gHp → Prop} (hf : f_Text_countLines n h a0  = some res) (hQ : Q (some (.inl res.1)) res.2) : gCall (d + 6) m_Text_countLines [.inr (some a0)] h Q := by
  unfold f_Text_countLines at hf
  refine g_enter (d := d + 5) (Nat.le_of_ble_eq_true rfl) ?_
  show gWP (gCall (d + 5)) m_Text_countLines Q 0 [some (.inr (some a0))] [] h 0 0
  refine w_aload_n rfl rfl ?_
  obtain ⟨hg, hf⟩ := g_guard hf
  refine x_getR hg rfl rfl rfl ?_
  refine w_aload_n rfl rfl ?_
  refine w_aload_n rfl rfl ?_
  obtain ⟨hg, hf⟩ := g_guard hf
  refine x_getI hg rfl rfl rfl ?_
  obtain ⟨b1, ho, hf⟩ := g_bind hf
  refine x_dr2 ho ?_
  obtain ⟨q2, hc, hf⟩ := g_bind hf
  obtain ⟨hg, hc⟩ := g_guard hc
  refine x_virt 8 [_, _] _ hg rfl rfl rfl rfl (Nat.le_of_ble_eq_true rfl) rfl (Nat.le_of_ble_eq_true rfl) (Nat.le_of_ble_eq_true rfl) (t_Wrap_fold (d := d + 0) hc ?_)
  refine w_aload_n rfl rfl ?_
  obtain ⟨hg, hf⟩ := g_guard hf
  refine x_getR hg rfl rfl rfl ?_
  obtain ⟨b3, ho, hf⟩ := g_bind hf
  refine x_dr0 ho ?_
  obtain ⟨hg, hf⟩ := g_guard hf
  refine x_getI hg rfl rfl rfl ?_
  cases hf
  exact w_ireturn rfl (int_ret _) (Nat.le_refl _) (Nat.le_refl _) hQ
def f_Line_removeLast (n : Nat) (h : gHp) (a0 : Nat) : Option (gHp) := (bif gtin (gtag (h) a0) [2] then (if (gint (h) a0 2) ≤ (0 : Int32) then some (h) else (bif gtin (gtag (h) a0) [2] then (bif gtin (gtag (h) a0) [2] then some (gsetI (h) a0 2 ((gint (h) a0 2) - (1 : Int32))) else none) else none)) else none)
set_option maxHeartbeats 4000000 in
set_option maxRecDepth 100000 in
theorem t_Line_removeLast {d n a0 : Nat} {h : gHp} {res : gHp} {Q : Option gv → gHp → Prop} (hf : f_Line_removeLast n h a0  = some res) (hQ : Q (none) res) : gCall (d + 1) m_Line_removeLast [.inr (some a0)] h Q := by
  unfold f_Line_removeLast at hf
  refine g_enter (d := d + 0) (Nat.le_of_ble_eq_true rfl) ?_
  show gWP (gCall (d + 0)) m_Line_removeLast Q 0 [some (.inr (some a0))] [] h 0 0
  refine w_aload_n rfl rfl ?_
  obtain ⟨hg, hf⟩ := g_guard hf
  refine x_getI hg rfl rfl rfl ?_
  refine w_if (t := 17) rfl (by decide) (fun c1 => ?_) (fun c1 => ?_)
  · have c1 : (gint (h) a0 2) ≤ (0 : Int32) := c1
    rw [if_pos c1] at hf
    cases hf
    exact w_return rfl rfl (Nat.le_refl _) (Nat.le_refl _) hQ
  · have c1 : ¬ ((gint (h) a0 2) ≤ (0 : Int32)) := c1
    rw [if_neg c1] at hf
    refine w_aload_n rfl rfl ?_
    refine w_dup rfl ?_
    obtain ⟨hg, hf⟩ := g_guard hf
    refine x_getI hg rfl rfl rfl ?_
    refine w_iconst (v := (1 : Int32)) rfl (by decide) ?_
    refine w_isub rfl ?_
    obtain ⟨hg, hf⟩ := g_guard hf
    refine x_putI hg rfl rfl (by decide) ?_
    cases hf
    exact w_return rfl rfl (Nat.le_refl _) (Nat.le_refl _) hQ
def f_Arrays_fill_4_B10 : Nat → gHp → Option Nat → Int32 → Int32 → Int32 → Option (gHp)
  | 0, _, _, _, _, _ => none
  | n + 1, h, x0, x2, x3, x4 => (if x2 ≤ x4 then some (h) else (x0.bind (fun b2 => (bif gArr (gtag (h) b2) 20 (x4) then f_Arrays_fill_4_B10 n (gsetI (h) b2 (ix (x4)) (x3)) (x0) (x2) (x3) (x4 + (1 : Int32)) else none))))
set_option maxHeartbeats 4000000 in
set_option maxRecDepth 100000 in
theorem t_Arrays_fill_4_B10 {d : Nat} {Q : Option gv → gHp → Prop} {res : gHp} (hQ : Q (none) res) : ∀ (n : Nat) (h : gHp) (x0 : Option Nat) (x2 : Int32) (x3 : Int32) (x4 : Int32) (u1 : Option gv), f_Arrays_fill_4_B10 n h x0 x2 x3 x4  = some res → gWP (gCall (d + 1)) m_Arrays_fill_4 Q 10 [some (.inr x0), u1, some (.inl x2), some (.inl x3), some (.inl x4)] [] h 0 0 := by
  intro n
  induction n with
  | zero =>
    intro h x0 x2 x3 x4  u1 hf
    cases hf
  | succ n ih =>
    intro h x0 x2 x3 x4  u1 hf
    unfold f_Arrays_fill_4_B10 at hf
    refine w_iload rfl rfl ?_
    refine w_iload_n rfl rfl ?_
    refine w_icmp (t := 27) rfl (by decide) (fun c1 => ?_) (fun c1 => ?_)
    · have c1 : x2 ≤ x4 := c1
      rw [if_pos c1] at hf
      cases hf
      exact w_return rfl rfl (Nat.le_refl _) (Nat.le_refl _) hQ
    · have c1 : ¬ (x2 ≤ x4) := c1
      rw [if_neg c1] at hf
      refine w_aload_n rfl rfl ?_
      refine w_iload rfl rfl ?_
      refine w_iload_n rfl rfl ?_
      obtain ⟨b2, ho, hf⟩ := g_bind hf
      refine x_dr2 ho ?_
      obtain ⟨hg, hf⟩ := g_guard hf
      refine x_st hg rfl ?_
      refine w_iinc (v := (1 : Int32)) rfl rfl (by decide) rfl ?_
      refine w_goto (t := 10) rfl (by decide) ?_
      exact ih _ (x0) (x2) (x3) (x4 + (1 : Int32)) _ hf
def f_Arrays_fill_4 (n : Nat) (h : gHp) (x0 : Option Nat) (x1 : Int32) (x2 : Int32) (x3 : Int32) : Option (gHp) := (x0.bind (fun b1 => ((gtag (h) b1).bind (fun t2 => (bif (Nat.ble 20 t2.1 && Nat.ble t2.1 24) then ((f_Arrays_rangeCheck n (h) (Int32.ofNat t2.2) (x1) (x2)).bind (fun q3 => f_Arrays_fill_4_B10  n (q3) (x0) (x2) (x3) (x1) )) else none)))))
set_option maxHeartbeats 4000000 in
set_option maxRecDepth 100000 in
theorem t_Arrays_fill_4 {d n : Nat} {h : gHp} {x0 : Option Nat} {x1 : Int32} {x2 : Int32} {x3 : Int32} {res : gHp} {Q : Option gv → gHp → Prop} (hf : f_Arrays_fill_4 n h x0 x1 x2 x3 = some res) (hQ : Q (none) res) : gCall (d + 2) m_Arrays_fill_4 [.inr x0, .inl x1, .inl x2, .inl x3] h Q := by
  unfold f_Arrays_fill_4 at hf
  refine g_enter (d := d + 1) (Nat.le_of_ble_eq_true rfl) ?_
  show gWP (gCall (d + 1)) m_Arrays_fill_4 Q 0 [some (.inr x0), some (.inl x1), some (.inl x2), some (.inl x3), none] [] h 0 0
  refine w_aload_n rfl rfl ?_
  obtain ⟨b1, ho, hf⟩ := g_bind hf
  refine x_dr0 ho ?_
  obtain ⟨t2, ht, hf⟩ := g_bind hf
  obtain ⟨hg, hf⟩ := g_guard hf
  refine x_len ht hg rfl ?_
  refine w_iload_n rfl rfl ?_
  refine w_iload_n rfl rfl ?_
  obtain ⟨q3, hc, hf⟩ := g_bind hf
  refine w_static [_, _, _] _ rfl rfl rfl rfl (Nat.le_of_ble_eq_true rfl) (Nat.le_of_ble_eq_true rfl) (Nat.le_of_ble_eq_true rfl) (t_Arrays_rangeCheck (d := d + 0) hc ?_)
  refine w_iload_n rfl rfl ?_
  refine w_istore rfl (Nat.le_of_ble_eq_true rfl) rfl ?_
  exact t_Arrays_fill_4_B10  hQ _ _ (x0) (x2) (x3) (x1)  _ hf
def f_Grid_loseOutside_B2 (a0 : Nat) : Nat → gHp → Int32 → Int32 → Int32 → Option (gHp)
  | 0, _, _, _, _ => none
  | n + 1, h, x1, x2, x3 => (if x2 ≤ x3 then some (h) else (if (24 : Int32) ≤ x3 then some (h) else (bif gtin (gtag (h) a0) [1] then (if (gint (h) a0 6) ≤ x3 then (if ((x3 * (60 : Int32)) + (0 : Int32)) < (0 : Int32) then f_Grid_loseOutside_B2 a0 n (h) (x1) (x2) (x3 + (1 : Int32)) else (if ((x3 * (60 : Int32)) + x1) ≤ ((x3 * (60 : Int32)) + (0 : Int32)) then f_Grid_loseOutside_B2 a0 n (h) (x1) (x2) (x3 + (1 : Int32)) else (bif gtin (gtag (h) a0) [1] then ((gref (h) a0 13).bind (fun b6 => ((gtag (h) b6).bind (fun t7 => (bif (Nat.ble 20 t7.1 && Nat.ble t7.1 24) then (if (Int32.ofNat t7.2) < ((x3 * (60 : Int32)) + x1) then f_Grid_loseOutside_B2 a0 n (h) (x1) (x2) (x3 + (1 : Int32)) else (bif gtin (gtag (h) a0) [1] then ((f_Arrays_fill_4 n (h) (gref (h) a0 13) ((x3 * (60 : Int32)) + (0 : Int32)) ((x3 * (60 : Int32)) + x1) ((32 : Int32))).bind (fun q9 => f_Grid_loseOutside_B2 a0 n (q9) (x1) (x2) (x3 + (1 : Int32)))) else none)) else none))))) else none))) else (bif gtin (gtag (h) a0) [1] then (if ((x3 * (60 : Int32)) + (gint (h) a0 5)) < (0 : Int32) then f_Grid_loseOutside_B2 a0 n (h) (x1) (x2) (x3 + (1 : Int32)) else (if ((x3 * (60 : Int32)) + x1) ≤ ((x3 * (60 : Int32)) + (gint (h) a0 5)) then f_Grid_loseOutside_B2 a0 n (h) (x1) (x2) (x3 + (1 : Int32)) else (bif gtin (gtag (h) a0) [1] then ((gref (h) a0 13).bind (fun b6 => ((gtag (h) b6).bind (fun t7 => (bif (Nat.ble 20 t7.1 && Nat.ble t7.1 24) then (if (Int32.ofNat t7.2) < ((x3 * (60 : Int32)) + x1) then f_Grid_loseOutside_B2 a0 n (h) (x1) (x2) (x3 + (1 : Int32)) else (bif gtin (gtag (h) a0) [1] then ((f_Arrays_fill_4 n (h) (gref (h) a0 13) ((x3 * (60 : Int32)) + (gint (h) a0 5)) ((x3 * (60 : Int32)) + x1) ((32 : Int32))).bind (fun q9 => f_Grid_loseOutside_B2 a0 n (q9) (x1) (x2) (x3 + (1 : Int32)))) else none)) else none))))) else none))) else none)) else none)))
set_option maxHeartbeats 4000000 in
set_option maxRecDepth 100000 in
theorem t_Grid_loseOutside_B2 {d a0 : Nat} {Q : Option gv → gHp → Prop} {res : gHp} (hQ : Q (none) res) : ∀ (n : Nat) (h : gHp) (x1 : Int32) (x2 : Int32) (x3 : Int32) (u4 : Option gv) (u5 : Option gv), f_Grid_loseOutside_B2 a0 n h x1 x2 x3  = some res → gWP (gCall (d + 2)) m_Grid_loseOutside Q 2 [some (.inr (some a0)), some (.inl x1), some (.inl x2), some (.inl x3), u4, u5] [] h 0 0 := by
  intro n
  induction n with
  | zero =>
    intro h x1 x2 x3  u4 u5 hf
    cases hf
  | succ n ih =>
    intro h x1 x2 x3  u4 u5 hf
    unfold f_Grid_loseOutside_B2 at hf
    refine w_iload_n rfl rfl ?_
    refine w_iload_n rfl rfl ?_
    refine w_icmp (t := 85) rfl (by decide) (fun c1 => ?_) (fun c1 => ?_)
    · have c1 : x2 ≤ x3 := c1
      rw [if_pos c1] at hf
      cases hf
      exact w_return rfl rfl (Nat.le_refl _) (Nat.le_refl _) hQ
    · have c1 : ¬ (x2 ≤ x3) := c1
      rw [if_neg c1] at hf
      refine w_iload_n rfl rfl ?_
      refine w_bipush (v := (24 : Int32)) rfl (by decide) ?_
      refine w_icmp (t := 85) rfl (by decide) (fun c2 => ?_) (fun c2 => ?_)
      · have c2 : (24 : Int32) ≤ x3 := c2
        rw [if_pos c2] at hf
        cases hf
        exact w_return rfl rfl (Nat.le_refl _) (Nat.le_refl _) hQ
      · have c2 : ¬ ((24 : Int32) ≤ x3) := c2
        rw [if_neg c2] at hf
        refine w_iload_n rfl rfl ?_
        refine w_bipush (v := (60 : Int32)) rfl (by decide) ?_
        refine w_imul rfl ?_
        refine w_iload_n rfl rfl ?_
        refine w_aload_n rfl rfl ?_
        obtain ⟨hg, hf⟩ := g_guard hf
        refine x_getI hg rfl rfl rfl ?_
        refine w_icmp (t := 32) rfl (by decide) (fun c3 => ?_) (fun c3 => ?_)
        · have c3 : (gint (h) a0 6) ≤ x3 := c3
          rw [if_pos c3] at hf
          refine w_iconst (v := (0 : Int32)) rfl (by decide) ?_
          refine w_iadd rfl ?_
          refine w_istore rfl (Nat.le_of_ble_eq_true rfl) rfl ?_
          refine w_iload_n rfl rfl ?_
          refine w_bipush (v := (60 : Int32)) rfl (by decide) ?_
          refine w_imul rfl ?_
          refine w_iload_n rfl rfl ?_
          refine w_iadd rfl ?_
          refine w_istore rfl (Nat.le_of_ble_eq_true rfl) rfl ?_
          refine w_iload rfl rfl ?_
          refine w_if (t := 79) rfl (by decide) (fun c4 => ?_) (fun c4 => ?_)
          · have c4 : ((x3 * (60 : Int32)) + (0 : Int32)) < (0 : Int32) := c4
            rw [if_pos c4] at hf
            refine w_iinc (v := (1 : Int32)) rfl rfl (by decide) rfl ?_
            refine w_goto (t := 2) rfl (by decide) ?_
            exact ih _ (x1) (x2) (x3 + (1 : Int32)) _ _ hf
          · have c4 : ¬ (((x3 * (60 : Int32)) + (0 : Int32)) < (0 : Int32)) := c4
            rw [if_neg c4] at hf
            refine w_iload rfl rfl ?_
            refine w_iload rfl rfl ?_
            refine w_icmp (t := 79) rfl (by decide) (fun c5 => ?_) (fun c5 => ?_)
            · have c5 : ((x3 * (60 : Int32)) + x1) ≤ ((x3 * (60 : Int32)) + (0 : Int32)) := c5
              rw [if_pos c5] at hf
              refine w_iinc (v := (1 : Int32)) rfl rfl (by decide) rfl ?_
              refine w_goto (t := 2) rfl (by decide) ?_
              exact ih _ (x1) (x2) (x3 + (1 : Int32)) _ _ hf
            · have c5 : ¬ (((x3 * (60 : Int32)) + x1) ≤ ((x3 * (60 : Int32)) + (0 : Int32))) := c5
              rw [if_neg c5] at hf
              refine w_iload rfl rfl ?_
              refine w_aload_n rfl rfl ?_
              obtain ⟨hg, hf⟩ := g_guard hf
              refine x_getR hg rfl rfl rfl ?_
              obtain ⟨b6, ho, hf⟩ := g_bind hf
              refine x_dr0 ho ?_
              obtain ⟨t7, ht, hf⟩ := g_bind hf
              obtain ⟨hg, hf⟩ := g_guard hf
              refine x_len ht hg rfl ?_
              refine w_icmp (t := 79) rfl (by decide) (fun c8 => ?_) (fun c8 => ?_)
              · have c8 : (Int32.ofNat t7.2) < ((x3 * (60 : Int32)) + x1) := c8
                rw [if_pos c8] at hf
                refine w_iinc (v := (1 : Int32)) rfl rfl (by decide) rfl ?_
                refine w_goto (t := 2) rfl (by decide) ?_
                exact ih _ (x1) (x2) (x3 + (1 : Int32)) _ _ hf
              · have c8 : ¬ ((Int32.ofNat t7.2) < ((x3 * (60 : Int32)) + x1)) := c8
                rw [if_neg c8] at hf
                refine w_aload_n rfl rfl ?_
                obtain ⟨hg, hf⟩ := g_guard hf
                refine x_getR hg rfl rfl rfl ?_
                refine w_iload rfl rfl ?_
                refine w_iload rfl rfl ?_
                refine w_bipush (v := (32 : Int32)) rfl (by decide) ?_
                obtain ⟨q9, hc, hf⟩ := g_bind hf
                refine w_static [_, _, _, _] _ rfl rfl rfl rfl (Nat.le_of_ble_eq_true rfl) (Nat.le_of_ble_eq_true rfl) (Nat.le_of_ble_eq_true rfl) (t_Arrays_fill_4 (d := d + 0) hc ?_)
                refine w_iinc (v := (1 : Int32)) rfl rfl (by decide) rfl ?_
                refine w_goto (t := 2) rfl (by decide) ?_
                exact ih _ (x1) (x2) (x3 + (1 : Int32)) _ _ hf
        · have c3 : ¬ ((gint (h) a0 6) ≤ x3) := c3
          rw [if_neg c3] at hf
          refine w_aload_n rfl rfl ?_
          obtain ⟨hg, hf⟩ := g_guard hf
          refine x_getI hg rfl rfl rfl ?_
          refine w_goto (t := 33) rfl (by decide) ?_
          refine w_iadd rfl ?_
          refine w_istore rfl (Nat.le_of_ble_eq_true rfl) rfl ?_
          refine w_iload_n rfl rfl ?_
          refine w_bipush (v := (60 : Int32)) rfl (by decide) ?_
          refine w_imul rfl ?_
          refine w_iload_n rfl rfl ?_
          refine w_iadd rfl ?_
          refine w_istore rfl (Nat.le_of_ble_eq_true rfl) rfl ?_
          refine w_iload rfl rfl ?_
          refine w_if (t := 79) rfl (by decide) (fun c4 => ?_) (fun c4 => ?_)
          · have c4 : ((x3 * (60 : Int32)) + (gint (h) a0 5)) < (0 : Int32) := c4
            rw [if_pos c4] at hf
            refine w_iinc (v := (1 : Int32)) rfl rfl (by decide) rfl ?_
            refine w_goto (t := 2) rfl (by decide) ?_
            exact ih _ (x1) (x2) (x3 + (1 : Int32)) _ _ hf
          · have c4 : ¬ (((x3 * (60 : Int32)) + (gint (h) a0 5)) < (0 : Int32)) := c4
            rw [if_neg c4] at hf
            refine w_iload rfl rfl ?_
            refine w_iload rfl rfl ?_
            refine w_icmp (t := 79) rfl (by decide) (fun c5 => ?_) (fun c5 => ?_)
            · have c5 : ((x3 * (60 : Int32)) + x1) ≤ ((x3 * (60 : Int32)) + (gint (h) a0 5)) := c5
              rw [if_pos c5] at hf
              refine w_iinc (v := (1 : Int32)) rfl rfl (by decide) rfl ?_
              refine w_goto (t := 2) rfl (by decide) ?_
              exact ih _ (x1) (x2) (x3 + (1 : Int32)) _ _ hf
            · have c5 : ¬ (((x3 * (60 : Int32)) + x1) ≤ ((x3 * (60 : Int32)) + (gint (h) a0 5))) := c5
              rw [if_neg c5] at hf
              refine w_iload rfl rfl ?_
              refine w_aload_n rfl rfl ?_
              obtain ⟨hg, hf⟩ := g_guard hf
              refine x_getR hg rfl rfl rfl ?_
              obtain ⟨b6, ho, hf⟩ := g_bind hf
              refine x_dr0 ho ?_
              obtain ⟨t7, ht, hf⟩ := g_bind hf
              obtain ⟨hg, hf⟩ := g_guard hf
              refine x_len ht hg rfl ?_
              refine w_icmp (t := 79) rfl (by decide) (fun c8 => ?_) (fun c8 => ?_)
              · have c8 : (Int32.ofNat t7.2) < ((x3 * (60 : Int32)) + x1) := c8
                rw [if_pos c8] at hf
                refine w_iinc (v := (1 : Int32)) rfl rfl (by decide) rfl ?_
                refine w_goto (t := 2) rfl (by decide) ?_
                exact ih _ (x1) (x2) (x3 + (1 : Int32)) _ _ hf
              · have c8 : ¬ ((Int32.ofNat t7.2) < ((x3 * (60 : Int32)) + x1)) := c8
                rw [if_neg c8] at hf
                refine w_aload_n rfl rfl ?_
                obtain ⟨hg, hf⟩ := g_guard hf
                refine x_getR hg rfl rfl rfl ?_
                refine w_iload rfl rfl ?_
                refine w_iload rfl rfl ?_
                refine w_bipush (v := (32 : Int32)) rfl (by decide) ?_
                obtain ⟨q9, hc, hf⟩ := g_bind hf
                refine w_static [_, _, _, _] _ rfl rfl rfl rfl (Nat.le_of_ble_eq_true rfl) (Nat.le_of_ble_eq_true rfl) (Nat.le_of_ble_eq_true rfl) (t_Arrays_fill_4 (d := d + 0) hc ?_)
                refine w_iinc (v := (1 : Int32)) rfl rfl (by decide) rfl ?_
                refine w_goto (t := 2) rfl (by decide) ?_
                exact ih _ (x1) (x2) (x3 + (1 : Int32)) _ _ hf
def f_Grid_loseOutside (n : Nat) (h : gHp) (a0 : Nat) (x1 : Int32) (x2 : Int32) : Option (gHp) := f_Grid_loseOutside_B2 a0  n (h) (x1) (x2) ((0 : Int32)) 
set_option maxHeartbeats 4000000 in
set_option maxRecDepth 100000 in
theorem t_Grid_loseOutside {d n a0 : Nat} {h : gHp} {x1 : Int32} {x2 : Int32} {res : gHp} {Q : Option gv → gHp → Prop} (hf : f_Grid_loseOutside n h a0 x1 x2 = some res) (hQ : Q (none) res) : gCall (d + 3) m_Grid_loseOutside [.inr (some a0), .inl x1, .inl x2] h Q := by
  unfold f_Grid_loseOutside at hf
  refine g_enter (d := d + 2) (Nat.le_of_ble_eq_true rfl) ?_
  show gWP (gCall (d + 2)) m_Grid_loseOutside Q 0 [some (.inr (some a0)), some (.inl x1), some (.inl x2), none, none, none] [] h 0 0
  refine w_iconst (v := (0 : Int32)) rfl (by decide) ?_
  refine w_istore_n rfl (Nat.le_of_ble_eq_true rfl) rfl ?_
  exact t_Grid_loseOutside_B2  hQ _ _ (x1) (x2) ((0 : Int32))  _ _ hf
def f_Pane_moveTo_B33 (a0 : Nat) (n : Nat) (h : gHp) (x1 : Int32) (x2 : Int32) (x3 : Int32) (x4 : Int32) (x5 : Int32) (x6 : Int32) (s0 : Int32) : Option (Int32 × gHp) := (bif gtin (gtag (h) a0) [1, 3, 4, 5, 6] then (bif gtin (gtag (gsetI (h) a0 3 (x1)) a0) [1, 3, 4, 5, 6] then (bif gtin (gtag (gsetI (gsetI (h) a0 3 (x1)) a0 4 (x2)) a0) [1, 3, 4, 5, 6] then (bif gtin (gtag (gsetI (gsetI (gsetI (h) a0 3 (x1)) a0 4 (x2)) a0 5 (x3)) a0) [1, 3, 4, 5, 6] then (if x3 = x5 then (if x4 = x6 then (bif isZ (s0) then some (s0, gsetI (gsetI (gsetI (gsetI (h) a0 3 (x1)) a0 4 (x2)) a0 5 (x3)) a0 6 (x4)) else none) else (((bif gtin (gtag (gsetI (gsetI (gsetI (gsetI (h) a0 3 (x1)) a0 4 (x2)) a0 5 (x3)) a0 6 (x4)) a0) [1] then f_Grid_loseOutside n (gsetI (gsetI (gsetI (gsetI (h) a0 3 (x1)) a0 4 (x2)) a0 5 (x3)) a0 6 (x4)) a0 (x5) (x6) else (bif gtin (gtag (gsetI (gsetI (gsetI (gsetI (h) a0 3 (x1)) a0 4 (x2)) a0 5 (x3)) a0 6 (x4)) a0) [3, 4, 5, 6] then f_Pane_loseOutside n (gsetI (gsetI (gsetI (gsetI (h) a0 3 (x1)) a0 4 (x2)) a0 5 (x3)) a0 6 (x4)) a0 (x5) (x6) else none))).bind (fun q3 => some ((1 : Int32), q3)))) else (((bif gtin (gtag (gsetI (gsetI (gsetI (gsetI (h) a0 3 (x1)) a0 4 (x2)) a0 5 (x3)) a0 6 (x4)) a0) [1] then f_Grid_loseOutside n (gsetI (gsetI (gsetI (gsetI (h) a0 3 (x1)) a0 4 (x2)) a0 5 (x3)) a0 6 (x4)) a0 (x5) (x6) else (bif gtin (gtag (gsetI (gsetI (gsetI (gsetI (h) a0 3 (x1)) a0 4 (x2)) a0 5 (x3)) a0 6 (x4)) a0) [3, 4, 5, 6] then f_Pane_loseOutside n (gsetI (gsetI (gsetI (gsetI (h) a0 3 (x1)) a0 4 (x2)) a0 5 (x3)) a0 6 (x4)) a0 (x5) (x6) else none))).bind (fun q2 => some ((1 : Int32), q2)))) else none) else none) else none) else none)
set_option maxHeartbeats 4000000 in
set_option maxRecDepth 100000 in
theorem t_Pane_moveTo_B33 {d a0 : Nat} {Q : Option gv → gHp → Prop} {res : Int32 × gHp} (hQ : Q (some (.inl res.1)) res.2) (n : Nat) (h : gHp) (x1 : Int32) (x2 : Int32) (x3 : Int32) (x4 : Int32) (x5 : Int32) (x6 : Int32) (s0 : Int32) (u7 : Option gv) (hf : f_Pane_moveTo_B33 a0 n h x1 x2 x3 x4 x5 x6 s0 = some res) : gWP (gCall (d + 3)) m_Pane_moveTo Q 33 [some (.inr (some a0)), some (.inl x1), some (.inl x2), some (.inl x3), some (.inl x4), some (.inl x5), some (.inl x6), u7] [.inl s0] h 0 0 := by
  unfold f_Pane_moveTo_B33 at hf
  refine w_istore rfl (Nat.le_of_ble_eq_true rfl) rfl ?_
  refine w_aload_n rfl rfl ?_
  refine w_iload_n rfl rfl ?_
  obtain ⟨hg, hf⟩ := g_guard hf
  refine x_putI hg rfl rfl (by decide) ?_
  refine w_aload_n rfl rfl ?_
  refine w_iload_n rfl rfl ?_
  obtain ⟨hg, hf⟩ := g_guard hf
  refine x_putI hg rfl rfl (by decide) ?_
  refine w_aload_n rfl rfl ?_
  refine w_iload_n rfl rfl ?_
  obtain ⟨hg, hf⟩ := g_guard hf
  refine x_putI hg rfl rfl (by decide) ?_
  refine w_aload_n rfl rfl ?_
  refine w_iload rfl rfl ?_
  obtain ⟨hg, hf⟩ := g_guard hf
  refine x_putI hg rfl rfl (by decide) ?_
  refine w_iload_n rfl rfl ?_
  refine w_iload rfl rfl ?_
  refine w_icmp (t := 72) rfl (by decide) (fun c1 => ?_) (fun c1 => ?_)
  · have c1 : ¬ (x3 = x5) := c1
    rw [if_neg c1] at hf
    refine w_aload_n rfl rfl ?_
    refine w_iload rfl rfl ?_
    refine w_iload rfl rfl ?_
    obtain ⟨q2, hc, hf⟩ := g_bind hf
    have hDp : gDisp (gCall (d + 3)) m_Pane_moveTo 34 (gsetI (gsetI (gsetI (gsetI (h) a0 3 (x1)) a0 4 (x2)) a0 5 (x3)) a0 6 (x4)) a0 [.inl x5, .inl x6] (fun v h' => v = none ∧ h' = q2) := by
      rcases g_cond hc with ⟨hg, hc⟩ | ⟨-, hc⟩
      · exact g_disp [1] hg rfl rfl (List.forall_mem_cons.mpr ⟨⟨_, rfl, rfl, rfl, rfl⟩, fun _ h => absurd h List.not_mem_nil⟩) (t_Grid_loseOutside (d := d + 0) hc ⟨rfl, rfl⟩)
      rcases g_cond hc with ⟨hg, hc⟩ | ⟨-, hc⟩
      · exact g_disp [3, 4, 5, 6] hg rfl rfl (List.forall_mem_cons.mpr ⟨⟨_, rfl, rfl, rfl, rfl⟩, List.forall_mem_cons.mpr ⟨⟨_, rfl, rfl, rfl, rfl⟩, List.forall_mem_cons.mpr ⟨⟨_, rfl, rfl, rfl, rfl⟩, List.forall_mem_cons.mpr ⟨⟨_, rfl, rfl, rfl, rfl⟩, fun _ h => absurd h List.not_mem_nil⟩⟩⟩⟩) (t_Pane_loseOutside (d := d + 2) hc ⟨rfl, rfl⟩)
      cases hc
    refine w_disp [_, _] _ rfl rfl (Nat.le_of_ble_eq_true rfl) hDp (fun v h' hv => ?_)
    obtain ⟨rfl, rfl⟩ := hv
    refine w_iconst (v := (1 : Int32)) rfl (by decide) ?_
    cases hf
    exact w_ireturn rfl (isZ_ret rfl) (Nat.le_refl _) (Nat.le_refl _) hQ
  · have c1 : x3 = x5 := Classical.not_not.mp c1
    rw [if_pos c1] at hf
    refine w_iload rfl rfl ?_
    refine w_iload rfl rfl ?_
    refine w_icmp (t := 72) rfl (by decide) (fun c2 => ?_) (fun c2 => ?_)
    · have c2 : ¬ (x4 = x6) := c2
      rw [if_neg c2] at hf
      refine w_aload_n rfl rfl ?_
      refine w_iload rfl rfl ?_
      refine w_iload rfl rfl ?_
      obtain ⟨q3, hc, hf⟩ := g_bind hf
      have hDp : gDisp (gCall (d + 3)) m_Pane_moveTo 34 (gsetI (gsetI (gsetI (gsetI (h) a0 3 (x1)) a0 4 (x2)) a0 5 (x3)) a0 6 (x4)) a0 [.inl x5, .inl x6] (fun v h' => v = none ∧ h' = q3) := by
        rcases g_cond hc with ⟨hg, hc⟩ | ⟨-, hc⟩
        · exact g_disp [1] hg rfl rfl (List.forall_mem_cons.mpr ⟨⟨_, rfl, rfl, rfl, rfl⟩, fun _ h => absurd h List.not_mem_nil⟩) (t_Grid_loseOutside (d := d + 0) hc ⟨rfl, rfl⟩)
        rcases g_cond hc with ⟨hg, hc⟩ | ⟨-, hc⟩
        · exact g_disp [3, 4, 5, 6] hg rfl rfl (List.forall_mem_cons.mpr ⟨⟨_, rfl, rfl, rfl, rfl⟩, List.forall_mem_cons.mpr ⟨⟨_, rfl, rfl, rfl, rfl⟩, List.forall_mem_cons.mpr ⟨⟨_, rfl, rfl, rfl, rfl⟩, List.forall_mem_cons.mpr ⟨⟨_, rfl, rfl, rfl, rfl⟩, fun _ h => absurd h List.not_mem_nil⟩⟩⟩⟩) (t_Pane_loseOutside (d := d + 2) hc ⟨rfl, rfl⟩)
        cases hc
      refine w_disp [_, _] _ rfl rfl (Nat.le_of_ble_eq_true rfl) hDp (fun v h' hv => ?_)
      obtain ⟨rfl, rfl⟩ := hv
      refine w_iconst (v := (1 : Int32)) rfl (by decide) ?_
      cases hf
      exact w_ireturn rfl (isZ_ret rfl) (Nat.le_refl _) (Nat.le_refl _) hQ
    · have c2 : x4 = x6 := Classical.not_not.mp c2
      rw [if_pos c2] at hf
      refine w_iload rfl rfl ?_
      obtain ⟨hz, hf⟩ := g_guard hf
      cases hf
      exact w_ireturn rfl (isZ_ret hz) (Nat.le_refl _) (Nat.le_refl _) hQ
def f_Pane_moveTo_B28 (a0 : Nat) (n : Nat) (h : gHp) (x1 : Int32) (x2 : Int32) (x3 : Int32) (x4 : Int32) (x5 : Int32) (x6 : Int32) : Option (Int32 × gHp) := f_Pane_moveTo_B33 a0  n (h) (x1) (x2) (x3) (x4) (x5) (x6) ((1 : Int32))
set_option maxHeartbeats 4000000 in
set_option maxRecDepth 100000 in
theorem t_Pane_moveTo_B28 {d a0 : Nat} {Q : Option gv → gHp → Prop} {res : Int32 × gHp} (hQ : Q (some (.inl res.1)) res.2) (n : Nat) (h : gHp) (x1 : Int32) (x2 : Int32) (x3 : Int32) (x4 : Int32) (x5 : Int32) (x6 : Int32) (u7 : Option gv) (hf : f_Pane_moveTo_B28 a0 n h x1 x2 x3 x4 x5 x6  = some res) : gWP (gCall (d + 3)) m_Pane_moveTo Q 28 [some (.inr (some a0)), some (.inl x1), some (.inl x2), some (.inl x3), some (.inl x4), some (.inl x5), some (.inl x6), u7] [] h 0 0 := by
  unfold f_Pane_moveTo_B28 at hf
  refine w_iconst (v := (1 : Int32)) rfl (by decide) ?_
  refine w_goto (t := 33) rfl (by decide) ?_
  exact t_Pane_moveTo_B33  hQ _ _ (x1) (x2) (x3) (x4) (x5) (x6) ((1 : Int32)) _ hf
def f_Pane_moveTo (n : Nat) (h : gHp) (a0 : Nat) (x1 : Int32) (x2 : Int32) (x3 : Int32) (x4 : Int32) : Option (Int32 × gHp) := (bif gtin (gtag (h) a0) [1, 3, 4, 5, 6] then (bif gtin (gtag (h) a0) [1, 3, 4, 5, 6] then (bif gtin (gtag (h) a0) [1, 3, 4, 5, 6] then (if x1 = (gint (h) a0 3) then (bif gtin (gtag (h) a0) [1, 3, 4, 5, 6] then (if x2 = (gint (h) a0 4) then f_Pane_moveTo_B33 a0  n (h) (x1) (x2) (x3) (x4) (gint (h) a0 5) (gint (h) a0 6) ((0 : Int32)) else f_Pane_moveTo_B28 a0  n (h) (x1) (x2) (x3) (x4) (gint (h) a0 5) (gint (h) a0 6) ) else none) else f_Pane_moveTo_B28 a0  n (h) (x1) (x2) (x3) (x4) (gint (h) a0 5) (gint (h) a0 6) ) else none) else none) else none)
set_option maxHeartbeats 4000000 in
set_option maxRecDepth 100000 in
theorem t_Pane_moveTo {d n a0 : Nat} {h : gHp} {x1 : Int32} {x2 : Int32} {x3 : Int32} {x4 : Int32} {res : Int32 × gHp} {Q : Option gv → gHp → Prop} (hf : f_Pane_moveTo n h a0 x1 x2 x3 x4 = some res) (hQ : Q (some (.inl res.1)) res.2) : gCall (d + 4) m_Pane_moveTo [.inr (some a0), .inl x1, .inl x2, .inl x3, .inl x4] h Q := by
  unfold f_Pane_moveTo at hf
  refine g_enter (d := d + 3) (Nat.le_of_ble_eq_true rfl) ?_
  show gWP (gCall (d + 3)) m_Pane_moveTo Q 0 [some (.inr (some a0)), some (.inl x1), some (.inl x2), some (.inl x3), some (.inl x4), none, none, none] [] h 0 0
  refine w_aload_n rfl rfl ?_
  obtain ⟨hg, hf⟩ := g_guard hf
  refine x_getI hg rfl rfl rfl ?_
  refine w_istore rfl (Nat.le_of_ble_eq_true rfl) rfl ?_
  refine w_aload_n rfl rfl ?_
  obtain ⟨hg, hf⟩ := g_guard hf
  refine x_getI hg rfl rfl rfl ?_
  refine w_istore rfl (Nat.le_of_ble_eq_true rfl) rfl ?_
  refine w_iload_n rfl rfl ?_
  refine w_aload_n rfl rfl ?_
  obtain ⟨hg, hf⟩ := g_guard hf
  refine x_getI hg rfl rfl rfl ?_
  refine w_icmp (t := 28) rfl (by decide) (fun c1 => ?_) (fun c1 => ?_)
  · have c1 : ¬ (x1 = (gint (h) a0 3)) := c1
    rw [if_neg c1] at hf
    exact t_Pane_moveTo_B28  hQ _ _ (x1) (x2) (x3) (x4) (gint (h) a0 5) (gint (h) a0 6)  _ hf
  · have c1 : x1 = (gint (h) a0 3) := Classical.not_not.mp c1
    rw [if_pos c1] at hf
    refine w_iload_n rfl rfl ?_
    refine w_aload_n rfl rfl ?_
    obtain ⟨hg, hf⟩ := g_guard hf
    refine x_getI hg rfl rfl rfl ?_
    refine w_icmp (t := 32) rfl (by decide) (fun c2 => ?_) (fun c2 => ?_)
    · have c2 : x2 = (gint (h) a0 4) := c2
      rw [if_pos c2] at hf
      refine w_iconst (v := (0 : Int32)) rfl (by decide) ?_
      exact t_Pane_moveTo_B33  hQ _ _ (x1) (x2) (x3) (x4) (gint (h) a0 5) (gint (h) a0 6) ((0 : Int32)) _ hf
    · have c2 : ¬ (x2 = (gint (h) a0 4)) := c2
      rw [if_neg c2] at hf
      exact t_Pane_moveTo_B28  hQ _ _ (x1) (x2) (x3) (x4) (gint (h) a0 5) (gint (h) a0 6)  _ hf
def f_Pair_borderIn (n : Nat) (h : gHp) (a0 : Nat) (x1 : Int32) : Option (Int32 × gHp) := (if x1 ≤ (0 : Int32) then some ((0 : Int32), h) else (bif gtin (gtag (h) a0) [3] then (if ((gint (h) a0 11) &&& (8 : Int32)) = (0 : Int32) then some ((1 : Int32), h) else some ((0 : Int32), h)) else none))
set_option maxHeartbeats 4000000 in
set_option maxRecDepth 100000 in
theorem t_Pair_borderIn {d n a0 : Nat} {h : gHp} {x1 : Int32} {res : Int32 × gHp} {Q : Option gv → gHp → Prop} (hf : f_Pair_borderIn n h a0 x1 = some res) (hQ : Q (some (.inl res.1)) res.2) : gCall (d + 1) m_Pair_borderIn [.inr (some a0), .inl x1] h Q := by
  unfold f_Pair_borderIn at hf
  refine g_enter (d := d + 0) (Nat.le_of_ble_eq_true rfl) ?_
  show gWP (gCall (d + 0)) m_Pair_borderIn Q 0 [some (.inr (some a0)), some (.inl x1)] [] h 0 0
  refine w_iload_n rfl rfl ?_
  refine w_if (t := 18) rfl (by decide) (fun c1 => ?_) (fun c1 => ?_)
  · have c1 : x1 ≤ (0 : Int32) := c1
    rw [if_pos c1] at hf
    refine w_iconst (v := (0 : Int32)) rfl (by decide) ?_
    cases hf
    exact w_ireturn rfl (int_ret _) (Nat.le_refl _) (Nat.le_refl _) hQ
  · have c1 : ¬ (x1 ≤ (0 : Int32)) := c1
    rw [if_neg c1] at hf
    refine w_aload_n rfl rfl ?_
    obtain ⟨hg, hf⟩ := g_guard hf
    refine x_getI hg rfl rfl rfl ?_
    refine w_bipush (v := (8 : Int32)) rfl (by decide) ?_
    refine w_iand rfl ?_
    refine w_if (t := 18) rfl (by decide) (fun c2 => ?_) (fun c2 => ?_)
    · have c2 : ¬ (((gint (h) a0 11) &&& (8 : Int32)) = (0 : Int32)) := c2
      rw [if_neg c2] at hf
      refine w_iconst (v := (0 : Int32)) rfl (by decide) ?_
      cases hf
      exact w_ireturn rfl (int_ret _) (Nat.le_refl _) (Nat.le_refl _) hQ
    · have c2 : ((gint (h) a0 11) &&& (8 : Int32)) = (0 : Int32) := Classical.not_not.mp c2
      rw [if_pos c2] at hf
      refine w_iconst (v := (1 : Int32)) rfl (by decide) ?_
      refine w_goto (t := 19) rfl (by decide) ?_
      cases hf
      exact w_ireturn rfl (int_ret _) (Nat.le_refl _) (Nat.le_refl _) hQ
def f_Picture_wanted (n : Nat) (h : gHp) (a0 : Nat) (x1 : Int32) (x2 : Int32) : Option (Int32 × gHp) := (if x2 = (0 : Int32) then (bif decide (¬ (8 : Int32) = 0) then some ((x1 + (7 : Int32)) / (8 : Int32), h) else none) else (bif decide (¬ (16 : Int32) = 0) then some ((x1 + (15 : Int32)) / (16 : Int32), h) else none))
set_option maxHeartbeats 4000000 in
set_option maxRecDepth 100000 in
theorem t_Picture_wanted {d n a0 : Nat} {h : gHp} {x1 : Int32} {x2 : Int32} {res : Int32 × gHp} {Q : Option gv → gHp → Prop} (hf : f_Picture_wanted n h a0 x1 x2 = some res) (hQ : Q (some (.inl res.1)) res.2) : gCall (d + 1) m_Picture_wanted [.inr (some a0), .inl x1, .inl x2] h Q := by
  unfold f_Picture_wanted at hf
  refine g_enter (d := d + 0) (Nat.le_of_ble_eq_true rfl) ?_
  show gWP (gCall (d + 0)) m_Picture_wanted Q 0 [some (.inr (some a0)), some (.inl x1), some (.inl x2)] [] h 0 0
  refine w_iload_n rfl rfl ?_
  refine w_if (t := 14) rfl (by decide) (fun c1 => ?_) (fun c1 => ?_)
  · have c1 : x2 = (0 : Int32) := c1
    rw [if_pos c1] at hf
    refine w_iload_n rfl rfl ?_
    refine w_bipush (v := (7 : Int32)) rfl (by decide) ?_
    refine w_iadd rfl ?_
    refine w_bipush (v := (8 : Int32)) rfl (by decide) ?_
    obtain ⟨hb, hf⟩ := g_guard hf
    refine w_idiv rfl (of_decide_eq_true hb) ?_
    cases hf
    exact w_ireturn rfl (int_ret _) (Nat.le_refl _) (Nat.le_refl _) hQ
  · have c1 : ¬ (x2 = (0 : Int32)) := c1
    rw [if_neg c1] at hf
    refine w_iload_n rfl rfl ?_
    refine w_bipush (v := (15 : Int32)) rfl (by decide) ?_
    refine w_iadd rfl ?_
    refine w_bipush (v := (16 : Int32)) rfl (by decide) ?_
    obtain ⟨hb, hf⟩ := g_guard hf
    refine w_idiv rfl (of_decide_eq_true hb) ?_
    refine w_goto (t := 21) rfl (by decide) ?_
    cases hf
    exact w_ireturn rfl (int_ret _) (Nat.le_refl _) (Nat.le_refl _) hQ
def f_Pair_measureIn (n : Nat) (h : gHp) (a0 : Nat) (x1 : Int32) : Option (Int32 × gHp) := (bif gtin (gtag (h) a0) [3] then ((f_G_isFixed n (h) (gint (h) a0 11)).bind (fun q1 => (if q1.1 = (0 : Int32) then (bif gtin (gtag (q1.2) a0) [3] then (bif decide (¬ (100 : Int32) = 0) then some ((x1 * (gint (q1.2) a0 12)) / (100 : Int32), q1.2) else none) else none) else (bif gtin (gtag (q1.2) a0) [3] then (if (gref (q1.2) a0 13) = none then some ((0 : Int32), q1.2) else (bif gtin (gtag (q1.2) a0) [3] then (bif gtin (gtag (q1.2) a0) [3] then (bif gtin (gtag (q1.2) a0) [3] then ((f_G_isAlongRows n (q1.2) (gint (q1.2) a0 11)).bind (fun q4 => ((gref (q1.2) a0 13).bind (fun b5 => (((bif gtin (gtag (q4.2) b5) [1, 6] then f_Writing_wanted n (q4.2) b5 (gint (q1.2) a0 12) (q4.1) else (bif gtin (gtag (q4.2) b5) [3, 4] then f_Pane_wanted n (q4.2) b5 (gint (q1.2) a0 12) (q4.1) else (bif gtin (gtag (q4.2) b5) [5] then f_Picture_wanted n (q4.2) b5 (gint (q1.2) a0 12) (q4.1) else none)))).bind (fun q6 => some (q6.1, q6.2))))))) else none) else none) else none)) else none)))) else none)
set_option maxHeartbeats 4000000 in
set_option maxRecDepth 100000 in
theorem t_Pair_measureIn {d n a0 : Nat} {h : gHp} {x1 : Int32} {res : Int32 × gHp} {Q : Option gv → gHp → Prop} (hf : f_Pair_measureIn n h a0 x1 = some res) (hQ : Q (some (.inl res.1)) res.2) : gCall (d + 2) m_Pair_measureIn [.inr (some a0), .inl x1] h Q := by
  unfold f_Pair_measureIn at hf
  refine g_enter (d := d + 1) (Nat.le_of_ble_eq_true rfl) ?_
  show gWP (gCall (d + 1)) m_Pair_measureIn Q 0 [some (.inr (some a0)), some (.inl x1)] [] h 0 0
  refine w_aload_n rfl rfl ?_
  obtain ⟨hg, hf⟩ := g_guard hf
  refine x_getI hg rfl rfl rfl ?_
  obtain ⟨q1, hc, hf⟩ := g_bind hf
  refine w_static [_] _ rfl rfl rfl rfl (Nat.le_of_ble_eq_true rfl) (Nat.le_of_ble_eq_true rfl) (Nat.le_of_ble_eq_true rfl) (t_G_isFixed (d := d + 0) hc ?_)
  refine w_if (t := 20) rfl (by decide) (fun c2 => ?_) (fun c2 => ?_)
  · have c2 : ¬ (q1.1 = (0 : Int32)) := c2
    rw [if_neg c2] at hf
    refine w_aload_n rfl rfl ?_
    obtain ⟨hg, hf⟩ := g_guard hf
    refine x_getR hg rfl rfl rfl ?_
    refine w_ifnonnull (t := 31) rfl (by decide) (fun c3 => ?_) (fun c3 => ?_)
    · have c3 : ¬ ((gref (q1.2) a0 13) = none) := c3
      rw [if_neg c3] at hf
      refine w_aload_n rfl rfl ?_
      obtain ⟨hg, hf⟩ := g_guard hf
      refine x_getR hg rfl rfl rfl ?_
      refine w_aload_n rfl rfl ?_
      obtain ⟨hg, hf⟩ := g_guard hf
      refine x_getI hg rfl rfl rfl ?_
      refine w_aload_n rfl rfl ?_
      obtain ⟨hg, hf⟩ := g_guard hf
      refine x_getI hg rfl rfl rfl ?_
      obtain ⟨q4, hc, hf⟩ := g_bind hf
      refine w_static [_] _ rfl rfl rfl rfl (Nat.le_of_ble_eq_true rfl) (Nat.le_of_ble_eq_true rfl) (Nat.le_of_ble_eq_true rfl) (t_G_isAlongRows (d := d + 0) hc ?_)
      obtain ⟨b5, ho, hf⟩ := g_bind hf
      refine x_dr2 ho ?_
      obtain ⟨q6, hc, hf⟩ := g_bind hf
      have hDp : gDisp (gCall (d + 1)) m_Pair_measureIn 39 (q4.2) b5 [.inl (gint (q1.2) a0 12), .inl q4.1] (fun v h' => v = some (.inl q6.1) ∧ h' = q6.2) := by
        rcases g_cond hc with ⟨hg, hc⟩ | ⟨-, hc⟩
        · exact g_disp [1, 6] hg rfl rfl (List.forall_mem_cons.mpr ⟨⟨_, rfl, rfl, rfl, rfl⟩, List.forall_mem_cons.mpr ⟨⟨_, rfl, rfl, rfl, rfl⟩, fun _ h => absurd h List.not_mem_nil⟩⟩) (t_Writing_wanted (d := d + 0) hc ⟨rfl, rfl⟩)
        rcases g_cond hc with ⟨hg, hc⟩ | ⟨-, hc⟩
        · exact g_disp [3, 4] hg rfl rfl (List.forall_mem_cons.mpr ⟨⟨_, rfl, rfl, rfl, rfl⟩, List.forall_mem_cons.mpr ⟨⟨_, rfl, rfl, rfl, rfl⟩, fun _ h => absurd h List.not_mem_nil⟩⟩) (t_Pane_wanted (d := d + 0) hc ⟨rfl, rfl⟩)
        rcases g_cond hc with ⟨hg, hc⟩ | ⟨-, hc⟩
        · exact g_disp [5] hg rfl rfl (List.forall_mem_cons.mpr ⟨⟨_, rfl, rfl, rfl, rfl⟩, fun _ h => absurd h List.not_mem_nil⟩) (t_Picture_wanted (d := d + 0) hc ⟨rfl, rfl⟩)
        cases hc
      refine w_disp [_, _] _ rfl rfl (Nat.le_of_ble_eq_true rfl) hDp (fun v h' hv => ?_)
      obtain ⟨rfl, rfl⟩ := hv
      cases hf
      exact w_ireturn rfl (int_ret _) (Nat.le_refl _) (Nat.le_refl _) hQ
    · have c3 : (gref (q1.2) a0 13) = none := c3
      rw [if_pos c3] at hf
      refine w_iconst (v := (0 : Int32)) rfl (by decide) ?_
      refine w_goto (t := 49) rfl (by decide) ?_
      cases hf
      exact w_ireturn rfl (int_ret _) (Nat.le_refl _) (Nat.le_refl _) hQ
  · have c2 : q1.1 = (0 : Int32) := Classical.not_not.mp c2
    rw [if_pos c2] at hf
    refine w_iload_n rfl rfl ?_
    refine w_aload_n rfl rfl ?_
    obtain ⟨hg, hf⟩ := g_guard hf
    refine x_getI hg rfl rfl rfl ?_
    refine w_imul rfl ?_
    refine w_bipush (v := (100 : Int32)) rfl (by decide) ?_
    obtain ⟨hb, hf⟩ := g_guard hf
    refine w_idiv rfl (of_decide_eq_true hb) ?_
    cases hf
    exact w_ireturn rfl (int_ret _) (Nat.le_refl _) (Nat.le_refl _) hQ
def f_Tree_layOutSides_B64 (recF : gHp → Option Nat → Int32 → Int32 → Int32 → Int32 → Int32 → Option (Int32 × gHp)) (n : Nat) (h : gHp) (x0 : Option Nat) (x1 : Int32) (x2 : Int32) (x3 : Int32) (x4 : Int32) (s0 : Int32) : Option (Int32 × gHp) := (if x2 = (0 : Int32) then (x0.bind (fun b2 => (bif gtin (gtag (h) b2) [3] then (x0.bind (fun b3 => (bif gtin (gtag (h) b3) [3] then (x0.bind (fun b4 => (bif gtin (gtag (h) b4) [3] then (x0.bind (fun b5 => (bif gtin (gtag (h) b5) [3] then ((recF (h) (gref (h) b2 14) (gint (h) b3 3) (gint (h) b4 4) (s0) (gint (h) b5 6) (x1)).bind (fun q6 => (x0.bind (fun b7 => (bif gtin (gtag (q6.2) b7) [3] then (x0.bind (fun b8 => (bif gtin (gtag (q6.2) b8) [3] then (x0.bind (fun b9 => (bif gtin (gtag (q6.2) b9) [3] then (x0.bind (fun b10 => (bif gtin (gtag (q6.2) b10) [3] then ((recF (q6.2) (gref (q6.2) b7 15) ((gint (q6.2) b8 3) + (s0 + x4)) (gint (q6.2) b9 4) (x3 - (s0 + x4)) (gint (q6.2) b10 6) (x1)).bind (fun q11 => some (q6.1 + q11.1, q11.2))) else none))) else none))) else none))) else none))))) else none))) else none))) else none))) else none))) else (x0.bind (fun b2 => (bif gtin (gtag (h) b2) [3] then (x0.bind (fun b3 => (bif gtin (gtag (h) b3) [3] then (x0.bind (fun b4 => (bif gtin (gtag (h) b4) [3] then (x0.bind (fun b5 => (bif gtin (gtag (h) b5) [3] then ((recF (h) (gref (h) b2 14) (gint (h) b3 3) (gint (h) b4 4) (gint (h) b5 5) (s0) (x1)).bind (fun q6 => (x0.bind (fun b7 => (bif gtin (gtag (q6.2) b7) [3] then (x0.bind (fun b8 => (bif gtin (gtag (q6.2) b8) [3] then (x0.bind (fun b9 => (bif gtin (gtag (q6.2) b9) [3] then (x0.bind (fun b10 => (bif gtin (gtag (q6.2) b10) [3] then ((recF (q6.2) (gref (q6.2) b7 15) (gint (q6.2) b8 3) ((gint (q6.2) b9 4) + (s0 + x4)) (gint (q6.2) b10 5) (x3 - (s0 + x4)) (x1)).bind (fun q11 => some (q6.1 + q11.1, q11.2))) else none))) else none))) else none))) else none))))) else none))) else none))) else none))) else none))))
set_option maxHeartbeats 4000000 in
set_option maxRecDepth 100000 in
theorem t_Tree_layOutSides_B64 {D0 D : Nat} {recF : gHp → Option Nat → Int32 → Int32 → Int32 → Int32 → Int32 → Option (Int32 × gHp)} {Q : Option gv → gHp → Prop} {res : Int32 × gHp} (hD : D = D0 + 10) (hrF : ∀ {h : gHp} {z0 : Option Nat} {z1 z2 z3 z4 z5 : Int32} {res : Int32 × gHp} {Q : Option gv → gHp → Prop}, recF h z0 z1 z2 z3 z4 z5 = some res → Q (some (.inl res.1)) res.2 → gCall D m_Tree_layOutFrom [.inr z0, .inl z1, .inl z2, .inl z3, .inl z4, .inl z5] h Q) (hQ : Q (some (.inl res.1)) res.2) (n : Nat) (h : gHp) (x0 : Option Nat) (x1 : Int32) (x2 : Int32) (x3 : Int32) (x4 : Int32) (s0 : Int32) (u5 : Option gv) (u6 : Option gv) (u7 : Option gv) (u8 : Option gv) (hf : f_Tree_layOutSides_B64 recF n h x0 x1 x2 x3 x4 s0 = some res) : gWP (gCall D) m_Tree_layOutSides Q 64 [some (.inr x0), some (.inl x1), some (.inl x2), some (.inl x3), some (.inl x4), u5, u6, u7, u8] [.inl s0] h 0 0 := by
  unfold f_Tree_layOutSides_B64 at hf
  have hD9 := hD
  subst hD9
  refine w_istore rfl (Nat.le_of_ble_eq_true rfl) rfl ?_
  refine w_iload rfl rfl ?_
  refine w_iload rfl rfl ?_
  refine w_iadd rfl ?_
  refine w_istore rfl (Nat.le_of_ble_eq_true rfl) rfl ?_
  refine w_iload_n rfl rfl ?_
  refine w_iload rfl rfl ?_
  refine w_isub rfl ?_
  refine w_istore rfl (Nat.le_of_ble_eq_true rfl) rfl ?_
  refine w_iload_n rfl rfl ?_
  refine w_if (t := 132) rfl (by decide) (fun c1 => ?_) (fun c1 => ?_)
  · have c1 : x2 = (0 : Int32) := c1
    rw [if_pos c1] at hf
    refine w_aload_n rfl rfl ?_
    obtain ⟨b2, ho, hf⟩ := g_bind hf
    refine x_dr0 ho ?_
    obtain ⟨hg, hf⟩ := g_guard hf
    refine x_getR hg rfl rfl rfl ?_
    refine w_aload_n rfl rfl ?_
    obtain ⟨b3, ho, hf⟩ := g_bind hf
    refine x_dr0 ho ?_
    obtain ⟨hg, hf⟩ := g_guard hf
    refine x_getI hg rfl rfl rfl ?_
    refine w_aload_n rfl rfl ?_
    obtain ⟨b4, ho, hf⟩ := g_bind hf
    refine x_dr0 ho ?_
    obtain ⟨hg, hf⟩ := g_guard hf
    refine x_getI hg rfl rfl rfl ?_
    refine w_iload rfl rfl ?_
    refine w_aload_n rfl rfl ?_
    obtain ⟨b5, ho, hf⟩ := g_bind hf
    refine x_dr0 ho ?_
    obtain ⟨hg, hf⟩ := g_guard hf
    refine x_getI hg rfl rfl rfl ?_
    refine w_iload_n rfl rfl ?_
    obtain ⟨q6, hc, hf⟩ := g_bind hf
    refine w_static [_, _, _, _, _, _] _ rfl rfl rfl rfl (Nat.le_of_ble_eq_true rfl) (Nat.le_of_ble_eq_true rfl) (Nat.le_of_ble_eq_true rfl) (hrF hc ?_)
    refine w_aload_n rfl rfl ?_
    obtain ⟨b7, ho, hf⟩ := g_bind hf
    refine x_dr0 ho ?_
    obtain ⟨hg, hf⟩ := g_guard hf
    refine x_getR hg rfl rfl rfl ?_
    refine w_aload_n rfl rfl ?_
    obtain ⟨b8, ho, hf⟩ := g_bind hf
    refine x_dr0 ho ?_
    obtain ⟨hg, hf⟩ := g_guard hf
    refine x_getI hg rfl rfl rfl ?_
    refine w_iload rfl rfl ?_
    refine w_iadd rfl ?_
    refine w_aload_n rfl rfl ?_
    obtain ⟨b9, ho, hf⟩ := g_bind hf
    refine x_dr0 ho ?_
    obtain ⟨hg, hf⟩ := g_guard hf
    refine x_getI hg rfl rfl rfl ?_
    refine w_iload rfl rfl ?_
    refine w_aload_n rfl rfl ?_
    obtain ⟨b10, ho, hf⟩ := g_bind hf
    refine x_dr0 ho ?_
    obtain ⟨hg, hf⟩ := g_guard hf
    refine x_getI hg rfl rfl rfl ?_
    refine w_iload_n rfl rfl ?_
    obtain ⟨q11, hc, hf⟩ := g_bind hf
    refine w_static [_, _, _, _, _, _] _ rfl rfl rfl rfl (Nat.le_of_ble_eq_true rfl) (Nat.le_of_ble_eq_true rfl) (Nat.le_of_ble_eq_true rfl) (hrF hc ?_)
    refine w_iadd rfl ?_
    cases hf
    exact w_ireturn rfl (int_ret _) (Nat.le_refl _) (Nat.le_refl _) hQ
  · have c1 : ¬ (x2 = (0 : Int32)) := c1
    rw [if_neg c1] at hf
    refine w_aload_n rfl rfl ?_
    obtain ⟨b2, ho, hf⟩ := g_bind hf
    refine x_dr0 ho ?_
    obtain ⟨hg, hf⟩ := g_guard hf
    refine x_getR hg rfl rfl rfl ?_
    refine w_aload_n rfl rfl ?_
    obtain ⟨b3, ho, hf⟩ := g_bind hf
    refine x_dr0 ho ?_
    obtain ⟨hg, hf⟩ := g_guard hf
    refine x_getI hg rfl rfl rfl ?_
    refine w_aload_n rfl rfl ?_
    obtain ⟨b4, ho, hf⟩ := g_bind hf
    refine x_dr0 ho ?_
    obtain ⟨hg, hf⟩ := g_guard hf
    refine x_getI hg rfl rfl rfl ?_
    refine w_aload_n rfl rfl ?_
    obtain ⟨b5, ho, hf⟩ := g_bind hf
    refine x_dr0 ho ?_
    obtain ⟨hg, hf⟩ := g_guard hf
    refine x_getI hg rfl rfl rfl ?_
    refine w_iload rfl rfl ?_
    refine w_iload_n rfl rfl ?_
    obtain ⟨q6, hc, hf⟩ := g_bind hf
    refine w_static [_, _, _, _, _, _] _ rfl rfl rfl rfl (Nat.le_of_ble_eq_true rfl) (Nat.le_of_ble_eq_true rfl) (Nat.le_of_ble_eq_true rfl) (hrF hc ?_)
    refine w_aload_n rfl rfl ?_
    obtain ⟨b7, ho, hf⟩ := g_bind hf
    refine x_dr0 ho ?_
    obtain ⟨hg, hf⟩ := g_guard hf
    refine x_getR hg rfl rfl rfl ?_
    refine w_aload_n rfl rfl ?_
    obtain ⟨b8, ho, hf⟩ := g_bind hf
    refine x_dr0 ho ?_
    obtain ⟨hg, hf⟩ := g_guard hf
    refine x_getI hg rfl rfl rfl ?_
    refine w_aload_n rfl rfl ?_
    obtain ⟨b9, ho, hf⟩ := g_bind hf
    refine x_dr0 ho ?_
    obtain ⟨hg, hf⟩ := g_guard hf
    refine x_getI hg rfl rfl rfl ?_
    refine w_iload rfl rfl ?_
    refine w_iadd rfl ?_
    refine w_aload_n rfl rfl ?_
    obtain ⟨b10, ho, hf⟩ := g_bind hf
    refine x_dr0 ho ?_
    obtain ⟨hg, hf⟩ := g_guard hf
    refine x_getI hg rfl rfl rfl ?_
    refine w_iload rfl rfl ?_
    refine w_iload_n rfl rfl ?_
    obtain ⟨q11, hc, hf⟩ := g_bind hf
    refine w_static [_, _, _, _, _, _] _ rfl rfl rfl rfl (Nat.le_of_ble_eq_true rfl) (Nat.le_of_ble_eq_true rfl) (Nat.le_of_ble_eq_true rfl) (hrF hc ?_)
    refine w_iadd rfl ?_
    cases hf
    exact w_ireturn rfl (int_ret _) (Nat.le_refl _) (Nat.le_refl _) hQ
def f_Tree_layOutSides_B23 (recF : gHp → Option Nat → Int32 → Int32 → Int32 → Int32 → Int32 → Option (Int32 × gHp)) (n : Nat) (h : gHp) (x0 : Option Nat) (x1 : Int32) (x2 : Int32) (s0 : Int32) : Option (Int32 × gHp) := (x0.bind (fun b1 => (((bif gtis (gtag (h) b1) 3 then f_Pair_borderIn n (h) b1 (s0) else none)).bind (fun q2 => (x0.bind (fun b3 => (((bif gtis (gtag (q2.2) b3) 3 then f_Pair_measureIn n (q2.2) b3 (s0) else none)).bind (fun q4 => (x0.bind (fun b5 => (((bif gtis (gtag (q4.2) b5) 3 then f_Pair_measuresFirst n (q4.2) b5  else none)).bind (fun q6 => (if q6.1 = (0 : Int32) then f_Tree_layOutSides_B64 recF  n (q6.2) (x0) (x1) (x2) (s0) (q2.1) ((s0 - q2.1) - ((if (s0 - q2.1) < q4.1 then (s0 - q2.1) else q4.1))) else f_Tree_layOutSides_B64 recF  n (q6.2) (x0) (x1) (x2) (s0) (q2.1) ((if (s0 - q2.1) < q4.1 then (s0 - q2.1) else q4.1)))))))))))))))
set_option maxHeartbeats 4000000 in
set_option maxRecDepth 100000 in
theorem t_Tree_layOutSides_B23 {D0 D : Nat} {recF : gHp → Option Nat → Int32 → Int32 → Int32 → Int32 → Int32 → Option (Int32 × gHp)} {Q : Option gv → gHp → Prop} {res : Int32 × gHp} (hD : D = D0 + 10) (hrF : ∀ {h : gHp} {z0 : Option Nat} {z1 z2 z3 z4 z5 : Int32} {res : Int32 × gHp} {Q : Option gv → gHp → Prop}, recF h z0 z1 z2 z3 z4 z5 = some res → Q (some (.inl res.1)) res.2 → gCall D m_Tree_layOutFrom [.inr z0, .inl z1, .inl z2, .inl z3, .inl z4, .inl z5] h Q) (hQ : Q (some (.inl res.1)) res.2) (n : Nat) (h : gHp) (x0 : Option Nat) (x1 : Int32) (x2 : Int32) (s0 : Int32) (u3 : Option gv) (u4 : Option gv) (u5 : Option gv) (u6 : Option gv) (u7 : Option gv) (u8 : Option gv) (hf : f_Tree_layOutSides_B23 recF n h x0 x1 x2 s0 = some res) : gWP (gCall D) m_Tree_layOutSides Q 23 [some (.inr x0), some (.inl x1), some (.inl x2), u3, u4, u5, u6, u7, u8] [.inl s0] h 0 0 := by
  unfold f_Tree_layOutSides_B23 at hf
  have hD9 := hD
  subst hD9
  refine w_istore_n rfl (Nat.le_of_ble_eq_true rfl) rfl ?_
  refine w_aload_n rfl rfl ?_
  refine w_iload_n rfl rfl ?_
  obtain ⟨b1, ho, hf⟩ := g_bind hf
  refine x_dr1 ho ?_
  obtain ⟨q2, hc, hf⟩ := g_bind hf
  obtain ⟨hg, hc⟩ := g_guard hc
  refine x_virt 3 [_] _ hg rfl rfl rfl rfl (Nat.le_of_ble_eq_true rfl) rfl (Nat.le_of_ble_eq_true rfl) (Nat.le_of_ble_eq_true rfl) (t_Pair_borderIn (d := D0 + 9) hc ?_)
  refine w_istore rfl (Nat.le_of_ble_eq_true rfl) rfl ?_
  refine w_aload_n rfl rfl ?_
  refine w_iload_n rfl rfl ?_
  obtain ⟨b3, ho, hf⟩ := g_bind hf
  refine x_dr1 ho ?_
  obtain ⟨q4, hc, hf⟩ := g_bind hf
  obtain ⟨hg, hc⟩ := g_guard hc
  refine x_virt 3 [_] _ hg rfl rfl rfl rfl (Nat.le_of_ble_eq_true rfl) rfl (Nat.le_of_ble_eq_true rfl) (Nat.le_of_ble_eq_true rfl) (t_Pair_measureIn (d := D0 + 8) hc ?_)
  refine w_iload_n rfl rfl ?_
  refine w_iload rfl rfl ?_
  refine w_isub rfl ?_
  refine x_math rfl rfl (Nat.le_of_ble_eq_true rfl) (Nat.le_of_ble_eq_true rfl) (Nat.le_of_ble_eq_true rfl) ?_
  refine w_istore rfl (Nat.le_of_ble_eq_true rfl) rfl ?_
  refine w_aload_n rfl rfl ?_
  obtain ⟨b5, ho, hf⟩ := g_bind hf
  refine x_dr0 ho ?_
  obtain ⟨q6, hc, hf⟩ := g_bind hf
  obtain ⟨hg, hc⟩ := g_guard hc
  refine x_virt 3 [] _ hg rfl rfl rfl rfl (Nat.le_of_ble_eq_true rfl) rfl (Nat.le_of_ble_eq_true rfl) (Nat.le_of_ble_eq_true rfl) (t_Pair_measuresFirst (d := D0 + 9) hc ?_)
  refine w_if (t := 57) rfl (by decide) (fun c7 => ?_) (fun c7 => ?_)
  · have c7 : q6.1 = (0 : Int32) := c7
    rw [if_pos c7] at hf
    refine w_iload_n rfl rfl ?_
    refine w_iload rfl rfl ?_
    refine w_isub rfl ?_
    refine w_iload rfl rfl ?_
    refine w_isub rfl ?_
    exact t_Tree_layOutSides_B64 hD hrF  hQ _ _ (x0) (x1) (x2) (s0) (q2.1) ((s0 - q2.1) - ((if (s0 - q2.1) < q4.1 then (s0 - q2.1) else q4.1))) _ _ _ _ hf
  · have c7 : ¬ (q6.1 = (0 : Int32)) := c7
    rw [if_neg c7] at hf
    refine w_iload rfl rfl ?_
    refine w_goto (t := 64) rfl (by decide) ?_
    exact t_Tree_layOutSides_B64 hD hrF  hQ _ _ (x0) (x1) (x2) (s0) (q2.1) ((if (s0 - q2.1) < q4.1 then (s0 - q2.1) else q4.1)) _ _ _ _ hf
def f_Tree_layOutSides (recF : gHp → Option Nat → Int32 → Int32 → Int32 → Int32 → Int32 → Option (Int32 × gHp)) (n : Nat) (h : gHp) (x0 : Option Nat) (x1 : Int32) : Option (Int32 × gHp) := (x0.bind (fun b1 => (bif gtin (gtag (h) b1) [3] then ((f_G_isAlongRows n (h) (gint (h) b1 11)).bind (fun q2 => (if q2.1 = (0 : Int32) then (x0.bind (fun b4 => (bif gtin (gtag (q2.2) b4) [3] then f_Tree_layOutSides_B23 recF  n (q2.2) (x0) (x1) (q2.1) (gint (q2.2) b4 5) else none))) else (x0.bind (fun b4 => (bif gtin (gtag (q2.2) b4) [3] then f_Tree_layOutSides_B23 recF  n (q2.2) (x0) (x1) (q2.1) (gint (q2.2) b4 6) else none)))))) else none)))
set_option maxHeartbeats 4000000 in
set_option maxRecDepth 100000 in
theorem t_Tree_layOutSides {D0 D n : Nat} {recF : gHp → Option Nat → Int32 → Int32 → Int32 → Int32 → Int32 → Option (Int32 × gHp)} (hD : D = D0 + 10) (hrF : ∀ {h : gHp} {z0 : Option Nat} {z1 z2 z3 z4 z5 : Int32} {res : Int32 × gHp} {Q : Option gv → gHp → Prop}, recF h z0 z1 z2 z3 z4 z5 = some res → Q (some (.inl res.1)) res.2 → gCall D m_Tree_layOutFrom [.inr z0, .inl z1, .inl z2, .inl z3, .inl z4, .inl z5] h Q) {h : gHp} {x0 : Option Nat} {x1 : Int32} {res : Int32 × gHp} {Q : Option gv → gHp → Prop} (hf : f_Tree_layOutSides recF n h x0 x1 = some res) (hQ : Q (some (.inl res.1)) res.2) : gCall (D + 1) m_Tree_layOutSides [.inr x0, .inl x1] h Q := by
  unfold f_Tree_layOutSides at hf
  refine g_enter (Nat.le_of_ble_eq_true rfl) ?_
  show gWP (gCall D) m_Tree_layOutSides Q 0 [some (.inr x0), some (.inl x1), none, none, none, none, none, none, none] [] h 0 0
  have hD9 := hD
  subst hD9
  refine w_aload_n rfl rfl ?_
  obtain ⟨b1, ho, hf⟩ := g_bind hf
  refine x_dr0 ho ?_
  obtain ⟨hg, hf⟩ := g_guard hf
  refine x_getI hg rfl rfl rfl ?_
  obtain ⟨q2, hc, hf⟩ := g_bind hf
  refine w_static [_] _ rfl rfl rfl rfl (Nat.le_of_ble_eq_true rfl) (Nat.le_of_ble_eq_true rfl) (Nat.le_of_ble_eq_true rfl) (t_G_isAlongRows (d := D0 + 9) hc ?_)
  refine w_istore_n rfl (Nat.le_of_ble_eq_true rfl) rfl ?_
  refine w_iload_n rfl rfl ?_
  refine w_if (t := 19) rfl (by decide) (fun c3 => ?_) (fun c3 => ?_)
  · have c3 : q2.1 = (0 : Int32) := c3
    rw [if_pos c3] at hf
    refine w_aload_n rfl rfl ?_
    obtain ⟨b4, ho, hf⟩ := g_bind hf
    refine x_dr0 ho ?_
    obtain ⟨hg, hf⟩ := g_guard hf
    refine x_getI hg rfl rfl rfl ?_
    exact t_Tree_layOutSides_B23 hD hrF  hQ _ _ (x0) (x1) (q2.1) (gint (q2.2) b4 5) _ _ _ _ _ _ hf
  · have c3 : ¬ (q2.1 = (0 : Int32)) := c3
    rw [if_neg c3] at hf
    refine w_aload_n rfl rfl ?_
    obtain ⟨b4, ho, hf⟩ := g_bind hf
    refine x_dr0 ho ?_
    obtain ⟨hg, hf⟩ := g_guard hf
    refine x_getI hg rfl rfl rfl ?_
    refine w_goto (t := 23) rfl (by decide) ?_
    exact t_Tree_layOutSides_B23 hD hrF  hQ _ _ (x0) (x1) (q2.1) (gint (q2.2) b4 6) _ _ _ _ _ _ hf
