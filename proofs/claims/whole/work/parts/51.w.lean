def fH_nearest (n : Nat) (h : gHp) (x0 : Int32) (x1 : Int32) (x2 : Int32) : Option (Int32 × gHp) := (if x1 ≤ x0 then (if x0 ≤ x2 then some (x0, h) else some (x2, h)) else some (x1, h))
set_option maxHeartbeats 4000000 in
set_option maxRecDepth 100000 in
theorem tH_nearest {d n : Nat} {h : gHp} {x0 : Int32} {x1 : Int32} {x2 : Int32} {res : Int32 × gHp} {Q : Option gv → gHp → Prop} (hf : fH_nearest n h x0 x1 x2 = some res) (hQ : Q (some (.inl res.1)) res.2) : gCall (d + 1) m_M_nearest [.inl x0, .inl x1, .inl x2] h Q := by
  unfold fH_nearest at hf
  refine g_enter (d := d + 0) (Nat.le_of_ble_eq_true rfl) ?_
  show gWP (gCall (d + 0)) m_M_nearest Q 0 [some (.inl x0), some (.inl x1), some (.inl x2)] [] h 0 0
  refine w_iload_n rfl rfl ?_
  refine w_iload_n rfl rfl ?_
  refine w_icmp (t := 9) rfl (by decide) (fun c1 => ?_) (fun c1 => ?_)
  · have c1 : x1 ≤ x0 := c1
    rw [if_pos c1] at hf
    refine w_iload_n rfl rfl ?_
    refine w_iload_n rfl rfl ?_
    refine w_icmp (t := 18) rfl (by decide) (fun c2 => ?_) (fun c2 => ?_)
    · have c2 : x0 ≤ x2 := c2
      rw [if_pos c2] at hf
      refine w_iload_n rfl rfl ?_
      cases hf
      exact w_ireturn rfl (int_ret _) (Nat.le_refl _) (Nat.le_refl _) hQ
    · have c2 : ¬ (x0 ≤ x2) := c2
      rw [if_neg c2] at hf
      refine w_iload_n rfl rfl ?_
      refine w_goto (t := 19) rfl (by decide) ?_
      cases hf
      exact w_ireturn rfl (int_ret _) (Nat.le_refl _) (Nat.le_refl _) hQ
  · have c1 : ¬ (x1 ≤ x0) := c1
    rw [if_neg c1] at hf
    refine w_iload_n rfl rfl ?_
    refine w_goto (t := 19) rfl (by decide) ?_
    cases hf
    exact w_ireturn rfl (int_ret _) (Nat.le_refl _) (Nat.le_refl _) hQ
def w_Law_cell (n : Nat) (h : gHp) (x0 : Option Nat) (x1 : Int32) (Q : Option gv → gHp → Prop) : Prop := (∃ b1, x0 = some b1 ∧ (∃ t2, gtag (h) b1 = some t2 ∧ (Nat.ble 20 t2.1 && Nat.ble t2.1 24) = true ∧ (((Int32.ofNat t2.2) ≤ x1 → Q (some (.inl ((0 : Int32)))) (h)) ∧ (¬ ((Int32.ofNat t2.2) ≤ x1) → (∃ b4, x0 = some b4 ∧ (gArr (gtag (h) b4) 24 (x1) = true ∧ Q (some (.inl (gint (h) b4 (ix (x1))))) (h)))))))
set_option maxHeartbeats 4000000 in
set_option maxRecDepth 100000 in
theorem t_Law_cell {d n : Nat} {h : gHp} {x0 : Option Nat} {x1 : Int32} {Q : Option gv → gHp → Prop} (hw : w_Law_cell n h x0 x1 Q) : gCall (d + 1) m_Law_cell [.inr x0, .inl x1] h Q := by
  unfold w_Law_cell at hw
  refine g_enter (d := d + 0) (Nat.le_of_ble_eq_true rfl) ?_
  show gWP (gCall (d + 0)) m_Law_cell Q 0 [some (.inr x0), some (.inl x1)] [] h 0 0
  refine w_iload_n rfl rfl ?_
  refine w_aload_n rfl rfl ?_
  obtain ⟨b1, ho, hw⟩ := hw
  refine x_dr0 ho ?_
  obtain ⟨t2, ht, hg, hw⟩ := hw
  refine x_len ht hg rfl ?_
  refine w_icmp (t := 12) rfl (by decide) (fun c3 => ?_) (fun c3 => ?_)
  · have c3 : (Int32.ofNat t2.2) ≤ x1 := c3
    have hw := hw.1 c3
    refine w_iconst (v := (0 : Int32)) rfl (by decide) ?_
    exact w_ireturn rfl (int_ret _) (Nat.le_of_ble_eq_true rfl) (Nat.le_of_ble_eq_true rfl) hw
  · have c3 : ¬ ((Int32.ofNat t2.2) ≤ x1) := c3
    have hw := hw.2 c3
    refine w_aload_n rfl rfl ?_
    refine w_iload_n rfl rfl ?_
    obtain ⟨b4, ho, hw⟩ := hw
    refine x_dr1 ho ?_
    obtain ⟨hg, hw⟩ := hw
    refine x_lds hg rfl ?_
    refine w_goto (t := 13) rfl (by decide) ?_
    exact w_ireturn rfl (int_ret _) (Nat.le_of_ble_eq_true rfl) (Nat.le_of_ble_eq_true rfl) hw
def w_Pane_new (n : Nat) (h : gHp) (a0 : Nat) (x1 : Int32) (x2 : Int32) (Q : Option gv → gHp → Prop) : Prop := (gtin (gtag (h) a0) [1, 3, 4, 5, 6] = true ∧ (gtin (gtag (gsetI (h) a0 10 ((1 : Int32))) a0) [1, 3, 4, 5, 6] = true ∧ (gtin (gtag (gsetI (gsetI (h) a0 10 ((1 : Int32))) a0 0 (x1)) a0) [1, 3, 4, 5, 6] = true ∧ Q none (gsetI (gsetI (gsetI (h) a0 10 ((1 : Int32))) a0 0 (x1)) a0 1 (x2)))))
set_option maxHeartbeats 4000000 in
set_option maxRecDepth 100000 in
theorem t_Pane_new {d n a0 : Nat} {h : gHp} {x1 : Int32} {x2 : Int32} {Q : Option gv → gHp → Prop} (hw : w_Pane_new n h a0 x1 x2 Q) : gCall (d + 1) m_Pane_new [.inr (some a0), .inl x1, .inl x2] h Q := by
  unfold w_Pane_new at hw
  refine g_enter (d := d + 0) (Nat.le_of_ble_eq_true rfl) ?_
  show gWP (gCall (d + 0)) m_Pane_new Q 0 [some (.inr (some a0)), some (.inl x1), some (.inl x2)] [] h 0 0
  refine w_aload_n rfl rfl ?_
  refine w_obj rfl rfl (Nat.le_of_ble_eq_true rfl) ?_
  refine w_aload_n rfl rfl ?_
  refine w_iconst (v := (1 : Int32)) rfl (by decide) ?_
  obtain ⟨hg, hw⟩ := hw
  refine x_putZ rfl hg rfl rfl (by decide) ?_
  refine w_aload_n rfl rfl ?_
  refine w_iload_n rfl rfl ?_
  obtain ⟨hg, hw⟩ := hw
  refine x_putI hg rfl rfl (by decide) ?_
  refine w_aload_n rfl rfl ?_
  refine w_iload_n rfl rfl ?_
  obtain ⟨hg, hw⟩ := hw
  refine x_putI hg rfl rfl (by decide) ?_
  exact w_return rfl rfl (Nat.le_of_ble_eq_true rfl) (Nat.le_of_ble_eq_true rfl) hw
def w_Picture_new (n : Nat) (h : gHp) (a0 : Nat) (x1 : Int32) (Q : Option gv → gHp → Prop) : Prop := (w_Pane_new n (h) a0 (x1) ((3 : Int32)) (fun v h' => v = none ∧ Q none (h')))
set_option maxHeartbeats 4000000 in
set_option maxRecDepth 100000 in
theorem t_Picture_new {d n a0 : Nat} {h : gHp} {x1 : Int32} {Q : Option gv → gHp → Prop} (hw : w_Picture_new n h a0 x1 Q) : gCall (d + 2) m_Picture_new [.inr (some a0), .inl x1] h Q := by
  unfold w_Picture_new at hw
  refine g_enter (d := d + 1) (Nat.le_of_ble_eq_true rfl) ?_
  show gWP (gCall (d + 1)) m_Picture_new Q 0 [some (.inr (some a0)), some (.inl x1)] [] h 0 0
  refine w_aload_n rfl rfl ?_
  refine w_iload_n rfl rfl ?_
  refine w_iconst (v := (3 : Int32)) rfl (by decide) ?_
  refine w_special [_, _] _ rfl rfl rfl rfl (Nat.le_of_ble_eq_true rfl) (Nat.le_of_ble_eq_true rfl) (Nat.le_of_ble_eq_true rfl) ((t_Pane_new (d := d + 0) hw).mono (fun v h' hv => ?_))
  obtain ⟨rfl, hw⟩ := hv
  exact w_return rfl rfl (Nat.le_of_ble_eq_true rfl) (Nat.le_of_ble_eq_true rfl) hw
def w_Pair_new (n : Nat) (h : gHp) (a0 : Nat) (x1 : Int32) (x2 : Int32) (x3 : Int32) (x4 : Option Nat) (Q : Option gv → gHp → Prop) : Prop := (w_Pane_new n (h) a0 (x1) ((4 : Int32)) (fun v h' => v = none ∧ (gtin (gtag (h') a0) [3] = true ∧ (gtin (gtag (gsetI (h') a0 11 (x2)) a0) [3] = true ∧ (gtin (gtag (gsetI (gsetI (h') a0 11 (x2)) a0 12 (x3)) a0) [3] = true ∧ Q none (gsetR (gsetI (gsetI (h') a0 11 (x2)) a0 12 (x3)) a0 13 (x4)))))))
set_option maxHeartbeats 4000000 in
set_option maxRecDepth 100000 in
theorem t_Pair_new {d n a0 : Nat} {h : gHp} {x1 : Int32} {x2 : Int32} {x3 : Int32} {x4 : Option Nat} {Q : Option gv → gHp → Prop} (hw : w_Pair_new n h a0 x1 x2 x3 x4 Q) : gCall (d + 2) m_Pair_new [.inr (some a0), .inl x1, .inl x2, .inl x3, .inr x4] h Q := by
  unfold w_Pair_new at hw
  refine g_enter (d := d + 1) (Nat.le_of_ble_eq_true rfl) ?_
  show gWP (gCall (d + 1)) m_Pair_new Q 0 [some (.inr (some a0)), some (.inl x1), some (.inl x2), some (.inl x3), some (.inr x4)] [] h 0 0
  refine w_aload_n rfl rfl ?_
  refine w_iload_n rfl rfl ?_
  refine w_iconst (v := (4 : Int32)) rfl (by decide) ?_
  refine w_special [_, _] _ rfl rfl rfl rfl (Nat.le_of_ble_eq_true rfl) (Nat.le_of_ble_eq_true rfl) (Nat.le_of_ble_eq_true rfl) ((t_Pane_new (d := d + 0) hw).mono (fun v h' hv => ?_))
  obtain ⟨rfl, hw⟩ := hv
  refine w_aload_n rfl rfl ?_
  refine w_iload_n rfl rfl ?_
  obtain ⟨hg, hw⟩ := hw
  refine x_putI hg rfl rfl (by decide) ?_
  refine w_aload_n rfl rfl ?_
  refine w_iload_n rfl rfl ?_
  obtain ⟨hg, hw⟩ := hw
  refine x_putI hg rfl rfl (by decide) ?_
  refine w_aload_n rfl rfl ?_
  refine w_aload rfl rfl ?_
  obtain ⟨hg, hw⟩ := hw
  refine x_putR hg rfl rfl (by decide) ?_
  exact w_return rfl rfl (Nat.le_of_ble_eq_true rfl) (Nat.le_of_ble_eq_true rfl) hw
def w_Line_new (n : Nat) (h : gHp) (a0 : Nat) (Q : Option gv → gHp → Prop) : Prop := (∀ a1, gtag (h) a1 = none → (gtin (gtag (gnew (h) a1 20 40) a0) [2] = true ∧ Q none (gsetR (gnew (h) a1 20 40) a0 0 (some a1))))
set_option maxHeartbeats 4000000 in
set_option maxRecDepth 100000 in
theorem t_Line_new {d n a0 : Nat} {h : gHp} {Q : Option gv → gHp → Prop} (hw : w_Line_new n h a0  Q) : gCall (d + 1) m_Line_new [.inr (some a0)] h Q := by
  unfold w_Line_new at hw
  refine g_enter (d := d + 0) (Nat.le_of_ble_eq_true rfl) ?_
  show gWP (gCall (d + 0)) m_Line_new Q 0 [some (.inr (some a0))] [] h 0 0
  refine w_aload_n rfl rfl ?_
  refine w_obj rfl rfl (Nat.le_of_ble_eq_true rfl) ?_
  refine w_aload_n rfl rfl ?_
  refine w_bipush (v := (40 : Int32)) rfl (by decide) ?_
  refine xw_newa (tg := 20) (N := 40) rfl rfl (by decide) (by decide) (Nat.le_of_ble_eq_true rfl) (Nat.le_of_ble_eq_true rfl) (Nat.le_of_ble_eq_true rfl) (fun a1 ha1 => ?_)
  have hw := hw a1 ha1
  obtain ⟨hg, hw⟩ := hw
  refine x_putR hg rfl rfl (by decide) ?_
  exact w_return rfl rfl (Nat.le_of_ble_eq_true rfl) (Nat.le_of_ble_eq_true rfl) hw
def w_Wrap_new (n : Nat) (h : gHp) (a0 : Nat) (Q : Option gv → gHp → Prop) : Prop := (∀ a1, gtag (h) a1 = none → (gtin (gtag (gnew (h) a1 20 441) a0) [8] = true ∧ (∀ a2, gtag (gsetR (gnew (h) a1 20 441) a0 0 (some a1)) a2 = none → (gtin (gtag (gnew (gsetR (gnew (h) a1 20 441) a0 0 (some a1)) a2 20 441) a0) [8] = true ∧ Q none (gsetR (gnew (gsetR (gnew (h) a1 20 441) a0 0 (some a1)) a2 20 441) a0 1 (some a2))))))
set_option maxHeartbeats 4000000 in
set_option maxRecDepth 100000 in
theorem t_Wrap_new {d n a0 : Nat} {h : gHp} {Q : Option gv → gHp → Prop} (hw : w_Wrap_new n h a0  Q) : gCall (d + 1) m_Wrap_new [.inr (some a0)] h Q := by
  unfold w_Wrap_new at hw
  refine g_enter (d := d + 0) (Nat.le_of_ble_eq_true rfl) ?_
  show gWP (gCall (d + 0)) m_Wrap_new Q 0 [some (.inr (some a0))] [] h 0 0
  refine w_aload_n rfl rfl ?_
  refine w_obj rfl rfl (Nat.le_of_ble_eq_true rfl) ?_
  refine w_aload_n rfl rfl ?_
  refine w_sipush (v := (441 : Int32)) rfl (by decide) ?_
  refine xw_newa (tg := 20) (N := 441) rfl rfl (by decide) (by decide) (Nat.le_of_ble_eq_true rfl) (Nat.le_of_ble_eq_true rfl) (Nat.le_of_ble_eq_true rfl) (fun a1 ha1 => ?_)
  have hw := hw a1 ha1
  obtain ⟨hg, hw⟩ := hw
  refine x_putR hg rfl rfl (by decide) ?_
  refine w_aload_n rfl rfl ?_
  refine w_sipush (v := (441 : Int32)) rfl (by decide) ?_
  refine xw_newa (tg := 20) (N := 441) rfl rfl (by decide) (by decide) (Nat.le_of_ble_eq_true rfl) (Nat.le_of_ble_eq_true rfl) (Nat.le_of_ble_eq_true rfl) (fun a2 ha2 => ?_)
  have hw := hw a2 ha2
  obtain ⟨hg, hw⟩ := hw
  refine x_putR hg rfl rfl (by decide) ?_
  exact w_return rfl rfl (Nat.le_of_ble_eq_true rfl) (Nat.le_of_ble_eq_true rfl) hw
def w_Writing_new (n : Nat) (h : gHp) (a0 : Nat) (x1 : Int32) (x2 : Int32) (Q : Option gv → gHp → Prop) : Prop := (w_Pane_new n (h) a0 (x1) (x2) (fun v h' => v = none ∧ (∀ a2, gtag (h') a2 = none → (gtin (gtag (gnew (h') a2 21 4) a0) [1, 6] = true ∧ (∀ a3, gtag (gsetR (gnew (h') a2 21 4) a0 11 (some a2)) a3 = none → (w_Line_new n (gnew (gsetR (gnew (h') a2 21 4) a0 11 (some a2)) a3 2 3) a3  (fun v h' => v = none ∧ (gtin (gtag (h') a0) [1, 6] = true ∧ Q none (gsetR (h') a0 12 (some a3))))))))))
set_option maxHeartbeats 4000000 in
set_option maxRecDepth 100000 in
theorem t_Writing_new {d n a0 : Nat} {h : gHp} {x1 : Int32} {x2 : Int32} {Q : Option gv → gHp → Prop} (hw : w_Writing_new n h a0 x1 x2 Q) : gCall (d + 2) m_Writing_new [.inr (some a0), .inl x1, .inl x2] h Q := by
  unfold w_Writing_new at hw
  refine g_enter (d := d + 1) (Nat.le_of_ble_eq_true rfl) ?_
  show gWP (gCall (d + 1)) m_Writing_new Q 0 [some (.inr (some a0)), some (.inl x1), some (.inl x2)] [] h 0 0
  refine w_aload_n rfl rfl ?_
  refine w_iload_n rfl rfl ?_
  refine w_iload_n rfl rfl ?_
  refine w_special [_, _] _ rfl rfl rfl rfl (Nat.le_of_ble_eq_true rfl) (Nat.le_of_ble_eq_true rfl) (Nat.le_of_ble_eq_true rfl) ((t_Pane_new (d := d + 0) hw).mono (fun v h' hv => ?_))
  obtain ⟨rfl, hw⟩ := hv
  refine w_aload_n rfl rfl ?_
  refine w_iconst (v := (4 : Int32)) rfl (by decide) ?_
  refine xw_newa (tg := 21) (N := 4) rfl rfl (by decide) (by decide) (Nat.le_of_ble_eq_true rfl) (Nat.le_of_ble_eq_true rfl) (Nat.le_of_ble_eq_true rfl) (fun a2 ha2 => ?_)
  have hw := hw a2 ha2
  obtain ⟨hg, hw⟩ := hw
  refine x_putR hg rfl rfl (by decide) ?_
  refine w_aload_n rfl rfl ?_
  refine xw_new (tg := 2) (n := 3) rfl rfl rfl rfl rfl (Nat.le_of_ble_eq_true rfl) (Nat.le_of_ble_eq_true rfl) (fun a3 ha3 => ?_)
  have hw := hw a3 ha3
  refine w_dup rfl ?_
  refine w_special [] _ rfl rfl rfl rfl (Nat.le_of_ble_eq_true rfl) (Nat.le_of_ble_eq_true rfl) (Nat.le_of_ble_eq_true rfl) ((t_Line_new (d := d + 0) hw).mono (fun v h' hv => ?_))
  obtain ⟨rfl, hw⟩ := hv
  obtain ⟨hg, hw⟩ := hw
  refine x_putR hg rfl rfl (by decide) ?_
  exact w_return rfl rfl (Nat.le_of_ble_eq_true rfl) (Nat.le_of_ble_eq_true rfl) hw
def w_Grid_new (n : Nat) (h : gHp) (a0 : Nat) (x1 : Int32) (Q : Option gv → gHp → Prop) : Prop := (w_Writing_new n (h) a0 (x1) ((2 : Int32)) (fun v h' => v = none ∧ (∀ a2, gtag (h') a2 = none → (gtin (gtag (gnew (h') a2 20 1440) a0) [1] = true ∧ (gtin (gtag (gsetR (gnew (h') a2 20 1440) a0 13 (some a2)) a0) [1] = true ∧ (∃ q3, f_Arrays_fill_2 n (gsetR (gnew (h') a2 20 1440) a0 13 (some a2)) (gref (gsetR (gnew (h') a2 20 1440) a0 13 (some a2)) a0 13) ((32 : Int32)) = some q3 ∧ Q none (q3)))))))
set_option maxHeartbeats 4000000 in
set_option maxRecDepth 100000 in
theorem t_Grid_new {d n a0 : Nat} {h : gHp} {x1 : Int32} {Q : Option gv → gHp → Prop} (hw : w_Grid_new n h a0 x1 Q) : gCall (d + 3) m_Grid_new [.inr (some a0), .inl x1] h Q := by
  unfold w_Grid_new at hw
  refine g_enter (d := d + 2) (Nat.le_of_ble_eq_true rfl) ?_
  show gWP (gCall (d + 2)) m_Grid_new Q 0 [some (.inr (some a0)), some (.inl x1)] [] h 0 0
  refine w_aload_n rfl rfl ?_
  refine w_iload_n rfl rfl ?_
  refine w_iconst (v := (2 : Int32)) rfl (by decide) ?_
  refine w_special [_, _] _ rfl rfl rfl rfl (Nat.le_of_ble_eq_true rfl) (Nat.le_of_ble_eq_true rfl) (Nat.le_of_ble_eq_true rfl) ((t_Writing_new (d := d + 0) hw).mono (fun v h' hv => ?_))
  obtain ⟨rfl, hw⟩ := hv
  refine w_aload_n rfl rfl ?_
  refine w_sipush (v := (1440 : Int32)) rfl (by decide) ?_
  refine xw_newa (tg := 20) (N := 1440) rfl rfl (by decide) (by decide) (Nat.le_of_ble_eq_true rfl) (Nat.le_of_ble_eq_true rfl) (Nat.le_of_ble_eq_true rfl) (fun a2 ha2 => ?_)
  have hw := hw a2 ha2
  obtain ⟨hg, hw⟩ := hw
  refine x_putR hg rfl rfl (by decide) ?_
  refine w_aload_n rfl rfl ?_
  obtain ⟨hg, hw⟩ := hw
  refine x_getR hg rfl rfl rfl ?_
  refine w_bipush (v := (32 : Int32)) rfl (by decide) ?_
  obtain ⟨q3, hc, hw⟩ := hw
  refine w_static [_, _] _ rfl rfl rfl rfl (Nat.le_of_ble_eq_true rfl) (Nat.le_of_ble_eq_true rfl) (Nat.le_of_ble_eq_true rfl) (t_Arrays_fill_2 (d := d + 1) hc ?_)
  exact w_return rfl rfl (Nat.le_of_ble_eq_true rfl) (Nat.le_of_ble_eq_true rfl) hw
def w_Text_new (n : Nat) (h : gHp) (a0 : Nat) (x1 : Int32) (Q : Option gv → gHp → Prop) : Prop := (w_Writing_new n (h) a0 (x1) ((1 : Int32)) (fun v h' => v = none ∧ (∀ a2, gtag (h') a2 = none → (gtin (gtag (gnew (h') a2 20 400) a0) [6] = true ∧ (∀ a3, gtag (gsetR (gnew (h') a2 20 400) a0 13 (some a2)) a3 = none → (w_Wrap_new n (gnew (gsetR (gnew (h') a2 20 400) a0 13 (some a2)) a3 8 3) a3  (fun v h' => v = none ∧ (gtin (gtag (h') a0) [6] = true ∧ Q none (gsetR (h') a0 15 (some a3))))))))))
set_option maxHeartbeats 4000000 in
set_option maxRecDepth 100000 in
theorem t_Text_new {d n a0 : Nat} {h : gHp} {x1 : Int32} {Q : Option gv → gHp → Prop} (hw : w_Text_new n h a0 x1 Q) : gCall (d + 3) m_Text_new [.inr (some a0), .inl x1] h Q := by
  unfold w_Text_new at hw
  refine g_enter (d := d + 2) (Nat.le_of_ble_eq_true rfl) ?_
  show gWP (gCall (d + 2)) m_Text_new Q 0 [some (.inr (some a0)), some (.inl x1)] [] h 0 0
  refine w_aload_n rfl rfl ?_
  refine w_iload_n rfl rfl ?_
  refine w_iconst (v := (1 : Int32)) rfl (by decide) ?_
  refine w_special [_, _] _ rfl rfl rfl rfl (Nat.le_of_ble_eq_true rfl) (Nat.le_of_ble_eq_true rfl) (Nat.le_of_ble_eq_true rfl) ((t_Writing_new (d := d + 0) hw).mono (fun v h' hv => ?_))
  obtain ⟨rfl, hw⟩ := hv
  refine w_aload_n rfl rfl ?_
  refine w_sipush (v := (400 : Int32)) rfl (by decide) ?_
  refine xw_newa (tg := 20) (N := 400) rfl rfl (by decide) (by decide) (Nat.le_of_ble_eq_true rfl) (Nat.le_of_ble_eq_true rfl) (Nat.le_of_ble_eq_true rfl) (fun a2 ha2 => ?_)
  have hw := hw a2 ha2
  obtain ⟨hg, hw⟩ := hw
  refine x_putR hg rfl rfl (by decide) ?_
  refine w_aload_n rfl rfl ?_
  refine xw_new (tg := 8) (n := 3) rfl rfl rfl rfl rfl (Nat.le_of_ble_eq_true rfl) (Nat.le_of_ble_eq_true rfl) (fun a3 ha3 => ?_)
  have hw := hw a3 ha3
  refine w_dup rfl ?_
  refine w_special [] _ rfl rfl rfl rfl (Nat.le_of_ble_eq_true rfl) (Nat.le_of_ble_eq_true rfl) (Nat.le_of_ble_eq_true rfl) ((t_Wrap_new (d := d + 1) hw).mono (fun v h' hv => ?_))
  obtain ⟨rfl, hw⟩ := hv
  obtain ⟨hg, hw⟩ := hw
  refine x_putR hg rfl rfl (by decide) ?_
  exact w_return rfl rfl (Nat.le_of_ble_eq_true rfl) (Nat.le_of_ble_eq_true rfl) hw
def w_Events_new (n : Nat) (h : gHp) (a0 : Nat) (Q : Option gv → gHp → Prop) : Prop := (∀ a1, (∀ i, i ≤ 20 → gtag (h) (a1 + i) = none) → (gtin (gtag (gnew2 (h) a1 20 44) a0) [0] = true ∧ (∀ a2, gtag (gsetR (gnew2 (h) a1 20 44) a0 0 (some a1)) a2 = none → (gtin (gtag (gnew (gsetR (gnew2 (h) a1 20 44) a0 0 (some a1)) a2 20 44) a0) [0] = true ∧ Q none (gsetR (gnew (gsetR (gnew2 (h) a1 20 44) a0 0 (some a1)) a2 20 44) a0 1 (some a2))))))
set_option maxHeartbeats 4000000 in
set_option maxRecDepth 100000 in
theorem t_Events_new {d n a0 : Nat} {h : gHp} {Q : Option gv → gHp → Prop} (hw : w_Events_new n h a0  Q) : gCall (d + 1) m_Events_new [.inr (some a0)] h Q := by
  unfold w_Events_new at hw
  refine g_enter (d := d + 0) (Nat.le_of_ble_eq_true rfl) ?_
  show gWP (gCall (d + 0)) m_Events_new Q 0 [some (.inr (some a0))] [] h 0 0
  refine w_aload_n rfl rfl ?_
  refine w_obj rfl rfl (Nat.le_of_ble_eq_true rfl) ?_
  refine w_aload_n rfl rfl ?_
  refine w_bipush (v := (20 : Int32)) rfl (by decide) ?_
  refine w_bipush (v := (44 : Int32)) rfl (by decide) ?_
  refine xw_multi (N := 20) (M := 44) rfl rfl (by decide) (by decide) (by decide) (by decide) (Nat.le_of_ble_eq_true rfl) (Nat.le_of_ble_eq_true rfl) (Nat.le_of_ble_eq_true rfl) (Nat.le_of_ble_eq_true rfl) (fun a1 ha1 => ?_)
  have hw := hw a1 ha1
  obtain ⟨hg, hw⟩ := hw
  refine x_putR hg rfl rfl (by decide) ?_
  refine w_aload_n rfl rfl ?_
  refine w_bipush (v := (44 : Int32)) rfl (by decide) ?_
  refine xw_newa (tg := 20) (N := 44) rfl rfl (by decide) (by decide) (Nat.le_of_ble_eq_true rfl) (Nat.le_of_ble_eq_true rfl) (Nat.le_of_ble_eq_true rfl) (fun a2 ha2 => ?_)
  have hw := hw a2 ha2
  obtain ⟨hg, hw⟩ := hw
  refine x_putR hg rfl rfl (by decide) ?_
  exact w_return rfl rfl (Nat.le_of_ble_eq_true rfl) (Nat.le_of_ble_eq_true rfl) hw
def w_Tree_new (n : Nat) (h : gHp) (a0 : Nat) (x1 : Int32) (x2 : Int32) (Q : Option gv → gHp → Prop) : Prop := (∀ a1, gtag (h) a1 = none → (gtin (gtag (gnew (h) a1 22 61) a0) [7] = true ∧ (∃ q2, (bif gtis (gtag (gsetR (gnew (h) a1 22 61) a0 0 (some a1)) a0) 7 then f_Tree_setScreen n (gsetR (gnew (h) a1 22 61) a0 0 (some a1)) a0 (x1) (x2) else none) = some q2 ∧ Q none (q2))))
set_option maxHeartbeats 4000000 in
set_option maxRecDepth 100000 in
theorem t_Tree_new {d n a0 : Nat} {h : gHp} {x1 : Int32} {x2 : Int32} {Q : Option gv → gHp → Prop} (hw : w_Tree_new n h a0 x1 x2 Q) : gCall (d + 2) m_Tree_new [.inr (some a0), .inl x1, .inl x2] h Q := by
  unfold w_Tree_new at hw
  refine g_enter (d := d + 1) (Nat.le_of_ble_eq_true rfl) ?_
  show gWP (gCall (d + 1)) m_Tree_new Q 0 [some (.inr (some a0)), some (.inl x1), some (.inl x2)] [] h 0 0
  refine w_aload_n rfl rfl ?_
  refine w_obj rfl rfl (Nat.le_of_ble_eq_true rfl) ?_
  refine w_aload_n rfl rfl ?_
  refine w_bipush (v := (61 : Int32)) rfl (by decide) ?_
  refine xw_newq (N := 61) rfl rfl (by decide) (by decide) (Nat.le_of_ble_eq_true rfl) (Nat.le_of_ble_eq_true rfl) (Nat.le_of_ble_eq_true rfl) (fun a1 ha1 => ?_)
  have hw := hw a1 ha1
  obtain ⟨hg, hw⟩ := hw
  refine x_putR hg rfl rfl (by decide) ?_
  refine w_aload_n rfl rfl ?_
  refine w_iload_n rfl rfl ?_
  refine w_iload_n rfl rfl ?_
  obtain ⟨q2, hc, hw⟩ := hw
  obtain ⟨hg, hc⟩ := g_guard hc
  refine x_virt 7 [_, _] _ hg rfl rfl rfl rfl (Nat.le_of_ble_eq_true rfl) rfl (Nat.le_of_ble_eq_true rfl) (Nat.le_of_ble_eq_true rfl) (t_Tree_setScreen (d := d + 0) hc ?_)
  exact w_return rfl rfl (Nat.le_of_ble_eq_true rfl) (Nat.le_of_ble_eq_true rfl) hw
def w_G_new (n : Nat) (h : gHp) (a0 : Nat) (x1 : Int32) (x2 : Int32) (Q : Option gv → gHp → Prop) : Prop := (∀ a1, gtag (h) a1 = none → (w_Events_new n (gnew (h) a1 0 5) a1  (fun v h' => v = none ∧ (gtin (gtag (h') a0) [9] = true ∧ (∀ a3, gtag (gsetR (h') a0 1 (some a1)) a3 = none → (w_Tree_new n (gnew (gsetR (h') a0 1 (some a1)) a3 7 5) a3 (x1) (x2) (fun v h' => v = none ∧ (gtin (gtag (h') a0) [9] = true ∧ Q none (gsetR (h') a0 0 (some a3))))))))))
set_option maxHeartbeats 4000000 in
set_option maxRecDepth 100000 in
theorem t_G_new {d n a0 : Nat} {h : gHp} {x1 : Int32} {x2 : Int32} {Q : Option gv → gHp → Prop} (hw : w_G_new n h a0 x1 x2 Q) : gCall (d + 3) m_G_new [.inr (some a0), .inl x1, .inl x2] h Q := by
  unfold w_G_new at hw
  refine g_enter (d := d + 2) (Nat.le_of_ble_eq_true rfl) ?_
  show gWP (gCall (d + 2)) m_G_new Q 0 [some (.inr (some a0)), some (.inl x1), some (.inl x2)] [] h 0 0
  refine w_aload_n rfl rfl ?_
  refine w_obj rfl rfl (Nat.le_of_ble_eq_true rfl) ?_
  refine w_aload_n rfl rfl ?_
  refine xw_new (tg := 0) (n := 5) rfl rfl rfl rfl rfl (Nat.le_of_ble_eq_true rfl) (Nat.le_of_ble_eq_true rfl) (fun a1 ha1 => ?_)
  have hw := hw a1 ha1
  refine w_dup rfl ?_
  refine w_special [] _ rfl rfl rfl rfl (Nat.le_of_ble_eq_true rfl) (Nat.le_of_ble_eq_true rfl) (Nat.le_of_ble_eq_true rfl) ((t_Events_new (d := d + 1) hw).mono (fun v h' hv => ?_))
  obtain ⟨rfl, hw⟩ := hv
  obtain ⟨hg, hw⟩ := hw
  refine x_putR hg rfl rfl (by decide) ?_
  refine w_aload_n rfl rfl ?_
  refine xw_new (tg := 7) (n := 5) rfl rfl rfl rfl rfl (Nat.le_of_ble_eq_true rfl) (Nat.le_of_ble_eq_true rfl) (fun a3 ha3 => ?_)
  have hw := hw a3 ha3
  refine w_dup rfl ?_
  refine w_iload_n rfl rfl ?_
  refine w_iload_n rfl rfl ?_
  refine w_special [_, _] _ rfl rfl rfl rfl (Nat.le_of_ble_eq_true rfl) (Nat.le_of_ble_eq_true rfl) (Nat.le_of_ble_eq_true rfl) ((t_Tree_new (d := d + 0) hw).mono (fun v h' hv => ?_))
  obtain ⟨rfl, hw⟩ := hv
  obtain ⟨hg, hw⟩ := hw
  refine x_putR hg rfl rfl (by decide) ?_
  exact w_return rfl rfl (Nat.le_of_ble_eq_true rfl) (Nat.le_of_ble_eq_true rfl) hw
def w_Tree_newLeaf (n : Nat) (h : gHp) (x0 : Int32) (x1 : Int32) (Q : Option gv → gHp → Prop) : Prop := ((x1 = (1 : Int32) → (∀ a2, gtag (h) a2 = none → (w_Text_new n (gnew (h) a2 6 16) a2 (x0) (fun v h' => v = none ∧ Q (some (.inr (some a2))) (h'))))) ∧ (¬ (x1 = (1 : Int32)) → ((x1 = (2 : Int32) → (∀ a3, gtag (h) a3 = none → (w_Grid_new n (gnew (h) a3 1 16) a3 (x0) (fun v h' => v = none ∧ Q (some (.inr (some a3))) (h'))))) ∧ (¬ (x1 = (2 : Int32)) → ((x1 = (3 : Int32) → (∀ a4, gtag (h) a4 = none → (w_Picture_new n (gnew (h) a4 5 12) a4 (x0) (fun v h' => v = none ∧ Q (some (.inr (some a4))) (h'))))) ∧ (¬ (x1 = (3 : Int32)) → (∀ a4, gtag (h) a4 = none → (w_Pane_new n (gnew (h) a4 4 11) a4 (x0) ((0 : Int32)) (fun v h' => v = none ∧ Q (some (.inr (some a4))) (h'))))))))))
set_option maxHeartbeats 4000000 in
set_option maxRecDepth 100000 in
theorem t_Tree_newLeaf {d n : Nat} {h : gHp} {x0 : Int32} {x1 : Int32} {Q : Option gv → gHp → Prop} (hw : w_Tree_newLeaf n h x0 x1 Q) : gCall (d + 4) m_Tree_newLeaf [.inl x0, .inl x1] h Q := by
  unfold w_Tree_newLeaf at hw
  refine g_enter (d := d + 3) (Nat.le_of_ble_eq_true rfl) ?_
  show gWP (gCall (d + 3)) m_Tree_newLeaf Q 0 [some (.inl x0), some (.inl x1)] [] h 0 0
  refine w_iload_n rfl rfl ?_
  by_cases c1 : x1 = (1 : Int32)
  · have hw := hw.1 c1
    refine w_tswIn (t := 28) c1 rfl (by decide) (by decide) rfl (by decide) ?_
    refine xw_new (tg := 6) (n := 16) rfl rfl rfl rfl rfl (Nat.le_of_ble_eq_true rfl) (Nat.le_of_ble_eq_true rfl) (fun a2 ha2 => ?_)
    have hw := hw a2 ha2
    refine w_dup rfl ?_
    refine w_iload_n rfl rfl ?_
    refine w_special [_] _ rfl rfl rfl rfl (Nat.le_of_ble_eq_true rfl) (Nat.le_of_ble_eq_true rfl) (Nat.le_of_ble_eq_true rfl) ((t_Text_new (d := d + 0) hw).mono (fun v h' hv => ?_))
    obtain ⟨rfl, hw⟩ := hv
    exact w_areturn rfl ⟨_, rfl, rfl⟩ (Nat.le_of_ble_eq_true rfl) (Nat.le_of_ble_eq_true rfl) hw
  have hw := hw.2 c1
  by_cases c2 : x1 = (2 : Int32)
  · have hw := hw.1 c2
    refine w_tswIn (t := 37) c2 rfl (by decide) (by decide) rfl (by decide) ?_
    refine xw_new (tg := 1) (n := 16) rfl rfl rfl rfl rfl (Nat.le_of_ble_eq_true rfl) (Nat.le_of_ble_eq_true rfl) (fun a3 ha3 => ?_)
    have hw := hw a3 ha3
    refine w_dup rfl ?_
    refine w_iload_n rfl rfl ?_
    refine w_special [_] _ rfl rfl rfl rfl (Nat.le_of_ble_eq_true rfl) (Nat.le_of_ble_eq_true rfl) (Nat.le_of_ble_eq_true rfl) ((t_Grid_new (d := d + 0) hw).mono (fun v h' hv => ?_))
    obtain ⟨rfl, hw⟩ := hv
    exact w_areturn rfl ⟨_, rfl, rfl⟩ (Nat.le_of_ble_eq_true rfl) (Nat.le_of_ble_eq_true rfl) hw
  have hw := hw.2 c2
  by_cases c3 : x1 = (3 : Int32)
  · have hw := hw.1 c3
    refine w_tswIn (t := 46) c3 rfl (by decide) (by decide) rfl (by decide) ?_
    refine xw_new (tg := 5) (n := 12) rfl rfl rfl rfl rfl (Nat.le_of_ble_eq_true rfl) (Nat.le_of_ble_eq_true rfl) (fun a4 ha4 => ?_)
    have hw := hw a4 ha4
    refine w_dup rfl ?_
    refine w_iload_n rfl rfl ?_
    refine w_special [_] _ rfl rfl rfl rfl (Nat.le_of_ble_eq_true rfl) (Nat.le_of_ble_eq_true rfl) (Nat.le_of_ble_eq_true rfl) ((t_Picture_new (d := d + 1) hw).mono (fun v h' hv => ?_))
    obtain ⟨rfl, hw⟩ := hv
    exact w_areturn rfl ⟨_, rfl, rfl⟩ (Nat.le_of_ble_eq_true rfl) (Nat.le_of_ble_eq_true rfl) hw
  have hw := hw.2 c3
  refine w_tswOut (t := 55) rfl (g_out_1_3 c1 c2 c3) (by decide) ?_
  refine xw_new (tg := 4) (n := 11) rfl rfl rfl rfl rfl (Nat.le_of_ble_eq_true rfl) (Nat.le_of_ble_eq_true rfl) (fun a4 ha4 => ?_)
  have hw := hw a4 ha4
  refine w_dup rfl ?_
  refine w_iload_n rfl rfl ?_
  refine w_iconst (v := (0 : Int32)) rfl (by decide) ?_
  refine w_special [_, _] _ rfl rfl rfl rfl (Nat.le_of_ble_eq_true rfl) (Nat.le_of_ble_eq_true rfl) (Nat.le_of_ble_eq_true rfl) ((t_Pane_new (d := d + 2) hw).mono (fun v h' hv => ?_))
  obtain ⟨rfl, hw⟩ := hv
  exact w_areturn rfl ⟨_, rfl, rfl⟩ (Nat.le_of_ble_eq_true rfl) (Nat.le_of_ble_eq_true rfl) hw
def w_Tree_addTop (n : Nat) (h : gHp) (a0 : Nat) (x1 : Int32) (Q : Option gv → gHp → Prop) : Prop := (gtin (gtag (h) a0) [7] = true ∧ (w_Tree_newLeaf n (h) ((gint (h) a0 1) + (1 : Int32)) (x1) (fun v h' => ∃ q1, v = some (.inr q1) ∧ (∃ q2, (bif gtis (gtag (h') a0) 7 then f_Tree_enter n (h') a0 (q1) else none) = some q2 ∧ (gtin (gtag (q2) a0) [7] = true ∧ (∃ q3, (bif gtis (gtag (gsetR (q2) a0 2 (q1)) a0) 7 then f_Tree_layOut n (gsetR (q2) a0 2 (q1)) a0  else none) = some q3 ∧ (∃ b4, q1 = some b4 ∧ (gtin (gtag (q3.2) b4) [1, 3, 4, 5, 6] = true ∧ Q (some (.inl (gint (q3.2) b4 0))) (q3.2)))))))))
set_option maxHeartbeats 4000000 in
set_option maxRecDepth 100000 in
theorem t_Tree_addTop {d n a0 : Nat} {h : gHp} {x1 : Int32} {Q : Option gv → gHp → Prop} (hw : w_Tree_addTop n h a0 x1 Q) : gCall (d + 52) m_Tree_addTop [.inr (some a0), .inl x1] h Q := by
  unfold w_Tree_addTop at hw
  refine g_enter (d := d + 51) (Nat.le_of_ble_eq_true rfl) ?_
  show gWP (gCall (d + 51)) m_Tree_addTop Q 0 [some (.inr (some a0)), some (.inl x1), none] [] h 0 0
  refine w_aload_n rfl rfl ?_
  obtain ⟨hg, hw⟩ := hw
  refine x_getI hg rfl rfl rfl ?_
  refine w_iconst (v := (1 : Int32)) rfl (by decide) ?_
  refine w_iadd rfl ?_
  refine w_iload_n rfl rfl ?_
  refine w_static [_, _] _ rfl rfl rfl rfl (Nat.le_of_ble_eq_true rfl) (Nat.le_of_ble_eq_true rfl) (Nat.le_of_ble_eq_true rfl) ((t_Tree_newLeaf (d := d + 47) hw).mono (fun v h' hv => ?_))
  obtain ⟨q1, rfl, hw⟩ := hv
  refine w_astore_n rfl (Nat.le_of_ble_eq_true rfl) rfl ?_
  refine w_aload_n rfl rfl ?_
  refine w_aload_n rfl rfl ?_
  obtain ⟨q2, hc, hw⟩ := hw
  obtain ⟨hg, hc⟩ := g_guard hc
  refine x_virt 7 [_] _ hg rfl rfl rfl rfl (Nat.le_of_ble_eq_true rfl) rfl (Nat.le_of_ble_eq_true rfl) (Nat.le_of_ble_eq_true rfl) (t_Tree_enter (d := d + 50) hc ?_)
  refine w_aload_n rfl rfl ?_
  refine w_aload_n rfl rfl ?_
  obtain ⟨hg, hw⟩ := hw
  refine x_putR hg rfl rfl (by decide) ?_
  refine w_aload_n rfl rfl ?_
  obtain ⟨q3, hc, hw⟩ := hw
  obtain ⟨hg, hc⟩ := g_guard hc
  refine x_virt 7 [] _ hg rfl rfl rfl rfl (Nat.le_of_ble_eq_true rfl) rfl (Nat.le_of_ble_eq_true rfl) (Nat.le_of_ble_eq_true rfl) (t_Tree_layOut (d := d + 0) hc ?_)
  refine w_pop rfl ?_
  refine w_aload_n rfl rfl ?_
  obtain ⟨b4, ho, hw⟩ := hw
  refine x_dr0 ho ?_
  obtain ⟨hg, hw⟩ := hw
  refine x_getI hg rfl rfl rfl ?_
  exact w_ireturn rfl (int_ret _) (Nat.le_of_ble_eq_true rfl) (Nat.le_of_ble_eq_true rfl) hw
def w_Tree_split (n : Nat) (h : gHp) (a0 : Nat) (x1 : Option Nat) (x2 : Int32) (x3 : Int32) (x4 : Int32) (Q : Option gv → gHp → Prop) : Prop := (gtin (gtag (h) a0) [7] = true ∧ (w_Tree_newLeaf n (h) ((gint (h) a0 1) + (1 : Int32)) (x4) (fun v h' => ∃ q1, v = some (.inr q1) ∧ (∀ a2, gtag (h') a2 = none → (gtin (gtag (gnew (h') a2 3 16) a0) [7] = true ∧ (w_Pair_new n (gnew (h') a2 3 16) a2 ((gint (gnew (h') a2 3 16) a0 1) + (2 : Int32)) (x2) (x3) (q1) (fun v h' => v = none ∧ (∃ q4, (bif gtis (gtag (h') a0) 7 then f_Tree_enter n (h') a0 (q1) else none) = some q4 ∧ (∃ q5, (bif gtis (gtag (q4) a0) 7 then f_Tree_enter n (q4) a0 (some a2) else none) = some q5 ∧ (∃ q6, (bif gtis (gtag (q5) a0) 7 then f_Tree_replace n (q5) a0 (x1) (some a2) else none) = some q6 ∧ (∃ q7, (bif gtis (gtag (q6) a2) 3 then f_Pair_join n (q6) a2 (q1) (x1) else none) = some q7 ∧ (∃ b8, q1 = some b8 ∧ (gtin (gtag (q7) b8) [1, 3, 4, 5, 6] = true ∧ (∃ b9, x1 = some b9 ∧ (gtin (gtag (gsetR (q7) b8 2 (some a2)) b9) [1, 3, 4, 5, 6] = true ∧ (∃ q10, (bif gtis (gtag (gsetR (gsetR (q7) b8 2 (some a2)) b9 2 (some a2)) a0) 7 then f_Tree_layOut n (gsetR (gsetR (q7) b8 2 (some a2)) b9 2 (some a2)) a0  else none) = some q10 ∧ (∃ b11, q1 = some b11 ∧ (gtin (gtag (q10.2) b11) [1, 3, 4, 5, 6] = true ∧ Q (some (.inl (gint (q10.2) b11 0))) (q10.2)))))))))))))))))))
set_option maxHeartbeats 4000000 in
set_option maxRecDepth 100000 in
theorem t_Tree_split {d n a0 : Nat} {h : gHp} {x1 : Option Nat} {x2 : Int32} {x3 : Int32} {x4 : Int32} {Q : Option gv → gHp → Prop} (hw : w_Tree_split n h a0 x1 x2 x3 x4 Q) : gCall (d + 52) m_Tree_split [.inr (some a0), .inr x1, .inl x2, .inl x3, .inl x4] h Q := by
  unfold w_Tree_split at hw
  refine g_enter (d := d + 51) (Nat.le_of_ble_eq_true rfl) ?_
  show gWP (gCall (d + 51)) m_Tree_split Q 0 [some (.inr (some a0)), some (.inr x1), some (.inl x2), some (.inl x3), some (.inl x4), none, none] [] h 0 0
  refine w_aload_n rfl rfl ?_
  obtain ⟨hg, hw⟩ := hw
  refine x_getI hg rfl rfl rfl ?_
  refine w_iconst (v := (1 : Int32)) rfl (by decide) ?_
  refine w_iadd rfl ?_
  refine w_iload rfl rfl ?_
  refine w_static [_, _] _ rfl rfl rfl rfl (Nat.le_of_ble_eq_true rfl) (Nat.le_of_ble_eq_true rfl) (Nat.le_of_ble_eq_true rfl) ((t_Tree_newLeaf (d := d + 47) hw).mono (fun v h' hv => ?_))
  obtain ⟨q1, rfl, hw⟩ := hv
  refine w_astore rfl (Nat.le_of_ble_eq_true rfl) rfl ?_
  refine xw_new (tg := 3) (n := 16) rfl rfl rfl rfl rfl (Nat.le_of_ble_eq_true rfl) (Nat.le_of_ble_eq_true rfl) (fun a2 ha2 => ?_)
  have hw := hw a2 ha2
  refine w_dup rfl ?_
  refine w_aload_n rfl rfl ?_
  obtain ⟨hg, hw⟩ := hw
  refine x_getI hg rfl rfl rfl ?_
  refine w_iconst (v := (2 : Int32)) rfl (by decide) ?_
  refine w_iadd rfl ?_
  refine w_iload_n rfl rfl ?_
  refine w_iload_n rfl rfl ?_
  refine w_aload rfl rfl ?_
  refine w_special [_, _, _, _] _ rfl rfl rfl rfl (Nat.le_of_ble_eq_true rfl) (Nat.le_of_ble_eq_true rfl) (Nat.le_of_ble_eq_true rfl) ((t_Pair_new (d := d + 49) hw).mono (fun v h' hv => ?_))
  obtain ⟨rfl, hw⟩ := hv
  refine w_astore rfl (Nat.le_of_ble_eq_true rfl) rfl ?_
  refine w_aload_n rfl rfl ?_
  refine w_aload rfl rfl ?_
  obtain ⟨q4, hc, hw⟩ := hw
  obtain ⟨hg, hc⟩ := g_guard hc
  refine x_virt 7 [_] _ hg rfl rfl rfl rfl (Nat.le_of_ble_eq_true rfl) rfl (Nat.le_of_ble_eq_true rfl) (Nat.le_of_ble_eq_true rfl) (t_Tree_enter (d := d + 50) hc ?_)
  refine w_aload_n rfl rfl ?_
  refine w_aload rfl rfl ?_
  obtain ⟨q5, hc, hw⟩ := hw
  obtain ⟨hg, hc⟩ := g_guard hc
  refine x_virt 7 [_] _ hg rfl rfl rfl rfl (Nat.le_of_ble_eq_true rfl) rfl (Nat.le_of_ble_eq_true rfl) (Nat.le_of_ble_eq_true rfl) (t_Tree_enter (d := d + 50) hc ?_)
  refine w_aload_n rfl rfl ?_
  refine w_aload_n rfl rfl ?_
  refine w_aload rfl rfl ?_
  obtain ⟨q6, hc, hw⟩ := hw
  obtain ⟨hg, hc⟩ := g_guard hc
  refine x_virt 7 [_, _] _ hg rfl rfl rfl rfl (Nat.le_of_ble_eq_true rfl) rfl (Nat.le_of_ble_eq_true rfl) (Nat.le_of_ble_eq_true rfl) (t_Tree_replace (d := d + 50) hc ?_)
  refine w_aload rfl rfl ?_
  refine w_aload rfl rfl ?_
  refine w_aload_n rfl rfl ?_
  obtain ⟨q7, hc, hw⟩ := hw
  obtain ⟨hg, hc⟩ := g_guard hc
  refine x_virt 3 [_, _] _ hg rfl rfl rfl rfl (Nat.le_of_ble_eq_true rfl) rfl (Nat.le_of_ble_eq_true rfl) (Nat.le_of_ble_eq_true rfl) (t_Pair_join (d := d + 49) hc ?_)
  refine w_aload rfl rfl ?_
  refine w_aload rfl rfl ?_
  obtain ⟨b8, ho, hw⟩ := hw
  refine x_dr1 ho ?_
  obtain ⟨hg, hw⟩ := hw
  refine x_putR hg rfl rfl (by decide) ?_
  refine w_aload_n rfl rfl ?_
  refine w_aload rfl rfl ?_
  obtain ⟨b9, ho, hw⟩ := hw
  refine x_dr1 ho ?_
  obtain ⟨hg, hw⟩ := hw
  refine x_putR hg rfl rfl (by decide) ?_
  refine w_aload_n rfl rfl ?_
  obtain ⟨q10, hc, hw⟩ := hw
  obtain ⟨hg, hc⟩ := g_guard hc
  refine x_virt 7 [] _ hg rfl rfl rfl rfl (Nat.le_of_ble_eq_true rfl) rfl (Nat.le_of_ble_eq_true rfl) (Nat.le_of_ble_eq_true rfl) (t_Tree_layOut (d := d + 0) hc ?_)
  refine w_pop rfl ?_
  refine w_aload rfl rfl ?_
  obtain ⟨b11, ho, hw⟩ := hw
  refine x_dr0 ho ?_
  obtain ⟨hg, hw⟩ := hw
  refine x_getI hg rfl rfl rfl ?_
  exact w_ireturn rfl (int_ret _) (Nat.le_of_ble_eq_true rfl) (Nat.le_of_ble_eq_true rfl) hw
def w_G_openTop (n : Nat) (h : gHp) (a0 : Nat) (x1 : Int32) (Q : Option gv → gHp → Prop) : Prop := (gtin (gtag (h) a0) [9] = true ∧ (∃ b1, (gref (h) a0 0) = some b1 ∧ (gtin (gtag (h) b1) [7] = true ∧ (((gref (h) b1 2) = none → (gtin (gtag (h) a0) [9] = true ∧ (∃ b3, (gref (h) a0 0) = some b3 ∧ (∃ q4, (bif gtis (gtag (h) b3) 7 then f_Tree_hasRoomFor n (h) b3 ((1 : Int32)) else none) = some q4 ∧ ((q4.1 = (0 : Int32) → Q (some (.inl ((-4 : Int32)))) (q4.2)) ∧ (¬ (q4.1 = (0 : Int32)) → (gtin (gtag (q4.2) a0) [9] = true ∧ (∃ b6, (gref (q4.2) a0 0) = some b6 ∧ ((gtis (gtag (q4.2) b6) 7 = true ∧ w_Tree_addTop n (q4.2) b6 (x1) (fun v h' => ∃ q7, v = some (.inl q7) ∧ Q (some (.inl (q7))) (h')))))))))))) ∧ (¬ ((gref (h) b1 2) = none) → Q (some (.inl ((-3 : Int32)))) (h))))))
set_option maxHeartbeats 4000000 in
set_option maxRecDepth 100000 in
theorem t_G_openTop {d n a0 : Nat} {h : gHp} {x1 : Int32} {Q : Option gv → gHp → Prop} (hw : w_G_openTop n h a0 x1 Q) : gCall (d + 53) m_G_openTop [.inr (some a0), .inl x1] h Q := by
  unfold w_G_openTop at hw
  refine g_enter (d := d + 52) (Nat.le_of_ble_eq_true rfl) ?_
  show gWP (gCall (d + 52)) m_G_openTop Q 0 [some (.inr (some a0)), some (.inl x1)] [] h 0 0
  refine w_aload_n rfl rfl ?_
  obtain ⟨hg, hw⟩ := hw
  refine x_getR hg rfl rfl rfl ?_
  obtain ⟨b1, ho, hw⟩ := hw
  refine x_dr0 ho ?_
  obtain ⟨hg, hw⟩ := hw
  refine x_getR hg rfl rfl rfl ?_
  refine w_ifnull (t := 13) rfl (by decide) (fun c2 => ?_) (fun c2 => ?_)
  · have c2 : (gref (h) b1 2) = none := c2
    have hw := hw.1 c2
    refine w_aload_n rfl rfl ?_
    obtain ⟨hg, hw⟩ := hw
    refine x_getR hg rfl rfl rfl ?_
    refine w_iconst (v := (1 : Int32)) rfl (by decide) ?_
    obtain ⟨b3, ho, hw⟩ := hw
    refine x_dr1 ho ?_
    obtain ⟨q4, hc, hw⟩ := hw
    obtain ⟨hg, hc⟩ := g_guard hc
    refine x_virt 7 [_] _ hg rfl rfl rfl rfl (Nat.le_of_ble_eq_true rfl) rfl (Nat.le_of_ble_eq_true rfl) (Nat.le_of_ble_eq_true rfl) (t_Tree_hasRoomFor (d := d + 50) hc ?_)
    refine w_if (t := 35) rfl (by decide) (fun c5 => ?_) (fun c5 => ?_)
    · have c5 : q4.1 = (0 : Int32) := c5
      have hw := hw.1 c5
      refine w_bipush (v := (-4 : Int32)) rfl (by decide) ?_
      exact w_ireturn rfl (int_ret _) (Nat.le_of_ble_eq_true rfl) (Nat.le_of_ble_eq_true rfl) hw
    · have c5 : ¬ (q4.1 = (0 : Int32)) := c5
      have hw := hw.2 c5
      refine w_aload_n rfl rfl ?_
      obtain ⟨hg, hw⟩ := hw
      refine x_getR hg rfl rfl rfl ?_
      refine w_iload_n rfl rfl ?_
      obtain ⟨b6, ho, hw⟩ := hw
      refine x_dr1 ho ?_
      obtain ⟨hg, hw⟩ := hw
      refine x_virt 7 [_] _ hg rfl rfl rfl rfl (Nat.le_of_ble_eq_true rfl) rfl (Nat.le_of_ble_eq_true rfl) (Nat.le_of_ble_eq_true rfl) ((t_Tree_addTop (d := d + 0) hw).mono (fun v h' hv => ?_))
      obtain ⟨q7, rfl, hw⟩ := hv
      refine w_goto (t := 37) rfl (by decide) ?_
      exact w_ireturn rfl (int_ret _) (Nat.le_of_ble_eq_true rfl) (Nat.le_of_ble_eq_true rfl) hw
  · have c2 : ¬ ((gref (h) b1 2) = none) := c2
    have hw := hw.2 c2
    refine w_bipush (v := (-3 : Int32)) rfl (by decide) ?_
    exact w_ireturn rfl (int_ret _) (Nat.le_of_ble_eq_true rfl) (Nat.le_of_ble_eq_true rfl) hw
def w_G_open (n : Nat) (h : gHp) (a0 : Nat) (x1 : Int32) (x2 : Int32) (x3 : Int32) (x4 : Int32) (Q : Option gv → gHp → Prop) : Prop := ((x4 < (0 : Int32) → Q (some (.inl ((-1 : Int32)))) (h)) ∧ (¬ (x4 < (0 : Int32)) → ((x4 ≤ (3 : Int32) → ((x1 = (0 : Int32) → ((gtis (gtag (h) a0) 9 = true ∧ w_G_openTop n (h) a0 (x4) (fun v h' => ∃ q4, v = some (.inl q4) ∧ Q (some (.inl (q4))) (h'))))) ∧ (¬ (x1 = (0 : Int32)) → (gtin (gtag (h) a0) [9] = true ∧ (∃ b4, (gref (h) a0 0) = some b4 ∧ (∃ q5, (bif gtis (gtag (h) b4) 7 then f_Tree_find n (h) b4 (x1) else none) = some q5 ∧ ((q5.1 = none → Q (some (.inl ((-1 : Int32)))) (q5.2)) ∧ (¬ (q5.1 = none) → (∃ q7, f_G_isMeasure n (q5.2) (x2) (x3) = some q7 ∧ ((q7.1 = (0 : Int32) → Q (some (.inl ((-1 : Int32)))) (q7.2)) ∧ (¬ (q7.1 = (0 : Int32)) → ((x4 = (0 : Int32) → (∃ q10, f_G_isFixed n (q7.2) (x2) = some q10 ∧ ((q10.1 = (0 : Int32) → (gtin (gtag (q10.2) a0) [9] = true ∧ (∃ b12, (gref (q10.2) a0 0) = some b12 ∧ (∃ q13, (bif gtis (gtag (q10.2) b12) 7 then f_Tree_hasRoomFor n (q10.2) b12 ((2 : Int32)) else none) = some q13 ∧ ((q13.1 = (0 : Int32) → Q (some (.inl ((-4 : Int32)))) (q13.2)) ∧ (¬ (q13.1 = (0 : Int32)) → (gtin (gtag (q13.2) a0) [9] = true ∧ (∃ b15, (gref (q13.2) a0 0) = some b15 ∧ ((gtis (gtag (q13.2) b15) 7 = true ∧ w_Tree_split n (q13.2) b15 (q5.1) (x2) (x3) (x4) (fun v h' => ∃ q16, v = some (.inl q16) ∧ Q (some (.inl (q16))) (h')))))))))))) ∧ (¬ (q10.1 = (0 : Int32)) → Q (some (.inl ((-3 : Int32)))) (q10.2))))) ∧ (¬ (x4 = (0 : Int32)) → (gtin (gtag (q7.2) a0) [9] = true ∧ (∃ b10, (gref (q7.2) a0 0) = some b10 ∧ (∃ q11, (bif gtis (gtag (q7.2) b10) 7 then f_Tree_hasRoomFor n (q7.2) b10 ((2 : Int32)) else none) = some q11 ∧ ((q11.1 = (0 : Int32) → Q (some (.inl ((-4 : Int32)))) (q11.2)) ∧ (¬ (q11.1 = (0 : Int32)) → (gtin (gtag (q11.2) a0) [9] = true ∧ (∃ b13, (gref (q11.2) a0 0) = some b13 ∧ ((gtis (gtag (q11.2) b13) 7 = true ∧ w_Tree_split n (q11.2) b13 (q5.1) (x2) (x3) (x4) (fun v h' => ∃ q14, v = some (.inl q14) ∧ Q (some (.inl (q14))) (h')))))))))))))))))))))))) ∧ (¬ (x4 ≤ (3 : Int32)) → Q (some (.inl ((-1 : Int32)))) (h)))))
set_option maxHeartbeats 4000000 in
set_option maxRecDepth 100000 in
theorem t_G_open {d n a0 : Nat} {h : gHp} {x1 : Int32} {x2 : Int32} {x3 : Int32} {x4 : Int32} {Q : Option gv → gHp → Prop} (hw : w_G_open n h a0 x1 x2 x3 x4 Q) : gCall (d + 54) m_G_open [.inr (some a0), .inl x1, .inl x2, .inl x3, .inl x4] h Q := by
  unfold w_G_open at hw
  refine g_enter (d := d + 53) (Nat.le_of_ble_eq_true rfl) ?_
  show gWP (gCall (d + 53)) m_G_open Q 0 [some (.inr (some a0)), some (.inl x1), some (.inl x2), some (.inl x3), some (.inl x4), none] [] h 0 0
  refine w_iload rfl rfl ?_
  refine w_if (t := 11) rfl (by decide) (fun c1 => ?_) (fun c1 => ?_)
  · have c1 : x4 < (0 : Int32) := c1
    have hw := hw.1 c1
    refine w_iconst (v := (-1 : Int32)) rfl (by decide) ?_
    exact w_ireturn rfl (int_ret _) (Nat.le_of_ble_eq_true rfl) (Nat.le_of_ble_eq_true rfl) hw
  · have c1 : ¬ (x4 < (0 : Int32)) := c1
    have hw := hw.2 c1
    refine w_iload rfl rfl ?_
    refine w_iconst (v := (3 : Int32)) rfl (by decide) ?_
    refine w_icmp (t := 13) rfl (by decide) (fun c2 => ?_) (fun c2 => ?_)
    · have c2 : x4 ≤ (3 : Int32) := c2
      have hw := hw.1 c2
      refine w_iload_n rfl rfl ?_
      refine w_if (t := 24) rfl (by decide) (fun c3 => ?_) (fun c3 => ?_)
      · have c3 : ¬ (x1 = (0 : Int32)) := c3
        have hw := hw.2 c3
        refine w_aload_n rfl rfl ?_
        obtain ⟨hg, hw⟩ := hw
        refine x_getR hg rfl rfl rfl ?_
        refine w_iload_n rfl rfl ?_
        obtain ⟨b4, ho, hw⟩ := hw
        refine x_dr1 ho ?_
        obtain ⟨q5, hc, hw⟩ := hw
        obtain ⟨hg, hc⟩ := g_guard hc
        refine x_virt 7 [_] _ hg rfl rfl rfl rfl (Nat.le_of_ble_eq_true rfl) rfl (Nat.le_of_ble_eq_true rfl) (Nat.le_of_ble_eq_true rfl) (t_Tree_find (d := d + 52) hc ?_)
        refine w_astore rfl (Nat.le_of_ble_eq_true rfl) rfl ?_
        refine w_aload rfl rfl ?_
        refine w_ifnull (t := 47) rfl (by decide) (fun c6 => ?_) (fun c6 => ?_)
        · have c6 : q5.1 = none := c6
          have hw := hw.1 c6
          refine w_iconst (v := (-1 : Int32)) rfl (by decide) ?_
          exact w_ireturn rfl (int_ret _) (Nat.le_of_ble_eq_true rfl) (Nat.le_of_ble_eq_true rfl) hw
        · have c6 : ¬ (q5.1 = none) := c6
          have hw := hw.2 c6
          refine w_iload_n rfl rfl ?_
          refine w_iload_n rfl rfl ?_
          obtain ⟨q7, hc, hw⟩ := hw
          refine w_static [_, _] _ rfl rfl rfl rfl (Nat.le_of_ble_eq_true rfl) (Nat.le_of_ble_eq_true rfl) (Nat.le_of_ble_eq_true rfl) (t_G_isMeasure (d := d + 51) hc ?_)
          refine w_if (t := 49) rfl (by decide) (fun c8 => ?_) (fun c8 => ?_)
          · have c8 : ¬ (q7.1 = (0 : Int32)) := c8
            have hw := hw.2 c8
            refine w_iload rfl rfl ?_
            refine w_if (t := 64) rfl (by decide) (fun c9 => ?_) (fun c9 => ?_)
            · have c9 : ¬ (x4 = (0 : Int32)) := c9
              have hw := hw.2 c9
              refine w_aload_n rfl rfl ?_
              obtain ⟨hg, hw⟩ := hw
              refine x_getR hg rfl rfl rfl ?_
              refine w_iconst (v := (2 : Int32)) rfl (by decide) ?_
              obtain ⟨b10, ho, hw⟩ := hw
              refine x_dr1 ho ?_
              obtain ⟨q11, hc, hw⟩ := hw
              obtain ⟨hg, hc⟩ := g_guard hc
              refine x_virt 7 [_] _ hg rfl rfl rfl rfl (Nat.le_of_ble_eq_true rfl) rfl (Nat.le_of_ble_eq_true rfl) (Nat.le_of_ble_eq_true rfl) (t_Tree_hasRoomFor (d := d + 51) hc ?_)
              refine w_if (t := 78) rfl (by decide) (fun c12 => ?_) (fun c12 => ?_)
              · have c12 : ¬ (q11.1 = (0 : Int32)) := c12
                have hw := hw.2 c12
                refine w_aload_n rfl rfl ?_
                obtain ⟨hg, hw⟩ := hw
                refine x_getR hg rfl rfl rfl ?_
                refine w_aload rfl rfl ?_
                refine w_iload_n rfl rfl ?_
                refine w_iload_n rfl rfl ?_
                refine w_iload rfl rfl ?_
                obtain ⟨b13, ho, hw⟩ := hw
                refine x_dr4 ho ?_
                obtain ⟨hg, hw⟩ := hw
                refine x_virt 7 [_, _, _, _] _ hg rfl rfl rfl rfl (Nat.le_of_ble_eq_true rfl) rfl (Nat.le_of_ble_eq_true rfl) (Nat.le_of_ble_eq_true rfl) ((t_Tree_split (d := d + 1) hw).mono (fun v h' hv => ?_))
                obtain ⟨q14, rfl, hw⟩ := hv
                exact w_ireturn rfl (int_ret _) (Nat.le_of_ble_eq_true rfl) (Nat.le_of_ble_eq_true rfl) hw
              · have c12 : q11.1 = (0 : Int32) := Classical.not_not.mp c12
                have hw := hw.1 c12
                refine w_bipush (v := (-4 : Int32)) rfl (by decide) ?_
                exact w_ireturn rfl (int_ret _) (Nat.le_of_ble_eq_true rfl) (Nat.le_of_ble_eq_true rfl) hw
            · have c9 : x4 = (0 : Int32) := Classical.not_not.mp c9
              have hw := hw.1 c9
              refine w_iload_n rfl rfl ?_
              obtain ⟨q10, hc, hw⟩ := hw
              refine w_static [_] _ rfl rfl rfl rfl (Nat.le_of_ble_eq_true rfl) (Nat.le_of_ble_eq_true rfl) (Nat.le_of_ble_eq_true rfl) (t_G_isFixed (d := d + 52) hc ?_)
              refine w_if (t := 64) rfl (by decide) (fun c11 => ?_) (fun c11 => ?_)
              · have c11 : q10.1 = (0 : Int32) := c11
                have hw := hw.1 c11
                refine w_aload_n rfl rfl ?_
                obtain ⟨hg, hw⟩ := hw
                refine x_getR hg rfl rfl rfl ?_
                refine w_iconst (v := (2 : Int32)) rfl (by decide) ?_
                obtain ⟨b12, ho, hw⟩ := hw
                refine x_dr1 ho ?_
                obtain ⟨q13, hc, hw⟩ := hw
                obtain ⟨hg, hc⟩ := g_guard hc
                refine x_virt 7 [_] _ hg rfl rfl rfl rfl (Nat.le_of_ble_eq_true rfl) rfl (Nat.le_of_ble_eq_true rfl) (Nat.le_of_ble_eq_true rfl) (t_Tree_hasRoomFor (d := d + 51) hc ?_)
                refine w_if (t := 78) rfl (by decide) (fun c14 => ?_) (fun c14 => ?_)
                · have c14 : ¬ (q13.1 = (0 : Int32)) := c14
                  have hw := hw.2 c14
                  refine w_aload_n rfl rfl ?_
                  obtain ⟨hg, hw⟩ := hw
                  refine x_getR hg rfl rfl rfl ?_
                  refine w_aload rfl rfl ?_
                  refine w_iload_n rfl rfl ?_
                  refine w_iload_n rfl rfl ?_
                  refine w_iload rfl rfl ?_
                  obtain ⟨b15, ho, hw⟩ := hw
                  refine x_dr4 ho ?_
                  obtain ⟨hg, hw⟩ := hw
                  refine x_virt 7 [_, _, _, _] _ hg rfl rfl rfl rfl (Nat.le_of_ble_eq_true rfl) rfl (Nat.le_of_ble_eq_true rfl) (Nat.le_of_ble_eq_true rfl) ((t_Tree_split (d := d + 1) hw).mono (fun v h' hv => ?_))
                  obtain ⟨q16, rfl, hw⟩ := hv
                  exact w_ireturn rfl (int_ret _) (Nat.le_of_ble_eq_true rfl) (Nat.le_of_ble_eq_true rfl) hw
                · have c14 : q13.1 = (0 : Int32) := Classical.not_not.mp c14
                  have hw := hw.1 c14
                  refine w_bipush (v := (-4 : Int32)) rfl (by decide) ?_
                  exact w_ireturn rfl (int_ret _) (Nat.le_of_ble_eq_true rfl) (Nat.le_of_ble_eq_true rfl) hw
              · have c11 : ¬ (q10.1 = (0 : Int32)) := c11
                have hw := hw.2 c11
                refine w_bipush (v := (-3 : Int32)) rfl (by decide) ?_
                exact w_ireturn rfl (int_ret _) (Nat.le_of_ble_eq_true rfl) (Nat.le_of_ble_eq_true rfl) hw
          · have c8 : q7.1 = (0 : Int32) := Classical.not_not.mp c8
            have hw := hw.1 c8
            refine w_iconst (v := (-1 : Int32)) rfl (by decide) ?_
            exact w_ireturn rfl (int_ret _) (Nat.le_of_ble_eq_true rfl) (Nat.le_of_ble_eq_true rfl) hw
      · have c3 : x1 = (0 : Int32) := Classical.not_not.mp c3
        have hw := hw.1 c3
        refine w_aload_n rfl rfl ?_
        refine w_iload rfl rfl ?_
        obtain ⟨hg, hw⟩ := hw
        refine x_virt 9 [_] _ hg rfl rfl rfl rfl (Nat.le_of_ble_eq_true rfl) rfl (Nat.le_of_ble_eq_true rfl) (Nat.le_of_ble_eq_true rfl) ((t_G_openTop (d := d + 0) hw).mono (fun v h' hv => ?_))
        obtain ⟨q4, rfl, hw⟩ := hv
        exact w_ireturn rfl (int_ret _) (Nat.le_of_ble_eq_true rfl) (Nat.le_of_ble_eq_true rfl) hw
    · have c2 : ¬ (x4 ≤ (3 : Int32)) := c2
      have hw := hw.2 c2
      refine w_iconst (v := (-1 : Int32)) rfl (by decide) ?_
      exact w_ireturn rfl (int_ret _) (Nat.le_of_ble_eq_true rfl) (Nat.le_of_ble_eq_true rfl) hw
def w_M_new (n : Nat) (h : gHp) (a0 : Nat) (x1 : Int32) (x2 : Int32) (Q : Option gv → gHp → Prop) : Prop := (∀ a1, gtag (h) a1 = none → (gtin (gtag (gnew (h) a1 21 61) a0) [10] = true ∧ (∀ a2, gtag (gsetR (gnew (h) a1 21 61) a0 4 (some a1)) a2 = none → (gtin (gtag (gnew (gsetR (gnew (h) a1 21 61) a0 4 (some a1)) a2 20 61) a0) [10] = true ∧ (∀ a3, gtag (gsetR (gnew (gsetR (gnew (h) a1 21 61) a0 4 (some a1)) a2 20 61) a0 5 (some a2)) a3 = none → (gtin (gtag (gnew (gsetR (gnew (gsetR (gnew (h) a1 21 61) a0 4 (some a1)) a2 20 61) a0 5 (some a2)) a3 20 61) a0) [10] = true ∧ (∀ a4, gtag (gsetR (gnew (gsetR (gnew (gsetR (gnew (h) a1 21 61) a0 4 (some a1)) a2 20 61) a0 5 (some a2)) a3 20 61) a0 6 (some a3)) a4 = none → (gtin (gtag (gnew (gsetR (gnew (gsetR (gnew (gsetR (gnew (h) a1 21 61) a0 4 (some a1)) a2 20 61) a0 5 (some a2)) a3 20 61) a0 6 (some a3)) a4 20 61) a0) [10] = true ∧ (∀ a5, gtag (gsetR (gnew (gsetR (gnew (gsetR (gnew (gsetR (gnew (h) a1 21 61) a0 4 (some a1)) a2 20 61) a0 5 (some a2)) a3 20 61) a0 6 (some a3)) a4 20 61) a0 7 (some a4)) a5 = none → (gtin (gtag (gnew (gsetR (gnew (gsetR (gnew (gsetR (gnew (gsetR (gnew (h) a1 21 61) a0 4 (some a1)) a2 20 61) a0 5 (some a2)) a3 20 61) a0 6 (some a3)) a4 20 61) a0 7 (some a4)) a5 20 61) a0) [10] = true ∧ (∀ a6, gtag (gsetR (gnew (gsetR (gnew (gsetR (gnew (gsetR (gnew (gsetR (gnew (h) a1 21 61) a0 4 (some a1)) a2 20 61) a0 5 (some a2)) a3 20 61) a0 6 (some a3)) a4 20 61) a0 7 (some a4)) a5 20 61) a0 8 (some a5)) a6 = none → (gtin (gtag (gnew (gsetR (gnew (gsetR (gnew (gsetR (gnew (gsetR (gnew (gsetR (gnew (h) a1 21 61) a0 4 (some a1)) a2 20 61) a0 5 (some a2)) a3 20 61) a0 6 (some a3)) a4 20 61) a0 7 (some a4)) a5 20 61) a0 8 (some a5)) a6 20 61) a0) [10] = true ∧ (∀ a7, gtag (gsetR (gnew (gsetR (gnew (gsetR (gnew (gsetR (gnew (gsetR (gnew (gsetR (gnew (h) a1 21 61) a0 4 (some a1)) a2 20 61) a0 5 (some a2)) a3 20 61) a0 6 (some a3)) a4 20 61) a0 7 (some a4)) a5 20 61) a0 8 (some a5)) a6 20 61) a0 9 (some a6)) a7 = none → (gtin (gtag (gnew (gsetR (gnew (gsetR (gnew (gsetR (gnew (gsetR (gnew (gsetR (gnew (gsetR (gnew (h) a1 21 61) a0 4 (some a1)) a2 20 61) a0 5 (some a2)) a3 20 61) a0 6 (some a3)) a4 20 61) a0 7 (some a4)) a5 20 61) a0 8 (some a5)) a6 20 61) a0 9 (some a6)) a7 20 61) a0) [10] = true ∧ (∀ a8, gtag (gsetR (gnew (gsetR (gnew (gsetR (gnew (gsetR (gnew (gsetR (gnew (gsetR (gnew (gsetR (gnew (h) a1 21 61) a0 4 (some a1)) a2 20 61) a0 5 (some a2)) a3 20 61) a0 6 (some a3)) a4 20 61) a0 7 (some a4)) a5 20 61) a0 8 (some a5)) a6 20 61) a0 9 (some a6)) a7 20 61) a0 10 (some a7)) a8 = none → (gtin (gtag (gnew (gsetR (gnew (gsetR (gnew (gsetR (gnew (gsetR (gnew (gsetR (gnew (gsetR (gnew (gsetR (gnew (h) a1 21 61) a0 4 (some a1)) a2 20 61) a0 5 (some a2)) a3 20 61) a0 6 (some a3)) a4 20 61) a0 7 (some a4)) a5 20 61) a0 8 (some a5)) a6 20 61) a0 9 (some a6)) a7 20 61) a0 10 (some a7)) a8 20 61) a0) [10] = true ∧ (∀ a9, gtag (gsetR (gnew (gsetR (gnew (gsetR (gnew (gsetR (gnew (gsetR (gnew (gsetR (gnew (gsetR (gnew (gsetR (gnew (h) a1 21 61) a0 4 (some a1)) a2 20 61) a0 5 (some a2)) a3 20 61) a0 6 (some a3)) a4 20 61) a0 7 (some a4)) a5 20 61) a0 8 (some a5)) a6 20 61) a0 9 (some a6)) a7 20 61) a0 10 (some a7)) a8 20 61) a0 11 (some a8)) a9 = none → (gtin (gtag (gnew (gsetR (gnew (gsetR (gnew (gsetR (gnew (gsetR (gnew (gsetR (gnew (gsetR (gnew (gsetR (gnew (gsetR (gnew (h) a1 21 61) a0 4 (some a1)) a2 20 61) a0 5 (some a2)) a3 20 61) a0 6 (some a3)) a4 20 61) a0 7 (some a4)) a5 20 61) a0 8 (some a5)) a6 20 61) a0 9 (some a6)) a7 20 61) a0 10 (some a7)) a8 20 61) a0 11 (some a8)) a9 20 61) a0) [10] = true ∧ (∀ a10, gtag (gsetR (gnew (gsetR (gnew (gsetR (gnew (gsetR (gnew (gsetR (gnew (gsetR (gnew (gsetR (gnew (gsetR (gnew (gsetR (gnew (h) a1 21 61) a0 4 (some a1)) a2 20 61) a0 5 (some a2)) a3 20 61) a0 6 (some a3)) a4 20 61) a0 7 (some a4)) a5 20 61) a0 8 (some a5)) a6 20 61) a0 9 (some a6)) a7 20 61) a0 10 (some a7)) a8 20 61) a0 11 (some a8)) a9 20 61) a0 12 (some a9)) a10 = none → (gtin (gtag (gnew (gsetR (gnew (gsetR (gnew (gsetR (gnew (gsetR (gnew (gsetR (gnew (gsetR (gnew (gsetR (gnew (gsetR (gnew (gsetR (gnew (h) a1 21 61) a0 4 (some a1)) a2 20 61) a0 5 (some a2)) a3 20 61) a0 6 (some a3)) a4 20 61) a0 7 (some a4)) a5 20 61) a0 8 (some a5)) a6 20 61) a0 9 (some a6)) a7 20 61) a0 10 (some a7)) a8 20 61) a0 11 (some a8)) a9 20 61) a0 12 (some a9)) a10 20 61) a0) [10] = true ∧ (∀ a11, gtag (gsetR (gnew (gsetR (gnew (gsetR (gnew (gsetR (gnew (gsetR (gnew (gsetR (gnew (gsetR (gnew (gsetR (gnew (gsetR (gnew (gsetR (gnew (h) a1 21 61) a0 4 (some a1)) a2 20 61) a0 5 (some a2)) a3 20 61) a0 6 (some a3)) a4 20 61) a0 7 (some a4)) a5 20 61) a0 8 (some a5)) a6 20 61) a0 9 (some a6)) a7 20 61) a0 10 (some a7)) a8 20 61) a0 11 (some a8)) a9 20 61) a0 12 (some a9)) a10 20 61) a0 13 (some a10)) a11 = none → (gtin (gtag (gnew (gsetR (gnew (gsetR (gnew (gsetR (gnew (gsetR (gnew (gsetR (gnew (gsetR (gnew (gsetR (gnew (gsetR (gnew (gsetR (gnew (gsetR (gnew (h) a1 21 61) a0 4 (some a1)) a2 20 61) a0 5 (some a2)) a3 20 61) a0 6 (some a3)) a4 20 61) a0 7 (some a4)) a5 20 61) a0 8 (some a5)) a6 20 61) a0 9 (some a6)) a7 20 61) a0 10 (some a7)) a8 20 61) a0 11 (some a8)) a9 20 61) a0 12 (some a9)) a10 20 61) a0 13 (some a10)) a11 20 61) a0) [10] = true ∧ (∀ a12, gtag (gsetR (gnew (gsetR (gnew (gsetR (gnew (gsetR (gnew (gsetR (gnew (gsetR (gnew (gsetR (gnew (gsetR (gnew (gsetR (gnew (gsetR (gnew (gsetR (gnew (h) a1 21 61) a0 4 (some a1)) a2 20 61) a0 5 (some a2)) a3 20 61) a0 6 (some a3)) a4 20 61) a0 7 (some a4)) a5 20 61) a0 8 (some a5)) a6 20 61) a0 9 (some a6)) a7 20 61) a0 10 (some a7)) a8 20 61) a0 11 (some a8)) a9 20 61) a0 12 (some a9)) a10 20 61) a0 13 (some a10)) a11 20 61) a0 14 (some a11)) a12 = none → (gtin (gtag (gnew (gsetR (gnew (gsetR (gnew (gsetR (gnew (gsetR (gnew (gsetR (gnew (gsetR (gnew (gsetR (gnew (gsetR (gnew (gsetR (gnew (gsetR (gnew (gsetR (gnew (h) a1 21 61) a0 4 (some a1)) a2 20 61) a0 5 (some a2)) a3 20 61) a0 6 (some a3)) a4 20 61) a0 7 (some a4)) a5 20 61) a0 8 (some a5)) a6 20 61) a0 9 (some a6)) a7 20 61) a0 10 (some a7)) a8 20 61) a0 11 (some a8)) a9 20 61) a0 12 (some a9)) a10 20 61) a0 13 (some a10)) a11 20 61) a0 14 (some a11)) a12 20 61) a0) [10] = true ∧ (∀ a13, gtag (gsetR (gnew (gsetR (gnew (gsetR (gnew (gsetR (gnew (gsetR (gnew (gsetR (gnew (gsetR (gnew (gsetR (gnew (gsetR (gnew (gsetR (gnew (gsetR (gnew (gsetR (gnew (h) a1 21 61) a0 4 (some a1)) a2 20 61) a0 5 (some a2)) a3 20 61) a0 6 (some a3)) a4 20 61) a0 7 (some a4)) a5 20 61) a0 8 (some a5)) a6 20 61) a0 9 (some a6)) a7 20 61) a0 10 (some a7)) a8 20 61) a0 11 (some a8)) a9 20 61) a0 12 (some a9)) a10 20 61) a0 13 (some a10)) a11 20 61) a0 14 (some a11)) a12 20 61) a0 15 (some a12)) a13 = none → (gtin (gtag (gnew (gsetR (gnew (gsetR (gnew (gsetR (gnew (gsetR (gnew (gsetR (gnew (gsetR (gnew (gsetR (gnew (gsetR (gnew (gsetR (gnew (gsetR (gnew (gsetR (gnew (gsetR (gnew (h) a1 21 61) a0 4 (some a1)) a2 20 61) a0 5 (some a2)) a3 20 61) a0 6 (some a3)) a4 20 61) a0 7 (some a4)) a5 20 61) a0 8 (some a5)) a6 20 61) a0 9 (some a6)) a7 20 61) a0 10 (some a7)) a8 20 61) a0 11 (some a8)) a9 20 61) a0 12 (some a9)) a10 20 61) a0 13 (some a10)) a11 20 61) a0 14 (some a11)) a12 20 61) a0 15 (some a12)) a13 20 61) a0) [10] = true ∧ (∀ a14, gtag (gsetR (gnew (gsetR (gnew (gsetR (gnew (gsetR (gnew (gsetR (gnew (gsetR (gnew (gsetR (gnew (gsetR (gnew (gsetR (gnew (gsetR (gnew (gsetR (gnew (gsetR (gnew (gsetR (gnew (h) a1 21 61) a0 4 (some a1)) a2 20 61) a0 5 (some a2)) a3 20 61) a0 6 (some a3)) a4 20 61) a0 7 (some a4)) a5 20 61) a0 8 (some a5)) a6 20 61) a0 9 (some a6)) a7 20 61) a0 10 (some a7)) a8 20 61) a0 11 (some a8)) a9 20 61) a0 12 (some a9)) a10 20 61) a0 13 (some a10)) a11 20 61) a0 14 (some a11)) a12 20 61) a0 15 (some a12)) a13 20 61) a0 16 (some a13)) a14 = none → (gtin (gtag (gnew (gsetR (gnew (gsetR (gnew (gsetR (gnew (gsetR (gnew (gsetR (gnew (gsetR (gnew (gsetR (gnew (gsetR (gnew (gsetR (gnew (gsetR (gnew (gsetR (gnew (gsetR (gnew (gsetR (gnew (h) a1 21 61) a0 4 (some a1)) a2 20 61) a0 5 (some a2)) a3 20 61) a0 6 (some a3)) a4 20 61) a0 7 (some a4)) a5 20 61) a0 8 (some a5)) a6 20 61) a0 9 (some a6)) a7 20 61) a0 10 (some a7)) a8 20 61) a0 11 (some a8)) a9 20 61) a0 12 (some a9)) a10 20 61) a0 13 (some a10)) a11 20 61) a0 14 (some a11)) a12 20 61) a0 15 (some a12)) a13 20 61) a0 16 (some a13)) a14 20 61) a0) [10] = true ∧ (∀ a15, gtag (gsetR (gnew (gsetR (gnew (gsetR (gnew (gsetR (gnew (gsetR (gnew (gsetR (gnew (gsetR (gnew (gsetR (gnew (gsetR (gnew (gsetR (gnew (gsetR (gnew (gsetR (gnew (gsetR (gnew (gsetR (gnew (h) a1 21 61) a0 4 (some a1)) a2 20 61) a0 5 (some a2)) a3 20 61) a0 6 (some a3)) a4 20 61) a0 7 (some a4)) a5 20 61) a0 8 (some a5)) a6 20 61) a0 9 (some a6)) a7 20 61) a0 10 (some a7)) a8 20 61) a0 11 (some a8)) a9 20 61) a0 12 (some a9)) a10 20 61) a0 13 (some a10)) a11 20 61) a0 14 (some a11)) a12 20 61) a0 15 (some a12)) a13 20 61) a0 16 (some a13)) a14 20 61) a0 17 (some a14)) a15 = none → (gtin (gtag (gnew (gsetR (gnew (gsetR (gnew (gsetR (gnew (gsetR (gnew (gsetR (gnew (gsetR (gnew (gsetR (gnew (gsetR (gnew (gsetR (gnew (gsetR (gnew (gsetR (gnew (gsetR (gnew (gsetR (gnew (gsetR (gnew (h) a1 21 61) a0 4 (some a1)) a2 20 61) a0 5 (some a2)) a3 20 61) a0 6 (some a3)) a4 20 61) a0 7 (some a4)) a5 20 61) a0 8 (some a5)) a6 20 61) a0 9 (some a6)) a7 20 61) a0 10 (some a7)) a8 20 61) a0 11 (some a8)) a9 20 61) a0 12 (some a9)) a10 20 61) a0 13 (some a10)) a11 20 61) a0 14 (some a11)) a12 20 61) a0 15 (some a12)) a13 20 61) a0 16 (some a13)) a14 20 61) a0 17 (some a14)) a15 20 61) a0) [10] = true ∧ (∀ a16, gtag (gsetR (gnew (gsetR (gnew (gsetR (gnew (gsetR (gnew (gsetR (gnew (gsetR (gnew (gsetR (gnew (gsetR (gnew (gsetR (gnew (gsetR (gnew (gsetR (gnew (gsetR (gnew (gsetR (gnew (gsetR (gnew (gsetR (gnew (h) a1 21 61) a0 4 (some a1)) a2 20 61) a0 5 (some a2)) a3 20 61) a0 6 (some a3)) a4 20 61) a0 7 (some a4)) a5 20 61) a0 8 (some a5)) a6 20 61) a0 9 (some a6)) a7 20 61) a0 10 (some a7)) a8 20 61) a0 11 (some a8)) a9 20 61) a0 12 (some a9)) a10 20 61) a0 13 (some a10)) a11 20 61) a0 14 (some a11)) a12 20 61) a0 15 (some a12)) a13 20 61) a0 16 (some a13)) a14 20 61) a0 17 (some a14)) a15 20 61) a0 18 (some a15)) a16 = none → (gtin (gtag (gnew (gsetR (gnew (gsetR (gnew (gsetR (gnew (gsetR (gnew (gsetR (gnew (gsetR (gnew (gsetR (gnew (gsetR (gnew (gsetR (gnew (gsetR (gnew (gsetR (gnew (gsetR (gnew (gsetR (gnew (gsetR (gnew (gsetR (gnew (h) a1 21 61) a0 4 (some a1)) a2 20 61) a0 5 (some a2)) a3 20 61) a0 6 (some a3)) a4 20 61) a0 7 (some a4)) a5 20 61) a0 8 (some a5)) a6 20 61) a0 9 (some a6)) a7 20 61) a0 10 (some a7)) a8 20 61) a0 11 (some a8)) a9 20 61) a0 12 (some a9)) a10 20 61) a0 13 (some a10)) a11 20 61) a0 14 (some a11)) a12 20 61) a0 15 (some a12)) a13 20 61) a0 16 (some a13)) a14 20 61) a0 17 (some a14)) a15 20 61) a0 18 (some a15)) a16 21 61) a0) [10] = true ∧ (∀ a17, gtag (gsetR (gnew (gsetR (gnew (gsetR (gnew (gsetR (gnew (gsetR (gnew (gsetR (gnew (gsetR (gnew (gsetR (gnew (gsetR (gnew (gsetR (gnew (gsetR (gnew (gsetR (gnew (gsetR (gnew (gsetR (gnew (gsetR (gnew (gsetR (gnew (h) a1 21 61) a0 4 (some a1)) a2 20 61) a0 5 (some a2)) a3 20 61) a0 6 (some a3)) a4 20 61) a0 7 (some a4)) a5 20 61) a0 8 (some a5)) a6 20 61) a0 9 (some a6)) a7 20 61) a0 10 (some a7)) a8 20 61) a0 11 (some a8)) a9 20 61) a0 12 (some a9)) a10 20 61) a0 13 (some a10)) a11 20 61) a0 14 (some a11)) a12 20 61) a0 15 (some a12)) a13 20 61) a0 16 (some a13)) a14 20 61) a0 17 (some a14)) a15 20 61) a0 18 (some a15)) a16 21 61) a0 19 (some a16)) a17 = none → (gtin (gtag (gnew (gsetR (gnew (gsetR (gnew (gsetR (gnew (gsetR (gnew (gsetR (gnew (gsetR (gnew (gsetR (gnew (gsetR (gnew (gsetR (gnew (gsetR (gnew (gsetR (gnew (gsetR (gnew (gsetR (gnew (gsetR (gnew (gsetR (gnew (gsetR (gnew (h) a1 21 61) a0 4 (some a1)) a2 20 61) a0 5 (some a2)) a3 20 61) a0 6 (some a3)) a4 20 61) a0 7 (some a4)) a5 20 61) a0 8 (some a5)) a6 20 61) a0 9 (some a6)) a7 20 61) a0 10 (some a7)) a8 20 61) a0 11 (some a8)) a9 20 61) a0 12 (some a9)) a10 20 61) a0 13 (some a10)) a11 20 61) a0 14 (some a11)) a12 20 61) a0 15 (some a12)) a13 20 61) a0 16 (some a13)) a14 20 61) a0 17 (some a14)) a15 20 61) a0 18 (some a15)) a16 21 61) a0 19 (some a16)) a17 20 61) a0) [10] = true ∧ (∀ a18, gtag (gsetR (gnew (gsetR (gnew (gsetR (gnew (gsetR (gnew (gsetR (gnew (gsetR (gnew (gsetR (gnew (gsetR (gnew (gsetR (gnew (gsetR (gnew (gsetR (gnew (gsetR (gnew (gsetR (gnew (gsetR (gnew (gsetR (gnew (gsetR (gnew (gsetR (gnew (h) a1 21 61) a0 4 (some a1)) a2 20 61) a0 5 (some a2)) a3 20 61) a0 6 (some a3)) a4 20 61) a0 7 (some a4)) a5 20 61) a0 8 (some a5)) a6 20 61) a0 9 (some a6)) a7 20 61) a0 10 (some a7)) a8 20 61) a0 11 (some a8)) a9 20 61) a0 12 (some a9)) a10 20 61) a0 13 (some a10)) a11 20 61) a0 14 (some a11)) a12 20 61) a0 15 (some a12)) a13 20 61) a0 16 (some a13)) a14 20 61) a0 17 (some a14)) a15 20 61) a0 18 (some a15)) a16 21 61) a0 19 (some a16)) a17 20 61) a0 20 (some a17)) a18 = none → (gtin (gtag (gnew (gsetR (gnew (gsetR (gnew (gsetR (gnew (gsetR (gnew (gsetR (gnew (gsetR (gnew (gsetR (gnew (gsetR (gnew (gsetR (gnew (gsetR (gnew (gsetR (gnew (gsetR (gnew (gsetR (gnew (gsetR (gnew (gsetR (gnew (gsetR (gnew (gsetR (gnew (h) a1 21 61) a0 4 (some a1)) a2 20 61) a0 5 (some a2)) a3 20 61) a0 6 (some a3)) a4 20 61) a0 7 (some a4)) a5 20 61) a0 8 (some a5)) a6 20 61) a0 9 (some a6)) a7 20 61) a0 10 (some a7)) a8 20 61) a0 11 (some a8)) a9 20 61) a0 12 (some a9)) a10 20 61) a0 13 (some a10)) a11 20 61) a0 14 (some a11)) a12 20 61) a0 15 (some a12)) a13 20 61) a0 16 (some a13)) a14 20 61) a0 17 (some a14)) a15 20 61) a0 18 (some a15)) a16 21 61) a0 19 (some a16)) a17 20 61) a0 20 (some a17)) a18 21 244) a0) [10] = true ∧ (∀ a19, gtag (gsetR (gnew (gsetR (gnew (gsetR (gnew (gsetR (gnew (gsetR (gnew (gsetR (gnew (gsetR (gnew (gsetR (gnew (gsetR (gnew (gsetR (gnew (gsetR (gnew (gsetR (gnew (gsetR (gnew (gsetR (gnew (gsetR (gnew (gsetR (gnew (gsetR (gnew (gsetR (gnew (h) a1 21 61) a0 4 (some a1)) a2 20 61) a0 5 (some a2)) a3 20 61) a0 6 (some a3)) a4 20 61) a0 7 (some a4)) a5 20 61) a0 8 (some a5)) a6 20 61) a0 9 (some a6)) a7 20 61) a0 10 (some a7)) a8 20 61) a0 11 (some a8)) a9 20 61) a0 12 (some a9)) a10 20 61) a0 13 (some a10)) a11 20 61) a0 14 (some a11)) a12 20 61) a0 15 (some a12)) a13 20 61) a0 16 (some a13)) a14 20 61) a0 17 (some a14)) a15 20 61) a0 18 (some a15)) a16 21 61) a0 19 (some a16)) a17 20 61) a0 20 (some a17)) a18 21 244) a0 21 (some a18)) a19 = none → (gtin (gtag (gnew (gsetR (gnew (gsetR (gnew (gsetR (gnew (gsetR (gnew (gsetR (gnew (gsetR (gnew (gsetR (gnew (gsetR (gnew (gsetR (gnew (gsetR (gnew (gsetR (gnew (gsetR (gnew (gsetR (gnew (gsetR (gnew (gsetR (gnew (gsetR (gnew (gsetR (gnew (gsetR (gnew (h) a1 21 61) a0 4 (some a1)) a2 20 61) a0 5 (some a2)) a3 20 61) a0 6 (some a3)) a4 20 61) a0 7 (some a4)) a5 20 61) a0 8 (some a5)) a6 20 61) a0 9 (some a6)) a7 20 61) a0 10 (some a7)) a8 20 61) a0 11 (some a8)) a9 20 61) a0 12 (some a9)) a10 20 61) a0 13 (some a10)) a11 20 61) a0 14 (some a11)) a12 20 61) a0 15 (some a12)) a13 20 61) a0 16 (some a13)) a14 20 61) a0 17 (some a14)) a15 20 61) a0 18 (some a15)) a16 21 61) a0 19 (some a16)) a17 20 61) a0 20 (some a17)) a18 21 244) a0 21 (some a18)) a19 20 61) a0) [10] = true ∧ (∀ a20, gtag (gsetR (gnew (gsetR (gnew (gsetR (gnew (gsetR (gnew (gsetR (gnew (gsetR (gnew (gsetR (gnew (gsetR (gnew (gsetR (gnew (gsetR (gnew (gsetR (gnew (gsetR (gnew (gsetR (gnew (gsetR (gnew (gsetR (gnew (gsetR (gnew (gsetR (gnew (gsetR (gnew (gsetR (gnew (h) a1 21 61) a0 4 (some a1)) a2 20 61) a0 5 (some a2)) a3 20 61) a0 6 (some a3)) a4 20 61) a0 7 (some a4)) a5 20 61) a0 8 (some a5)) a6 20 61) a0 9 (some a6)) a7 20 61) a0 10 (some a7)) a8 20 61) a0 11 (some a8)) a9 20 61) a0 12 (some a9)) a10 20 61) a0 13 (some a10)) a11 20 61) a0 14 (some a11)) a12 20 61) a0 15 (some a12)) a13 20 61) a0 16 (some a13)) a14 20 61) a0 17 (some a14)) a15 20 61) a0 18 (some a15)) a16 21 61) a0 19 (some a16)) a17 20 61) a0 20 (some a17)) a18 21 244) a0 21 (some a18)) a19 20 61) a0 22 (some a19)) a20 = none → (gtin (gtag (gnew (gsetR (gnew (gsetR (gnew (gsetR (gnew (gsetR (gnew (gsetR (gnew (gsetR (gnew (gsetR (gnew (gsetR (gnew (gsetR (gnew (gsetR (gnew (gsetR (gnew (gsetR (gnew (gsetR (gnew (gsetR (gnew (gsetR (gnew (gsetR (gnew (gsetR (gnew (gsetR (gnew (gsetR (gnew (h) a1 21 61) a0 4 (some a1)) a2 20 61) a0 5 (some a2)) a3 20 61) a0 6 (some a3)) a4 20 61) a0 7 (some a4)) a5 20 61) a0 8 (some a5)) a6 20 61) a0 9 (some a6)) a7 20 61) a0 10 (some a7)) a8 20 61) a0 11 (some a8)) a9 20 61) a0 12 (some a9)) a10 20 61) a0 13 (some a10)) a11 20 61) a0 14 (some a11)) a12 20 61) a0 15 (some a12)) a13 20 61) a0 16 (some a13)) a14 20 61) a0 17 (some a14)) a15 20 61) a0 18 (some a15)) a16 21 61) a0 19 (some a16)) a17 20 61) a0 20 (some a17)) a18 21 244) a0 21 (some a18)) a19 20 61) a0 22 (some a19)) a20 20 61) a0) [10] = true ∧ (∀ a21, gtag (gsetR (gnew (gsetR (gnew (gsetR (gnew (gsetR (gnew (gsetR (gnew (gsetR (gnew (gsetR (gnew (gsetR (gnew (gsetR (gnew (gsetR (gnew (gsetR (gnew (gsetR (gnew (gsetR (gnew (gsetR (gnew (gsetR (gnew (gsetR (gnew (gsetR (gnew (gsetR (gnew (gsetR (gnew (gsetR (gnew (h) a1 21 61) a0 4 (some a1)) a2 20 61) a0 5 (some a2)) a3 20 61) a0 6 (some a3)) a4 20 61) a0 7 (some a4)) a5 20 61) a0 8 (some a5)) a6 20 61) a0 9 (some a6)) a7 20 61) a0 10 (some a7)) a8 20 61) a0 11 (some a8)) a9 20 61) a0 12 (some a9)) a10 20 61) a0 13 (some a10)) a11 20 61) a0 14 (some a11)) a12 20 61) a0 15 (some a12)) a13 20 61) a0 16 (some a13)) a14 20 61) a0 17 (some a14)) a15 20 61) a0 18 (some a15)) a16 21 61) a0 19 (some a16)) a17 20 61) a0 20 (some a17)) a18 21 244) a0 21 (some a18)) a19 20 61) a0 22 (some a19)) a20 20 61) a0 23 (some a20)) a21 = none → (gtin (gtag (gnew (gsetR (gnew (gsetR (gnew (gsetR (gnew (gsetR (gnew (gsetR (gnew (gsetR (gnew (gsetR (gnew (gsetR (gnew (gsetR (gnew (gsetR (gnew (gsetR (gnew (gsetR (gnew (gsetR (gnew (gsetR (gnew (gsetR (gnew (gsetR (gnew (gsetR (gnew (gsetR (gnew (gsetR (gnew (gsetR (gnew (h) a1 21 61) a0 4 (some a1)) a2 20 61) a0 5 (some a2)) a3 20 61) a0 6 (some a3)) a4 20 61) a0 7 (some a4)) a5 20 61) a0 8 (some a5)) a6 20 61) a0 9 (some a6)) a7 20 61) a0 10 (some a7)) a8 20 61) a0 11 (some a8)) a9 20 61) a0 12 (some a9)) a10 20 61) a0 13 (some a10)) a11 20 61) a0 14 (some a11)) a12 20 61) a0 15 (some a12)) a13 20 61) a0 16 (some a13)) a14 20 61) a0 17 (some a14)) a15 20 61) a0 18 (some a15)) a16 21 61) a0 19 (some a16)) a17 20 61) a0 20 (some a17)) a18 21 244) a0 21 (some a18)) a19 20 61) a0 22 (some a19)) a20 20 61) a0 23 (some a20)) a21 20 2440) a0) [10] = true ∧ (∀ a22, gtag (gsetR (gnew (gsetR (gnew (gsetR (gnew (gsetR (gnew (gsetR (gnew (gsetR (gnew (gsetR (gnew (gsetR (gnew (gsetR (gnew (gsetR (gnew (gsetR (gnew (gsetR (gnew (gsetR (gnew (gsetR (gnew (gsetR (gnew (gsetR (gnew (gsetR (gnew (gsetR (gnew (gsetR (gnew (gsetR (gnew (gsetR (gnew (h) a1 21 61) a0 4 (some a1)) a2 20 61) a0 5 (some a2)) a3 20 61) a0 6 (some a3)) a4 20 61) a0 7 (some a4)) a5 20 61) a0 8 (some a5)) a6 20 61) a0 9 (some a6)) a7 20 61) a0 10 (some a7)) a8 20 61) a0 11 (some a8)) a9 20 61) a0 12 (some a9)) a10 20 61) a0 13 (some a10)) a11 20 61) a0 14 (some a11)) a12 20 61) a0 15 (some a12)) a13 20 61) a0 16 (some a13)) a14 20 61) a0 17 (some a14)) a15 20 61) a0 18 (some a15)) a16 21 61) a0 19 (some a16)) a17 20 61) a0 20 (some a17)) a18 21 244) a0 21 (some a18)) a19 20 61) a0 22 (some a19)) a20 20 61) a0 23 (some a20)) a21 20 2440) a0 24 (some a21)) a22 = none → (gtin (gtag (gnew (gsetR (gnew (gsetR (gnew (gsetR (gnew (gsetR (gnew (gsetR (gnew (gsetR (gnew (gsetR (gnew (gsetR (gnew (gsetR (gnew (gsetR (gnew (gsetR (gnew (gsetR (gnew (gsetR (gnew (gsetR (gnew (gsetR (gnew (gsetR (gnew (gsetR (gnew (gsetR (gnew (gsetR (gnew (gsetR (gnew (gsetR (gnew (h) a1 21 61) a0 4 (some a1)) a2 20 61) a0 5 (some a2)) a3 20 61) a0 6 (some a3)) a4 20 61) a0 7 (some a4)) a5 20 61) a0 8 (some a5)) a6 20 61) a0 9 (some a6)) a7 20 61) a0 10 (some a7)) a8 20 61) a0 11 (some a8)) a9 20 61) a0 12 (some a9)) a10 20 61) a0 13 (some a10)) a11 20 61) a0 14 (some a11)) a12 20 61) a0 15 (some a12)) a13 20 61) a0 16 (some a13)) a14 20 61) a0 17 (some a14)) a15 20 61) a0 18 (some a15)) a16 21 61) a0 19 (some a16)) a17 20 61) a0 20 (some a17)) a18 21 244) a0 21 (some a18)) a19 20 61) a0 22 (some a19)) a20 20 61) a0 23 (some a20)) a21 20 2440) a0 24 (some a21)) a22 20 61) a0) [10] = true ∧ (∀ a23, gtag (gsetR (gnew (gsetR (gnew (gsetR (gnew (gsetR (gnew (gsetR (gnew (gsetR (gnew (gsetR (gnew (gsetR (gnew (gsetR (gnew (gsetR (gnew (gsetR (gnew (gsetR (gnew (gsetR (gnew (gsetR (gnew (gsetR (gnew (gsetR (gnew (gsetR (gnew (gsetR (gnew (gsetR (gnew (gsetR (gnew (gsetR (gnew (gsetR (gnew (h) a1 21 61) a0 4 (some a1)) a2 20 61) a0 5 (some a2)) a3 20 61) a0 6 (some a3)) a4 20 61) a0 7 (some a4)) a5 20 61) a0 8 (some a5)) a6 20 61) a0 9 (some a6)) a7 20 61) a0 10 (some a7)) a8 20 61) a0 11 (some a8)) a9 20 61) a0 12 (some a9)) a10 20 61) a0 13 (some a10)) a11 20 61) a0 14 (some a11)) a12 20 61) a0 15 (some a12)) a13 20 61) a0 16 (some a13)) a14 20 61) a0 17 (some a14)) a15 20 61) a0 18 (some a15)) a16 21 61) a0 19 (some a16)) a17 20 61) a0 20 (some a17)) a18 21 244) a0 21 (some a18)) a19 20 61) a0 22 (some a19)) a20 20 61) a0 23 (some a20)) a21 20 2440) a0 24 (some a21)) a22 20 61) a0 25 (some a22)) a23 = none → (gtin (gtag (gnew (gsetR (gnew (gsetR (gnew (gsetR (gnew (gsetR (gnew (gsetR (gnew (gsetR (gnew (gsetR (gnew (gsetR (gnew (gsetR (gnew (gsetR (gnew (gsetR (gnew (gsetR (gnew (gsetR (gnew (gsetR (gnew (gsetR (gnew (gsetR (gnew (gsetR (gnew (gsetR (gnew (gsetR (gnew (gsetR (gnew (gsetR (gnew (gsetR (gnew (h) a1 21 61) a0 4 (some a1)) a2 20 61) a0 5 (some a2)) a3 20 61) a0 6 (some a3)) a4 20 61) a0 7 (some a4)) a5 20 61) a0 8 (some a5)) a6 20 61) a0 9 (some a6)) a7 20 61) a0 10 (some a7)) a8 20 61) a0 11 (some a8)) a9 20 61) a0 12 (some a9)) a10 20 61) a0 13 (some a10)) a11 20 61) a0 14 (some a11)) a12 20 61) a0 15 (some a12)) a13 20 61) a0 16 (some a13)) a14 20 61) a0 17 (some a14)) a15 20 61) a0 18 (some a15)) a16 21 61) a0 19 (some a16)) a17 20 61) a0 20 (some a17)) a18 21 244) a0 21 (some a18)) a19 20 61) a0 22 (some a19)) a20 20 61) a0 23 (some a20)) a21 20 2440) a0 24 (some a21)) a22 20 61) a0 25 (some a22)) a23 20 24400) a0) [10] = true ∧ (∀ a24, gtag (gsetR (gnew (gsetR (gnew (gsetR (gnew (gsetR (gnew (gsetR (gnew (gsetR (gnew (gsetR (gnew (gsetR (gnew (gsetR (gnew (gsetR (gnew (gsetR (gnew (gsetR (gnew (gsetR (gnew (gsetR (gnew (gsetR (gnew (gsetR (gnew (gsetR (gnew (gsetR (gnew (gsetR (gnew (gsetR (gnew (gsetR (gnew (gsetR (gnew (gsetR (gnew (h) a1 21 61) a0 4 (some a1)) a2 20 61) a0 5 (some a2)) a3 20 61) a0 6 (some a3)) a4 20 61) a0 7 (some a4)) a5 20 61) a0 8 (some a5)) a6 20 61) a0 9 (some a6)) a7 20 61) a0 10 (some a7)) a8 20 61) a0 11 (some a8)) a9 20 61) a0 12 (some a9)) a10 20 61) a0 13 (some a10)) a11 20 61) a0 14 (some a11)) a12 20 61) a0 15 (some a12)) a13 20 61) a0 16 (some a13)) a14 20 61) a0 17 (some a14)) a15 20 61) a0 18 (some a15)) a16 21 61) a0 19 (some a16)) a17 20 61) a0 20 (some a17)) a18 21 244) a0 21 (some a18)) a19 20 61) a0 22 (some a19)) a20 20 61) a0 23 (some a20)) a21 20 2440) a0 24 (some a21)) a22 20 61) a0 25 (some a22)) a23 20 24400) a0 26 (some a23)) a24 = none → (gtin (gtag (gnew (gsetR (gnew (gsetR (gnew (gsetR (gnew (gsetR (gnew (gsetR (gnew (gsetR (gnew (gsetR (gnew (gsetR (gnew (gsetR (gnew (gsetR (gnew (gsetR (gnew (gsetR (gnew (gsetR (gnew (gsetR (gnew (gsetR (gnew (gsetR (gnew (gsetR (gnew (gsetR (gnew (gsetR (gnew (gsetR (gnew (gsetR (gnew (gsetR (gnew (gsetR (gnew (h) a1 21 61) a0 4 (some a1)) a2 20 61) a0 5 (some a2)) a3 20 61) a0 6 (some a3)) a4 20 61) a0 7 (some a4)) a5 20 61) a0 8 (some a5)) a6 20 61) a0 9 (some a6)) a7 20 61) a0 10 (some a7)) a8 20 61) a0 11 (some a8)) a9 20 61) a0 12 (some a9)) a10 20 61) a0 13 (some a10)) a11 20 61) a0 14 (some a11)) a12 20 61) a0 15 (some a12)) a13 20 61) a0 16 (some a13)) a14 20 61) a0 17 (some a14)) a15 20 61) a0 18 (some a15)) a16 21 61) a0 19 (some a16)) a17 20 61) a0 20 (some a17)) a18 21 244) a0 21 (some a18)) a19 20 61) a0 22 (some a19)) a20 20 61) a0 23 (some a20)) a21 20 2440) a0 24 (some a21)) a22 20 61) a0 25 (some a22)) a23 20 24400) a0 26 (some a23)) a24 20 24400) a0) [10] = true ∧ (∀ a25, gtag (gsetR (gnew (gsetR (gnew (gsetR (gnew (gsetR (gnew (gsetR (gnew (gsetR (gnew (gsetR (gnew (gsetR (gnew (gsetR (gnew (gsetR (gnew (gsetR (gnew (gsetR (gnew (gsetR (gnew (gsetR (gnew (gsetR (gnew (gsetR (gnew (gsetR (gnew (gsetR (gnew (gsetR (gnew (gsetR (gnew (gsetR (gnew (gsetR (gnew (gsetR (gnew (gsetR (gnew (h) a1 21 61) a0 4 (some a1)) a2 20 61) a0 5 (some a2)) a3 20 61) a0 6 (some a3)) a4 20 61) a0 7 (some a4)) a5 20 61) a0 8 (some a5)) a6 20 61) a0 9 (some a6)) a7 20 61) a0 10 (some a7)) a8 20 61) a0 11 (some a8)) a9 20 61) a0 12 (some a9)) a10 20 61) a0 13 (some a10)) a11 20 61) a0 14 (some a11)) a12 20 61) a0 15 (some a12)) a13 20 61) a0 16 (some a13)) a14 20 61) a0 17 (some a14)) a15 20 61) a0 18 (some a15)) a16 21 61) a0 19 (some a16)) a17 20 61) a0 20 (some a17)) a18 21 244) a0 21 (some a18)) a19 20 61) a0 22 (some a19)) a20 20 61) a0 23 (some a20)) a21 20 2440) a0 24 (some a21)) a22 20 61) a0 25 (some a22)) a23 20 24400) a0 26 (some a23)) a24 20 24400) a0 27 (some a24)) a25 = none → (gtin (gtag (gnew (gsetR (gnew (gsetR (gnew (gsetR (gnew (gsetR (gnew (gsetR (gnew (gsetR (gnew (gsetR (gnew (gsetR (gnew (gsetR (gnew (gsetR (gnew (gsetR (gnew (gsetR (gnew (gsetR (gnew (gsetR (gnew (gsetR (gnew (gsetR (gnew (gsetR (gnew (gsetR (gnew (gsetR (gnew (gsetR (gnew (gsetR (gnew (gsetR (gnew (gsetR (gnew (gsetR (gnew (h) a1 21 61) a0 4 (some a1)) a2 20 61) a0 5 (some a2)) a3 20 61) a0 6 (some a3)) a4 20 61) a0 7 (some a4)) a5 20 61) a0 8 (some a5)) a6 20 61) a0 9 (some a6)) a7 20 61) a0 10 (some a7)) a8 20 61) a0 11 (some a8)) a9 20 61) a0 12 (some a9)) a10 20 61) a0 13 (some a10)) a11 20 61) a0 14 (some a11)) a12 20 61) a0 15 (some a12)) a13 20 61) a0 16 (some a13)) a14 20 61) a0 17 (some a14)) a15 20 61) a0 18 (some a15)) a16 21 61) a0 19 (some a16)) a17 20 61) a0 20 (some a17)) a18 21 244) a0 21 (some a18)) a19 20 61) a0 22 (some a19)) a20 20 61) a0 23 (some a20)) a21 20 2440) a0 24 (some a21)) a22 20 61) a0 25 (some a22)) a23 20 24400) a0 26 (some a23)) a24 20 24400) a0 27 (some a24)) a25 20 24400) a0) [10] = true ∧ (∀ a26, gtag (gsetR (gnew (gsetR (gnew (gsetR (gnew (gsetR (gnew (gsetR (gnew (gsetR (gnew (gsetR (gnew (gsetR (gnew (gsetR (gnew (gsetR (gnew (gsetR (gnew (gsetR (gnew (gsetR (gnew (gsetR (gnew (gsetR (gnew (gsetR (gnew (gsetR (gnew (gsetR (gnew (gsetR (gnew (gsetR (gnew (gsetR (gnew (gsetR (gnew (gsetR (gnew (gsetR (gnew (gsetR (gnew (h) a1 21 61) a0 4 (some a1)) a2 20 61) a0 5 (some a2)) a3 20 61) a0 6 (some a3)) a4 20 61) a0 7 (some a4)) a5 20 61) a0 8 (some a5)) a6 20 61) a0 9 (some a6)) a7 20 61) a0 10 (some a7)) a8 20 61) a0 11 (some a8)) a9 20 61) a0 12 (some a9)) a10 20 61) a0 13 (some a10)) a11 20 61) a0 14 (some a11)) a12 20 61) a0 15 (some a12)) a13 20 61) a0 16 (some a13)) a14 20 61) a0 17 (some a14)) a15 20 61) a0 18 (some a15)) a16 21 61) a0 19 (some a16)) a17 20 61) a0 20 (some a17)) a18 21 244) a0 21 (some a18)) a19 20 61) a0 22 (some a19)) a20 20 61) a0 23 (some a20)) a21 20 2440) a0 24 (some a21)) a22 20 61) a0 25 (some a22)) a23 20 24400) a0 26 (some a23)) a24 20 24400) a0 27 (some a24)) a25 20 24400) a0 28 (some a25)) a26 = none → (gtin (gtag (gnew (gsetR (gnew (gsetR (gnew (gsetR (gnew (gsetR (gnew (gsetR (gnew (gsetR (gnew (gsetR (gnew (gsetR (gnew (gsetR (gnew (gsetR (gnew (gsetR (gnew (gsetR (gnew (gsetR (gnew (gsetR (gnew (gsetR (gnew (gsetR (gnew (gsetR (gnew (gsetR (gnew (gsetR (gnew (gsetR (gnew (gsetR (gnew (gsetR (gnew (gsetR (gnew (gsetR (gnew (gsetR (gnew (h) a1 21 61) a0 4 (some a1)) a2 20 61) a0 5 (some a2)) a3 20 61) a0 6 (some a3)) a4 20 61) a0 7 (some a4)) a5 20 61) a0 8 (some a5)) a6 20 61) a0 9 (some a6)) a7 20 61) a0 10 (some a7)) a8 20 61) a0 11 (some a8)) a9 20 61) a0 12 (some a9)) a10 20 61) a0 13 (some a10)) a11 20 61) a0 14 (some a11)) a12 20 61) a0 15 (some a12)) a13 20 61) a0 16 (some a13)) a14 20 61) a0 17 (some a14)) a15 20 61) a0 18 (some a15)) a16 21 61) a0 19 (some a16)) a17 20 61) a0 20 (some a17)) a18 21 244) a0 21 (some a18)) a19 20 61) a0 22 (some a19)) a20 20 61) a0 23 (some a20)) a21 20 2440) a0 24 (some a21)) a22 20 61) a0 25 (some a22)) a23 20 24400) a0 26 (some a23)) a24 20 24400) a0 27 (some a24)) a25 20 24400) a0 28 (some a25)) a26 20 87840) a0) [10] = true ∧ (∀ a27, gtag (gsetR (gnew (gsetR (gnew (gsetR (gnew (gsetR (gnew (gsetR (gnew (gsetR (gnew (gsetR (gnew (gsetR (gnew (gsetR (gnew (gsetR (gnew (gsetR (gnew (gsetR (gnew (gsetR (gnew (gsetR (gnew (gsetR (gnew (gsetR (gnew (gsetR (gnew (gsetR (gnew (gsetR (gnew (gsetR (gnew (gsetR (gnew (gsetR (gnew (gsetR (gnew (gsetR (gnew (gsetR (gnew (gsetR (gnew (h) a1 21 61) a0 4 (some a1)) a2 20 61) a0 5 (some a2)) a3 20 61) a0 6 (some a3)) a4 20 61) a0 7 (some a4)) a5 20 61) a0 8 (some a5)) a6 20 61) a0 9 (some a6)) a7 20 61) a0 10 (some a7)) a8 20 61) a0 11 (some a8)) a9 20 61) a0 12 (some a9)) a10 20 61) a0 13 (some a10)) a11 20 61) a0 14 (some a11)) a12 20 61) a0 15 (some a12)) a13 20 61) a0 16 (some a13)) a14 20 61) a0 17 (some a14)) a15 20 61) a0 18 (some a15)) a16 21 61) a0 19 (some a16)) a17 20 61) a0 20 (some a17)) a18 21 244) a0 21 (some a18)) a19 20 61) a0 22 (some a19)) a20 20 61) a0 23 (some a20)) a21 20 2440) a0 24 (some a21)) a22 20 61) a0 25 (some a22)) a23 20 24400) a0 26 (some a23)) a24 20 24400) a0 27 (some a24)) a25 20 24400) a0 28 (some a25)) a26 20 87840) a0 29 (some a26)) a27 = none → (gtin (gtag (gnew (gsetR (gnew (gsetR (gnew (gsetR (gnew (gsetR (gnew (gsetR (gnew (gsetR (gnew (gsetR (gnew (gsetR (gnew (gsetR (gnew (gsetR (gnew (gsetR (gnew (gsetR (gnew (gsetR (gnew (gsetR (gnew (gsetR (gnew (gsetR (gnew (gsetR (gnew (gsetR (gnew (gsetR (gnew (gsetR (gnew (gsetR (gnew (gsetR (gnew (gsetR (gnew (gsetR (gnew (gsetR (gnew (gsetR (gnew (h) a1 21 61) a0 4 (some a1)) a2 20 61) a0 5 (some a2)) a3 20 61) a0 6 (some a3)) a4 20 61) a0 7 (some a4)) a5 20 61) a0 8 (some a5)) a6 20 61) a0 9 (some a6)) a7 20 61) a0 10 (some a7)) a8 20 61) a0 11 (some a8)) a9 20 61) a0 12 (some a9)) a10 20 61) a0 13 (some a10)) a11 20 61) a0 14 (some a11)) a12 20 61) a0 15 (some a12)) a13 20 61) a0 16 (some a13)) a14 20 61) a0 17 (some a14)) a15 20 61) a0 18 (some a15)) a16 21 61) a0 19 (some a16)) a17 20 61) a0 20 (some a17)) a18 21 244) a0 21 (some a18)) a19 20 61) a0 22 (some a19)) a20 20 61) a0 23 (some a20)) a21 20 2440) a0 24 (some a21)) a22 20 61) a0 25 (some a22)) a23 20 24400) a0 26 (some a23)) a24 20 24400) a0 27 (some a24)) a25 20 24400) a0 28 (some a25)) a26 20 87840) a0 29 (some a26)) a27 20 87840) a0) [10] = true ∧ (∀ a28, gtag (gsetR (gnew (gsetR (gnew (gsetR (gnew (gsetR (gnew (gsetR (gnew (gsetR (gnew (gsetR (gnew (gsetR (gnew (gsetR (gnew (gsetR (gnew (gsetR (gnew (gsetR (gnew (gsetR (gnew (gsetR (gnew (gsetR (gnew (gsetR (gnew (gsetR (gnew (gsetR (gnew (gsetR (gnew (gsetR (gnew (gsetR (gnew (gsetR (gnew (gsetR (gnew (gsetR (gnew (gsetR (gnew (gsetR (gnew (gsetR (gnew (h) a1 21 61) a0 4 (some a1)) a2 20 61) a0 5 (some a2)) a3 20 61) a0 6 (some a3)) a4 20 61) a0 7 (some a4)) a5 20 61) a0 8 (some a5)) a6 20 61) a0 9 (some a6)) a7 20 61) a0 10 (some a7)) a8 20 61) a0 11 (some a8)) a9 20 61) a0 12 (some a9)) a10 20 61) a0 13 (some a10)) a11 20 61) a0 14 (some a11)) a12 20 61) a0 15 (some a12)) a13 20 61) a0 16 (some a13)) a14 20 61) a0 17 (some a14)) a15 20 61) a0 18 (some a15)) a16 21 61) a0 19 (some a16)) a17 20 61) a0 20 (some a17)) a18 21 244) a0 21 (some a18)) a19 20 61) a0 22 (some a19)) a20 20 61) a0 23 (some a20)) a21 20 2440) a0 24 (some a21)) a22 20 61) a0 25 (some a22)) a23 20 24400) a0 26 (some a23)) a24 20 24400) a0 27 (some a24)) a25 20 24400) a0 28 (some a25)) a26 20 87840) a0 29 (some a26)) a27 20 87840) a0 30 (some a27)) a28 = none → (gtin (gtag (gnew (gsetR (gnew (gsetR (gnew (gsetR (gnew (gsetR (gnew (gsetR (gnew (gsetR (gnew (gsetR (gnew (gsetR (gnew (gsetR (gnew (gsetR (gnew (gsetR (gnew (gsetR (gnew (gsetR (gnew (gsetR (gnew (gsetR (gnew (gsetR (gnew (gsetR (gnew (gsetR (gnew (gsetR (gnew (gsetR (gnew (gsetR (gnew (gsetR (gnew (gsetR (gnew (gsetR (gnew (gsetR (gnew (gsetR (gnew (gsetR (gnew (h) a1 21 61) a0 4 (some a1)) a2 20 61) a0 5 (some a2)) a3 20 61) a0 6 (some a3)) a4 20 61) a0 7 (some a4)) a5 20 61) a0 8 (some a5)) a6 20 61) a0 9 (some a6)) a7 20 61) a0 10 (some a7)) a8 20 61) a0 11 (some a8)) a9 20 61) a0 12 (some a9)) a10 20 61) a0 13 (some a10)) a11 20 61) a0 14 (some a11)) a12 20 61) a0 15 (some a12)) a13 20 61) a0 16 (some a13)) a14 20 61) a0 17 (some a14)) a15 20 61) a0 18 (some a15)) a16 21 61) a0 19 (some a16)) a17 20 61) a0 20 (some a17)) a18 21 244) a0 21 (some a18)) a19 20 61) a0 22 (some a19)) a20 20 61) a0 23 (some a20)) a21 20 2440) a0 24 (some a21)) a22 20 61) a0 25 (some a22)) a23 20 24400) a0 26 (some a23)) a24 20 24400) a0 27 (some a24)) a25 20 24400) a0 28 (some a25)) a26 20 87840) a0 29 (some a26)) a27 20 87840) a0 30 (some a27)) a28 20 87840) a0) [10] = true ∧ (∀ a29, gtag (gsetR (gnew (gsetR (gnew (gsetR (gnew (gsetR (gnew (gsetR (gnew (gsetR (gnew (gsetR (gnew (gsetR (gnew (gsetR (gnew (gsetR (gnew (gsetR (gnew (gsetR (gnew (gsetR (gnew (gsetR (gnew (gsetR (gnew (gsetR (gnew (gsetR (gnew (gsetR (gnew (gsetR (gnew (gsetR (gnew (gsetR (gnew (gsetR (gnew (gsetR (gnew (gsetR (gnew (gsetR (gnew (gsetR (gnew (gsetR (gnew (gsetR (gnew (h) a1 21 61) a0 4 (some a1)) a2 20 61) a0 5 (some a2)) a3 20 61) a0 6 (some a3)) a4 20 61) a0 7 (some a4)) a5 20 61) a0 8 (some a5)) a6 20 61) a0 9 (some a6)) a7 20 61) a0 10 (some a7)) a8 20 61) a0 11 (some a8)) a9 20 61) a0 12 (some a9)) a10 20 61) a0 13 (some a10)) a11 20 61) a0 14 (some a11)) a12 20 61) a0 15 (some a12)) a13 20 61) a0 16 (some a13)) a14 20 61) a0 17 (some a14)) a15 20 61) a0 18 (some a15)) a16 21 61) a0 19 (some a16)) a17 20 61) a0 20 (some a17)) a18 21 244) a0 21 (some a18)) a19 20 61) a0 22 (some a19)) a20 20 61) a0 23 (some a20)) a21 20 2440) a0 24 (some a21)) a22 20 61) a0 25 (some a22)) a23 20 24400) a0 26 (some a23)) a24 20 24400) a0 27 (some a24)) a25 20 24400) a0 28 (some a25)) a26 20 87840) a0 29 (some a26)) a27 20 87840) a0 30 (some a27)) a28 20 87840) a0 31 (some a28)) a29 = none → (gtin (gtag (gnew (gsetR (gnew (gsetR (gnew (gsetR (gnew (gsetR (gnew (gsetR (gnew (gsetR (gnew (gsetR (gnew (gsetR (gnew (gsetR (gnew (gsetR (gnew (gsetR (gnew (gsetR (gnew (gsetR (gnew (gsetR (gnew (gsetR (gnew (gsetR (gnew (gsetR (gnew (gsetR (gnew (gsetR (gnew (gsetR (gnew (gsetR (gnew (gsetR (gnew (gsetR (gnew (gsetR (gnew (gsetR (gnew (gsetR (gnew (gsetR (gnew (gsetR (gnew (h) a1 21 61) a0 4 (some a1)) a2 20 61) a0 5 (some a2)) a3 20 61) a0 6 (some a3)) a4 20 61) a0 7 (some a4)) a5 20 61) a0 8 (some a5)) a6 20 61) a0 9 (some a6)) a7 20 61) a0 10 (some a7)) a8 20 61) a0 11 (some a8)) a9 20 61) a0 12 (some a9)) a10 20 61) a0 13 (some a10)) a11 20 61) a0 14 (some a11)) a12 20 61) a0 15 (some a12)) a13 20 61) a0 16 (some a13)) a14 20 61) a0 17 (some a14)) a15 20 61) a0 18 (some a15)) a16 21 61) a0 19 (some a16)) a17 20 61) a0 20 (some a17)) a18 21 244) a0 21 (some a18)) a19 20 61) a0 22 (some a19)) a20 20 61) a0 23 (some a20)) a21 20 2440) a0 24 (some a21)) a22 20 61) a0 25 (some a22)) a23 20 24400) a0 26 (some a23)) a24 20 24400) a0 27 (some a24)) a25 20 24400) a0 28 (some a25)) a26 20 87840) a0 29 (some a26)) a27 20 87840) a0 30 (some a27)) a28 20 87840) a0 31 (some a28)) a29 20 61) a0) [10] = true ∧ (∀ a30, gtag (gsetR (gnew (gsetR (gnew (gsetR (gnew (gsetR (gnew (gsetR (gnew (gsetR (gnew (gsetR (gnew (gsetR (gnew (gsetR (gnew (gsetR (gnew (gsetR (gnew (gsetR (gnew (gsetR (gnew (gsetR (gnew (gsetR (gnew (gsetR (gnew (gsetR (gnew (gsetR (gnew (gsetR (gnew (gsetR (gnew (gsetR (gnew (gsetR (gnew (gsetR (gnew (gsetR (gnew (gsetR (gnew (gsetR (gnew (gsetR (gnew (gsetR (gnew (gsetR (gnew (h) a1 21 61) a0 4 (some a1)) a2 20 61) a0 5 (some a2)) a3 20 61) a0 6 (some a3)) a4 20 61) a0 7 (some a4)) a5 20 61) a0 8 (some a5)) a6 20 61) a0 9 (some a6)) a7 20 61) a0 10 (some a7)) a8 20 61) a0 11 (some a8)) a9 20 61) a0 12 (some a9)) a10 20 61) a0 13 (some a10)) a11 20 61) a0 14 (some a11)) a12 20 61) a0 15 (some a12)) a13 20 61) a0 16 (some a13)) a14 20 61) a0 17 (some a14)) a15 20 61) a0 18 (some a15)) a16 21 61) a0 19 (some a16)) a17 20 61) a0 20 (some a17)) a18 21 244) a0 21 (some a18)) a19 20 61) a0 22 (some a19)) a20 20 61) a0 23 (some a20)) a21 20 2440) a0 24 (some a21)) a22 20 61) a0 25 (some a22)) a23 20 24400) a0 26 (some a23)) a24 20 24400) a0 27 (some a24)) a25 20 24400) a0 28 (some a25)) a26 20 87840) a0 29 (some a26)) a27 20 87840) a0 30 (some a27)) a28 20 87840) a0 31 (some a28)) a29 20 61) a0 32 (some a29)) a30 = none → (gtin (gtag (gnew (gsetR (gnew (gsetR (gnew (gsetR (gnew (gsetR (gnew (gsetR (gnew (gsetR (gnew (gsetR (gnew (gsetR (gnew (gsetR (gnew (gsetR (gnew (gsetR (gnew (gsetR (gnew (gsetR (gnew (gsetR (gnew (gsetR (gnew (gsetR (gnew (gsetR (gnew (gsetR (gnew (gsetR (gnew (gsetR (gnew (gsetR (gnew (gsetR (gnew (gsetR (gnew (gsetR (gnew (gsetR (gnew (gsetR (gnew (gsetR (gnew (gsetR (gnew (gsetR (gnew (h) a1 21 61) a0 4 (some a1)) a2 20 61) a0 5 (some a2)) a3 20 61) a0 6 (some a3)) a4 20 61) a0 7 (some a4)) a5 20 61) a0 8 (some a5)) a6 20 61) a0 9 (some a6)) a7 20 61) a0 10 (some a7)) a8 20 61) a0 11 (some a8)) a9 20 61) a0 12 (some a9)) a10 20 61) a0 13 (some a10)) a11 20 61) a0 14 (some a11)) a12 20 61) a0 15 (some a12)) a13 20 61) a0 16 (some a13)) a14 20 61) a0 17 (some a14)) a15 20 61) a0 18 (some a15)) a16 21 61) a0 19 (some a16)) a17 20 61) a0 20 (some a17)) a18 21 244) a0 21 (some a18)) a19 20 61) a0 22 (some a19)) a20 20 61) a0 23 (some a20)) a21 20 2440) a0 24 (some a21)) a22 20 61) a0 25 (some a22)) a23 20 24400) a0 26 (some a23)) a24 20 24400) a0 27 (some a24)) a25 20 24400) a0 28 (some a25)) a26 20 87840) a0 29 (some a26)) a27 20 87840) a0 30 (some a27)) a28 20 87840) a0 31 (some a28)) a29 20 61) a0 32 (some a29)) a30 20 61) a0) [10] = true ∧ (∀ a31, gtag (gsetR (gnew (gsetR (gnew (gsetR (gnew (gsetR (gnew (gsetR (gnew (gsetR (gnew (gsetR (gnew (gsetR (gnew (gsetR (gnew (gsetR (gnew (gsetR (gnew (gsetR (gnew (gsetR (gnew (gsetR (gnew (gsetR (gnew (gsetR (gnew (gsetR (gnew (gsetR (gnew (gsetR (gnew (gsetR (gnew (gsetR (gnew (gsetR (gnew (gsetR (gnew (gsetR (gnew (gsetR (gnew (gsetR (gnew (gsetR (gnew (gsetR (gnew (gsetR (gnew (gsetR (gnew (h) a1 21 61) a0 4 (some a1)) a2 20 61) a0 5 (some a2)) a3 20 61) a0 6 (some a3)) a4 20 61) a0 7 (some a4)) a5 20 61) a0 8 (some a5)) a6 20 61) a0 9 (some a6)) a7 20 61) a0 10 (some a7)) a8 20 61) a0 11 (some a8)) a9 20 61) a0 12 (some a9)) a10 20 61) a0 13 (some a10)) a11 20 61) a0 14 (some a11)) a12 20 61) a0 15 (some a12)) a13 20 61) a0 16 (some a13)) a14 20 61) a0 17 (some a14)) a15 20 61) a0 18 (some a15)) a16 21 61) a0 19 (some a16)) a17 20 61) a0 20 (some a17)) a18 21 244) a0 21 (some a18)) a19 20 61) a0 22 (some a19)) a20 20 61) a0 23 (some a20)) a21 20 2440) a0 24 (some a21)) a22 20 61) a0 25 (some a22)) a23 20 24400) a0 26 (some a23)) a24 20 24400) a0 27 (some a24)) a25 20 24400) a0 28 (some a25)) a26 20 87840) a0 29 (some a26)) a27 20 87840) a0 30 (some a27)) a28 20 87840) a0 31 (some a28)) a29 20 61) a0 32 (some a29)) a30 20 61) a0 33 (some a30)) a31 = none → (gtin (gtag (gnew (gsetR (gnew (gsetR (gnew (gsetR (gnew (gsetR (gnew (gsetR (gnew (gsetR (gnew (gsetR (gnew (gsetR (gnew (gsetR (gnew (gsetR (gnew (gsetR (gnew (gsetR (gnew (gsetR (gnew (gsetR (gnew (gsetR (gnew (gsetR (gnew (gsetR (gnew (gsetR (gnew (gsetR (gnew (gsetR (gnew (gsetR (gnew (gsetR (gnew (gsetR (gnew (gsetR (gnew (gsetR (gnew (gsetR (gnew (gsetR (gnew (gsetR (gnew (gsetR (gnew (gsetR (gnew (h) a1 21 61) a0 4 (some a1)) a2 20 61) a0 5 (some a2)) a3 20 61) a0 6 (some a3)) a4 20 61) a0 7 (some a4)) a5 20 61) a0 8 (some a5)) a6 20 61) a0 9 (some a6)) a7 20 61) a0 10 (some a7)) a8 20 61) a0 11 (some a8)) a9 20 61) a0 12 (some a9)) a10 20 61) a0 13 (some a10)) a11 20 61) a0 14 (some a11)) a12 20 61) a0 15 (some a12)) a13 20 61) a0 16 (some a13)) a14 20 61) a0 17 (some a14)) a15 20 61) a0 18 (some a15)) a16 21 61) a0 19 (some a16)) a17 20 61) a0 20 (some a17)) a18 21 244) a0 21 (some a18)) a19 20 61) a0 22 (some a19)) a20 20 61) a0 23 (some a20)) a21 20 2440) a0 24 (some a21)) a22 20 61) a0 25 (some a22)) a23 20 24400) a0 26 (some a23)) a24 20 24400) a0 27 (some a24)) a25 20 24400) a0 28 (some a25)) a26 20 87840) a0 29 (some a26)) a27 20 87840) a0 30 (some a27)) a28 20 87840) a0 31 (some a28)) a29 20 61) a0 32 (some a29)) a30 20 61) a0 33 (some a30)) a31 20 61) a0) [10] = true ∧ (∀ a32, gtag (gsetR (gnew (gsetR (gnew (gsetR (gnew (gsetR (gnew (gsetR (gnew (gsetR (gnew (gsetR (gnew (gsetR (gnew (gsetR (gnew (gsetR (gnew (gsetR (gnew (gsetR (gnew (gsetR (gnew (gsetR (gnew (gsetR (gnew (gsetR (gnew (gsetR (gnew (gsetR (gnew (gsetR (gnew (gsetR (gnew (gsetR (gnew (gsetR (gnew (gsetR (gnew (gsetR (gnew (gsetR (gnew (gsetR (gnew (gsetR (gnew (gsetR (gnew (gsetR (gnew (gsetR (gnew (gsetR (gnew (h) a1 21 61) a0 4 (some a1)) a2 20 61) a0 5 (some a2)) a3 20 61) a0 6 (some a3)) a4 20 61) a0 7 (some a4)) a5 20 61) a0 8 (some a5)) a6 20 61) a0 9 (some a6)) a7 20 61) a0 10 (some a7)) a8 20 61) a0 11 (some a8)) a9 20 61) a0 12 (some a9)) a10 20 61) a0 13 (some a10)) a11 20 61) a0 14 (some a11)) a12 20 61) a0 15 (some a12)) a13 20 61) a0 16 (some a13)) a14 20 61) a0 17 (some a14)) a15 20 61) a0 18 (some a15)) a16 21 61) a0 19 (some a16)) a17 20 61) a0 20 (some a17)) a18 21 244) a0 21 (some a18)) a19 20 61) a0 22 (some a19)) a20 20 61) a0 23 (some a20)) a21 20 2440) a0 24 (some a21)) a22 20 61) a0 25 (some a22)) a23 20 24400) a0 26 (some a23)) a24 20 24400) a0 27 (some a24)) a25 20 24400) a0 28 (some a25)) a26 20 87840) a0 29 (some a26)) a27 20 87840) a0 30 (some a27)) a28 20 87840) a0 31 (some a28)) a29 20 61) a0 32 (some a29)) a30 20 61) a0 33 (some a30)) a31 20 61) a0 34 (some a31)) a32 = none → (gtin (gtag (gnew (gsetR (gnew (gsetR (gnew (gsetR (gnew (gsetR (gnew (gsetR (gnew (gsetR (gnew (gsetR (gnew (gsetR (gnew (gsetR (gnew (gsetR (gnew (gsetR (gnew (gsetR (gnew (gsetR (gnew (gsetR (gnew (gsetR (gnew (gsetR (gnew (gsetR (gnew (gsetR (gnew (gsetR (gnew (gsetR (gnew (gsetR (gnew (gsetR (gnew (gsetR (gnew (gsetR (gnew (gsetR (gnew (gsetR (gnew (gsetR (gnew (gsetR (gnew (gsetR (gnew (gsetR (gnew (gsetR (gnew (h) a1 21 61) a0 4 (some a1)) a2 20 61) a0 5 (some a2)) a3 20 61) a0 6 (some a3)) a4 20 61) a0 7 (some a4)) a5 20 61) a0 8 (some a5)) a6 20 61) a0 9 (some a6)) a7 20 61) a0 10 (some a7)) a8 20 61) a0 11 (some a8)) a9 20 61) a0 12 (some a9)) a10 20 61) a0 13 (some a10)) a11 20 61) a0 14 (some a11)) a12 20 61) a0 15 (some a12)) a13 20 61) a0 16 (some a13)) a14 20 61) a0 17 (some a14)) a15 20 61) a0 18 (some a15)) a16 21 61) a0 19 (some a16)) a17 20 61) a0 20 (some a17)) a18 21 244) a0 21 (some a18)) a19 20 61) a0 22 (some a19)) a20 20 61) a0 23 (some a20)) a21 20 2440) a0 24 (some a21)) a22 20 61) a0 25 (some a22)) a23 20 24400) a0 26 (some a23)) a24 20 24400) a0 27 (some a24)) a25 20 24400) a0 28 (some a25)) a26 20 87840) a0 29 (some a26)) a27 20 87840) a0 30 (some a27)) a28 20 87840) a0 31 (some a28)) a29 20 61) a0 32 (some a29)) a30 20 61) a0 33 (some a30)) a31 20 61) a0 34 (some a31)) a32 20 61) a0) [10] = true ∧ (∀ a33, gtag (gsetR (gnew (gsetR (gnew (gsetR (gnew (gsetR (gnew (gsetR (gnew (gsetR (gnew (gsetR (gnew (gsetR (gnew (gsetR (gnew (gsetR (gnew (gsetR (gnew (gsetR (gnew (gsetR (gnew (gsetR (gnew (gsetR (gnew (gsetR (gnew (gsetR (gnew (gsetR (gnew (gsetR (gnew (gsetR (gnew (gsetR (gnew (gsetR (gnew (gsetR (gnew (gsetR (gnew (gsetR (gnew (gsetR (gnew (gsetR (gnew (gsetR (gnew (gsetR (gnew (gsetR (gnew (gsetR (gnew (gsetR (gnew (h) a1 21 61) a0 4 (some a1)) a2 20 61) a0 5 (some a2)) a3 20 61) a0 6 (some a3)) a4 20 61) a0 7 (some a4)) a5 20 61) a0 8 (some a5)) a6 20 61) a0 9 (some a6)) a7 20 61) a0 10 (some a7)) a8 20 61) a0 11 (some a8)) a9 20 61) a0 12 (some a9)) a10 20 61) a0 13 (some a10)) a11 20 61) a0 14 (some a11)) a12 20 61) a0 15 (some a12)) a13 20 61) a0 16 (some a13)) a14 20 61) a0 17 (some a14)) a15 20 61) a0 18 (some a15)) a16 21 61) a0 19 (some a16)) a17 20 61) a0 20 (some a17)) a18 21 244) a0 21 (some a18)) a19 20 61) a0 22 (some a19)) a20 20 61) a0 23 (some a20)) a21 20 2440) a0 24 (some a21)) a22 20 61) a0 25 (some a22)) a23 20 24400) a0 26 (some a23)) a24 20 24400) a0 27 (some a24)) a25 20 24400) a0 28 (some a25)) a26 20 87840) a0 29 (some a26)) a27 20 87840) a0 30 (some a27)) a28 20 87840) a0 31 (some a28)) a29 20 61) a0 32 (some a29)) a30 20 61) a0 33 (some a30)) a31 20 61) a0 34 (some a31)) a32 20 61) a0 35 (some a32)) a33 = none → (gtin (gtag (gnew (gsetR (gnew (gsetR (gnew (gsetR (gnew (gsetR (gnew (gsetR (gnew (gsetR (gnew (gsetR (gnew (gsetR (gnew (gsetR (gnew (gsetR (gnew (gsetR (gnew (gsetR (gnew (gsetR (gnew (gsetR (gnew (gsetR (gnew (gsetR (gnew (gsetR (gnew (gsetR (gnew (gsetR (gnew (gsetR (gnew (gsetR (gnew (gsetR (gnew (gsetR (gnew (gsetR (gnew (gsetR (gnew (gsetR (gnew (gsetR (gnew (gsetR (gnew (gsetR (gnew (gsetR (gnew (gsetR (gnew (gsetR (gnew (h) a1 21 61) a0 4 (some a1)) a2 20 61) a0 5 (some a2)) a3 20 61) a0 6 (some a3)) a4 20 61) a0 7 (some a4)) a5 20 61) a0 8 (some a5)) a6 20 61) a0 9 (some a6)) a7 20 61) a0 10 (some a7)) a8 20 61) a0 11 (some a8)) a9 20 61) a0 12 (some a9)) a10 20 61) a0 13 (some a10)) a11 20 61) a0 14 (some a11)) a12 20 61) a0 15 (some a12)) a13 20 61) a0 16 (some a13)) a14 20 61) a0 17 (some a14)) a15 20 61) a0 18 (some a15)) a16 21 61) a0 19 (some a16)) a17 20 61) a0 20 (some a17)) a18 21 244) a0 21 (some a18)) a19 20 61) a0 22 (some a19)) a20 20 61) a0 23 (some a20)) a21 20 2440) a0 24 (some a21)) a22 20 61) a0 25 (some a22)) a23 20 24400) a0 26 (some a23)) a24 20 24400) a0 27 (some a24)) a25 20 24400) a0 28 (some a25)) a26 20 87840) a0 29 (some a26)) a27 20 87840) a0 30 (some a27)) a28 20 87840) a0 31 (some a28)) a29 20 61) a0 32 (some a29)) a30 20 61) a0 33 (some a30)) a31 20 61) a0 34 (some a31)) a32 20 61) a0 35 (some a32)) a33 20 61) a0) [10] = true ∧ (∀ a34, gtag (gsetR (gnew (gsetR (gnew (gsetR (gnew (gsetR (gnew (gsetR (gnew (gsetR (gnew (gsetR (gnew (gsetR (gnew (gsetR (gnew (gsetR (gnew (gsetR (gnew (gsetR (gnew (gsetR (gnew (gsetR (gnew (gsetR (gnew (gsetR (gnew (gsetR (gnew (gsetR (gnew (gsetR (gnew (gsetR (gnew (gsetR (gnew (gsetR (gnew (gsetR (gnew (gsetR (gnew (gsetR (gnew (gsetR (gnew (gsetR (gnew (gsetR (gnew (gsetR (gnew (gsetR (gnew (gsetR (gnew (gsetR (gnew (gsetR (gnew (h) a1 21 61) a0 4 (some a1)) a2 20 61) a0 5 (some a2)) a3 20 61) a0 6 (some a3)) a4 20 61) a0 7 (some a4)) a5 20 61) a0 8 (some a5)) a6 20 61) a0 9 (some a6)) a7 20 61) a0 10 (some a7)) a8 20 61) a0 11 (some a8)) a9 20 61) a0 12 (some a9)) a10 20 61) a0 13 (some a10)) a11 20 61) a0 14 (some a11)) a12 20 61) a0 15 (some a12)) a13 20 61) a0 16 (some a13)) a14 20 61) a0 17 (some a14)) a15 20 61) a0 18 (some a15)) a16 21 61) a0 19 (some a16)) a17 20 61) a0 20 (some a17)) a18 21 244) a0 21 (some a18)) a19 20 61) a0 22 (some a19)) a20 20 61) a0 23 (some a20)) a21 20 2440) a0 24 (some a21)) a22 20 61) a0 25 (some a22)) a23 20 24400) a0 26 (some a23)) a24 20 24400) a0 27 (some a24)) a25 20 24400) a0 28 (some a25)) a26 20 87840) a0 29 (some a26)) a27 20 87840) a0 30 (some a27)) a28 20 87840) a0 31 (some a28)) a29 20 61) a0 32 (some a29)) a30 20 61) a0 33 (some a30)) a31 20 61) a0 34 (some a31)) a32 20 61) a0 35 (some a32)) a33 20 61) a0 36 (some a33)) a34 = none → (gtin (gtag (gnew (gsetR (gnew (gsetR (gnew (gsetR (gnew (gsetR (gnew (gsetR (gnew (gsetR (gnew (gsetR (gnew (gsetR (gnew (gsetR (gnew (gsetR (gnew (gsetR (gnew (gsetR (gnew (gsetR (gnew (gsetR (gnew (gsetR (gnew (gsetR (gnew (gsetR (gnew (gsetR (gnew (gsetR (gnew (gsetR (gnew (gsetR (gnew (gsetR (gnew (gsetR (gnew (gsetR (gnew (gsetR (gnew (gsetR (gnew (gsetR (gnew (gsetR (gnew (gsetR (gnew (gsetR (gnew (gsetR (gnew (gsetR (gnew (gsetR (gnew (h) a1 21 61) a0 4 (some a1)) a2 20 61) a0 5 (some a2)) a3 20 61) a0 6 (some a3)) a4 20 61) a0 7 (some a4)) a5 20 61) a0 8 (some a5)) a6 20 61) a0 9 (some a6)) a7 20 61) a0 10 (some a7)) a8 20 61) a0 11 (some a8)) a9 20 61) a0 12 (some a9)) a10 20 61) a0 13 (some a10)) a11 20 61) a0 14 (some a11)) a12 20 61) a0 15 (some a12)) a13 20 61) a0 16 (some a13)) a14 20 61) a0 17 (some a14)) a15 20 61) a0 18 (some a15)) a16 21 61) a0 19 (some a16)) a17 20 61) a0 20 (some a17)) a18 21 244) a0 21 (some a18)) a19 20 61) a0 22 (some a19)) a20 20 61) a0 23 (some a20)) a21 20 2440) a0 24 (some a21)) a22 20 61) a0 25 (some a22)) a23 20 24400) a0 26 (some a23)) a24 20 24400) a0 27 (some a24)) a25 20 24400) a0 28 (some a25)) a26 20 87840) a0 29 (some a26)) a27 20 87840) a0 30 (some a27)) a28 20 87840) a0 31 (some a28)) a29 20 61) a0 32 (some a29)) a30 20 61) a0 33 (some a30)) a31 20 61) a0 34 (some a31)) a32 20 61) a0 35 (some a32)) a33 20 61) a0 36 (some a33)) a34 20 244) a0) [10] = true ∧ (∀ a35, gtag (gsetR (gnew (gsetR (gnew (gsetR (gnew (gsetR (gnew (gsetR (gnew (gsetR (gnew (gsetR (gnew (gsetR (gnew (gsetR (gnew (gsetR (gnew (gsetR (gnew (gsetR (gnew (gsetR (gnew (gsetR (gnew (gsetR (gnew (gsetR (gnew (gsetR (gnew (gsetR (gnew (gsetR (gnew (gsetR (gnew (gsetR (gnew (gsetR (gnew (gsetR (gnew (gsetR (gnew (gsetR (gnew (gsetR (gnew (gsetR (gnew (gsetR (gnew (gsetR (gnew (gsetR (gnew (gsetR (gnew (gsetR (gnew (gsetR (gnew (gsetR (gnew (h) a1 21 61) a0 4 (some a1)) a2 20 61) a0 5 (some a2)) a3 20 61) a0 6 (some a3)) a4 20 61) a0 7 (some a4)) a5 20 61) a0 8 (some a5)) a6 20 61) a0 9 (some a6)) a7 20 61) a0 10 (some a7)) a8 20 61) a0 11 (some a8)) a9 20 61) a0 12 (some a9)) a10 20 61) a0 13 (some a10)) a11 20 61) a0 14 (some a11)) a12 20 61) a0 15 (some a12)) a13 20 61) a0 16 (some a13)) a14 20 61) a0 17 (some a14)) a15 20 61) a0 18 (some a15)) a16 21 61) a0 19 (some a16)) a17 20 61) a0 20 (some a17)) a18 21 244) a0 21 (some a18)) a19 20 61) a0 22 (some a19)) a20 20 61) a0 23 (some a20)) a21 20 2440) a0 24 (some a21)) a22 20 61) a0 25 (some a22)) a23 20 24400) a0 26 (some a23)) a24 20 24400) a0 27 (some a24)) a25 20 24400) a0 28 (some a25)) a26 20 87840) a0 29 (some a26)) a27 20 87840) a0 30 (some a27)) a28 20 87840) a0 31 (some a28)) a29 20 61) a0 32 (some a29)) a30 20 61) a0 33 (some a30)) a31 20 61) a0 34 (some a31)) a32 20 61) a0 35 (some a32)) a33 20 61) a0 36 (some a33)) a34 20 244) a0 37 (some a34)) a35 = none → (gtin (gtag (gnew (gsetR (gnew (gsetR (gnew (gsetR (gnew (gsetR (gnew (gsetR (gnew (gsetR (gnew (gsetR (gnew (gsetR (gnew (gsetR (gnew (gsetR (gnew (gsetR (gnew (gsetR (gnew (gsetR (gnew (gsetR (gnew (gsetR (gnew (gsetR (gnew (gsetR (gnew (gsetR (gnew (gsetR (gnew (gsetR (gnew (gsetR (gnew (gsetR (gnew (gsetR (gnew (gsetR (gnew (gsetR (gnew (gsetR (gnew (gsetR (gnew (gsetR (gnew (gsetR (gnew (gsetR (gnew (gsetR (gnew (gsetR (gnew (gsetR (gnew (gsetR (gnew (h) a1 21 61) a0 4 (some a1)) a2 20 61) a0 5 (some a2)) a3 20 61) a0 6 (some a3)) a4 20 61) a0 7 (some a4)) a5 20 61) a0 8 (some a5)) a6 20 61) a0 9 (some a6)) a7 20 61) a0 10 (some a7)) a8 20 61) a0 11 (some a8)) a9 20 61) a0 12 (some a9)) a10 20 61) a0 13 (some a10)) a11 20 61) a0 14 (some a11)) a12 20 61) a0 15 (some a12)) a13 20 61) a0 16 (some a13)) a14 20 61) a0 17 (some a14)) a15 20 61) a0 18 (some a15)) a16 21 61) a0 19 (some a16)) a17 20 61) a0 20 (some a17)) a18 21 244) a0 21 (some a18)) a19 20 61) a0 22 (some a19)) a20 20 61) a0 23 (some a20)) a21 20 2440) a0 24 (some a21)) a22 20 61) a0 25 (some a22)) a23 20 24400) a0 26 (some a23)) a24 20 24400) a0 27 (some a24)) a25 20 24400) a0 28 (some a25)) a26 20 87840) a0 29 (some a26)) a27 20 87840) a0 30 (some a27)) a28 20 87840) a0 31 (some a28)) a29 20 61) a0 32 (some a29)) a30 20 61) a0 33 (some a30)) a31 20 61) a0 34 (some a31)) a32 20 61) a0 35 (some a32)) a33 20 61) a0 36 (some a33)) a34 20 244) a0 37 (some a34)) a35 20 900) a0) [10] = true ∧ (∀ a36, gtag (gsetR (gnew (gsetR (gnew (gsetR (gnew (gsetR (gnew (gsetR (gnew (gsetR (gnew (gsetR (gnew (gsetR (gnew (gsetR (gnew (gsetR (gnew (gsetR (gnew (gsetR (gnew (gsetR (gnew (gsetR (gnew (gsetR (gnew (gsetR (gnew (gsetR (gnew (gsetR (gnew (gsetR (gnew (gsetR (gnew (gsetR (gnew (gsetR (gnew (gsetR (gnew (gsetR (gnew (gsetR (gnew (gsetR (gnew (gsetR (gnew (gsetR (gnew (gsetR (gnew (gsetR (gnew (gsetR (gnew (gsetR (gnew (gsetR (gnew (gsetR (gnew (gsetR (gnew (h) a1 21 61) a0 4 (some a1)) a2 20 61) a0 5 (some a2)) a3 20 61) a0 6 (some a3)) a4 20 61) a0 7 (some a4)) a5 20 61) a0 8 (some a5)) a6 20 61) a0 9 (some a6)) a7 20 61) a0 10 (some a7)) a8 20 61) a0 11 (some a8)) a9 20 61) a0 12 (some a9)) a10 20 61) a0 13 (some a10)) a11 20 61) a0 14 (some a11)) a12 20 61) a0 15 (some a12)) a13 20 61) a0 16 (some a13)) a14 20 61) a0 17 (some a14)) a15 20 61) a0 18 (some a15)) a16 21 61) a0 19 (some a16)) a17 20 61) a0 20 (some a17)) a18 21 244) a0 21 (some a18)) a19 20 61) a0 22 (some a19)) a20 20 61) a0 23 (some a20)) a21 20 2440) a0 24 (some a21)) a22 20 61) a0 25 (some a22)) a23 20 24400) a0 26 (some a23)) a24 20 24400) a0 27 (some a24)) a25 20 24400) a0 28 (some a25)) a26 20 87840) a0 29 (some a26)) a27 20 87840) a0 30 (some a27)) a28 20 87840) a0 31 (some a28)) a29 20 61) a0 32 (some a29)) a30 20 61) a0 33 (some a30)) a31 20 61) a0 34 (some a31)) a32 20 61) a0 35 (some a32)) a33 20 61) a0 36 (some a33)) a34 20 244) a0 37 (some a34)) a35 20 900) a0 39 (some a35)) a36 = none → (gtin (gtag (gnew (gsetR (gnew (gsetR (gnew (gsetR (gnew (gsetR (gnew (gsetR (gnew (gsetR (gnew (gsetR (gnew (gsetR (gnew (gsetR (gnew (gsetR (gnew (gsetR (gnew (gsetR (gnew (gsetR (gnew (gsetR (gnew (gsetR (gnew (gsetR (gnew (gsetR (gnew (gsetR (gnew (gsetR (gnew (gsetR (gnew (gsetR (gnew (gsetR (gnew (gsetR (gnew (gsetR (gnew (gsetR (gnew (gsetR (gnew (gsetR (gnew (gsetR (gnew (gsetR (gnew (gsetR (gnew (gsetR (gnew (gsetR (gnew (gsetR (gnew (gsetR (gnew (gsetR (gnew (h) a1 21 61) a0 4 (some a1)) a2 20 61) a0 5 (some a2)) a3 20 61) a0 6 (some a3)) a4 20 61) a0 7 (some a4)) a5 20 61) a0 8 (some a5)) a6 20 61) a0 9 (some a6)) a7 20 61) a0 10 (some a7)) a8 20 61) a0 11 (some a8)) a9 20 61) a0 12 (some a9)) a10 20 61) a0 13 (some a10)) a11 20 61) a0 14 (some a11)) a12 20 61) a0 15 (some a12)) a13 20 61) a0 16 (some a13)) a14 20 61) a0 17 (some a14)) a15 20 61) a0 18 (some a15)) a16 21 61) a0 19 (some a16)) a17 20 61) a0 20 (some a17)) a18 21 244) a0 21 (some a18)) a19 20 61) a0 22 (some a19)) a20 20 61) a0 23 (some a20)) a21 20 2440) a0 24 (some a21)) a22 20 61) a0 25 (some a22)) a23 20 24400) a0 26 (some a23)) a24 20 24400) a0 27 (some a24)) a25 20 24400) a0 28 (some a25)) a26 20 87840) a0 29 (some a26)) a27 20 87840) a0 30 (some a27)) a28 20 87840) a0 31 (some a28)) a29 20 61) a0 32 (some a29)) a30 20 61) a0 33 (some a30)) a31 20 61) a0 34 (some a31)) a32 20 61) a0 35 (some a32)) a33 20 61) a0 36 (some a33)) a34 20 244) a0 37 (some a34)) a35 20 900) a0 39 (some a35)) a36 20 900) a0) [10] = true ∧ (∀ a37, gtag (gsetR (gnew (gsetR (gnew (gsetR (gnew (gsetR (gnew (gsetR (gnew (gsetR (gnew (gsetR (gnew (gsetR (gnew (gsetR (gnew (gsetR (gnew (gsetR (gnew (gsetR (gnew (gsetR (gnew (gsetR (gnew (gsetR (gnew (gsetR (gnew (gsetR (gnew (gsetR (gnew (gsetR (gnew (gsetR (gnew (gsetR (gnew (gsetR (gnew (gsetR (gnew (gsetR (gnew (gsetR (gnew (gsetR (gnew (gsetR (gnew (gsetR (gnew (gsetR (gnew (gsetR (gnew (gsetR (gnew (gsetR (gnew (gsetR (gnew (gsetR (gnew (gsetR (gnew (gsetR (gnew (h) a1 21 61) a0 4 (some a1)) a2 20 61) a0 5 (some a2)) a3 20 61) a0 6 (some a3)) a4 20 61) a0 7 (some a4)) a5 20 61) a0 8 (some a5)) a6 20 61) a0 9 (some a6)) a7 20 61) a0 10 (some a7)) a8 20 61) a0 11 (some a8)) a9 20 61) a0 12 (some a9)) a10 20 61) a0 13 (some a10)) a11 20 61) a0 14 (some a11)) a12 20 61) a0 15 (some a12)) a13 20 61) a0 16 (some a13)) a14 20 61) a0 17 (some a14)) a15 20 61) a0 18 (some a15)) a16 21 61) a0 19 (some a16)) a17 20 61) a0 20 (some a17)) a18 21 244) a0 21 (some a18)) a19 20 61) a0 22 (some a19)) a20 20 61) a0 23 (some a20)) a21 20 2440) a0 24 (some a21)) a22 20 61) a0 25 (some a22)) a23 20 24400) a0 26 (some a23)) a24 20 24400) a0 27 (some a24)) a25 20 24400) a0 28 (some a25)) a26 20 87840) a0 29 (some a26)) a27 20 87840) a0 30 (some a27)) a28 20 87840) a0 31 (some a28)) a29 20 61) a0 32 (some a29)) a30 20 61) a0 33 (some a30)) a31 20 61) a0 34 (some a31)) a32 20 61) a0 35 (some a32)) a33 20 61) a0 36 (some a33)) a34 20 244) a0 37 (some a34)) a35 20 900) a0 39 (some a35)) a36 20 900) a0 40 (some a36)) a37 = none → (gtin (gtag (gnew (gsetR (gnew (gsetR (gnew (gsetR (gnew (gsetR (gnew (gsetR (gnew (gsetR (gnew (gsetR (gnew (gsetR (gnew (gsetR (gnew (gsetR (gnew (gsetR (gnew (gsetR (gnew (gsetR (gnew (gsetR (gnew (gsetR (gnew (gsetR (gnew (gsetR (gnew (gsetR (gnew (gsetR (gnew (gsetR (gnew (gsetR (gnew (gsetR (gnew (gsetR (gnew (gsetR (gnew (gsetR (gnew (gsetR (gnew (gsetR (gnew (gsetR (gnew (gsetR (gnew (gsetR (gnew (gsetR (gnew (gsetR (gnew (gsetR (gnew (gsetR (gnew (gsetR (gnew (gsetR (gnew (h) a1 21 61) a0 4 (some a1)) a2 20 61) a0 5 (some a2)) a3 20 61) a0 6 (some a3)) a4 20 61) a0 7 (some a4)) a5 20 61) a0 8 (some a5)) a6 20 61) a0 9 (some a6)) a7 20 61) a0 10 (some a7)) a8 20 61) a0 11 (some a8)) a9 20 61) a0 12 (some a9)) a10 20 61) a0 13 (some a10)) a11 20 61) a0 14 (some a11)) a12 20 61) a0 15 (some a12)) a13 20 61) a0 16 (some a13)) a14 20 61) a0 17 (some a14)) a15 20 61) a0 18 (some a15)) a16 21 61) a0 19 (some a16)) a17 20 61) a0 20 (some a17)) a18 21 244) a0 21 (some a18)) a19 20 61) a0 22 (some a19)) a20 20 61) a0 23 (some a20)) a21 20 2440) a0 24 (some a21)) a22 20 61) a0 25 (some a22)) a23 20 24400) a0 26 (some a23)) a24 20 24400) a0 27 (some a24)) a25 20 24400) a0 28 (some a25)) a26 20 87840) a0 29 (some a26)) a27 20 87840) a0 30 (some a27)) a28 20 87840) a0 31 (some a28)) a29 20 61) a0 32 (some a29)) a30 20 61) a0 33 (some a30)) a31 20 61) a0 34 (some a31)) a32 20 61) a0 35 (some a32)) a33 20 61) a0 36 (some a33)) a34 20 244) a0 37 (some a34)) a35 20 900) a0 39 (some a35)) a36 20 900) a0 40 (some a36)) a37 20 924) a0) [10] = true ∧ (∃ q38, fH_nearest n (gsetR (gnew (gsetR (gnew (gsetR (gnew (gsetR (gnew (gsetR (gnew (gsetR (gnew (gsetR (gnew (gsetR (gnew (gsetR (gnew (gsetR (gnew (gsetR (gnew (gsetR (gnew (gsetR (gnew (gsetR (gnew (gsetR (gnew (gsetR (gnew (gsetR (gnew (gsetR (gnew (gsetR (gnew (gsetR (gnew (gsetR (gnew (gsetR (gnew (gsetR (gnew (gsetR (gnew (gsetR (gnew (gsetR (gnew (gsetR (gnew (gsetR (gnew (gsetR (gnew (gsetR (gnew (gsetR (gnew (gsetR (gnew (gsetR (gnew (gsetR (gnew (gsetR (gnew (gsetR (gnew (gsetR (gnew (h) a1 21 61) a0 4 (some a1)) a2 20 61) a0 5 (some a2)) a3 20 61) a0 6 (some a3)) a4 20 61) a0 7 (some a4)) a5 20 61) a0 8 (some a5)) a6 20 61) a0 9 (some a6)) a7 20 61) a0 10 (some a7)) a8 20 61) a0 11 (some a8)) a9 20 61) a0 12 (some a9)) a10 20 61) a0 13 (some a10)) a11 20 61) a0 14 (some a11)) a12 20 61) a0 15 (some a12)) a13 20 61) a0 16 (some a13)) a14 20 61) a0 17 (some a14)) a15 20 61) a0 18 (some a15)) a16 21 61) a0 19 (some a16)) a17 20 61) a0 20 (some a17)) a18 21 244) a0 21 (some a18)) a19 20 61) a0 22 (some a19)) a20 20 61) a0 23 (some a20)) a21 20 2440) a0 24 (some a21)) a22 20 61) a0 25 (some a22)) a23 20 24400) a0 26 (some a23)) a24 20 24400) a0 27 (some a24)) a25 20 24400) a0 28 (some a25)) a26 20 87840) a0 29 (some a26)) a27 20 87840) a0 30 (some a27)) a28 20 87840) a0 31 (some a28)) a29 20 61) a0 32 (some a29)) a30 20 61) a0 33 (some a30)) a31 20 61) a0 34 (some a31)) a32 20 61) a0 35 (some a32)) a33 20 61) a0 36 (some a33)) a34 20 244) a0 37 (some a34)) a35 20 900) a0 39 (some a35)) a36 20 900) a0 40 (some a36)) a37 20 924) a0 43 (some a37)) (x1) ((4 : Int32)) ((60 : Int32)) = some q38 ∧ (gtin (gtag (q38.2) a0) [10] = true ∧ (∃ q39, fH_nearest n (gsetI (q38.2) a0 0 (q38.1)) (x2) ((2 : Int32)) ((24 : Int32)) = some q39 ∧ (gtin (gtag (q39.2) a0) [10] = true ∧ Q none (gsetI (q39.2) a0 1 (q39.1))))))))))))))))))))))))))))))))))))))))))))))))))))))))))))))))))))))))))))))))
set_option maxHeartbeats 4000000 in
set_option maxRecDepth 100000 in
theorem t_M_new {d n a0 : Nat} {h : gHp} {x1 : Int32} {x2 : Int32} {Q : Option gv → gHp → Prop} (hw : w_M_new n h a0 x1 x2 Q) : gCall (d + 2) m_M_new [.inr (some a0), .inl x1, .inl x2] h Q := by
  unfold w_M_new at hw
  refine g_enter (d := d + 1) (Nat.le_of_ble_eq_true rfl) ?_
  show gWP (gCall (d + 1)) m_M_new Q 0 [some (.inr (some a0)), some (.inl x1), some (.inl x2)] [] h 0 0
  refine w_aload_n rfl rfl ?_
  refine w_obj rfl rfl (Nat.le_of_ble_eq_true rfl) ?_
  refine w_aload_n rfl rfl ?_
  refine w_bipush (v := (61 : Int32)) rfl (by decide) ?_
  refine xw_newa (tg := 21) (N := 61) rfl rfl (by decide) (by decide) (Nat.le_of_ble_eq_true rfl) (Nat.le_of_ble_eq_true rfl) (Nat.le_of_ble_eq_true rfl) (fun a1 ha1 => ?_)
  have hw := hw a1 ha1
  obtain ⟨hg, hw⟩ := hw
  refine x_putR hg rfl rfl (by decide) ?_
  refine w_aload_n rfl rfl ?_
  refine w_bipush (v := (61 : Int32)) rfl (by decide) ?_
  refine xw_newa (tg := 20) (N := 61) rfl rfl (by decide) (by decide) (Nat.le_of_ble_eq_true rfl) (Nat.le_of_ble_eq_true rfl) (Nat.le_of_ble_eq_true rfl) (fun a2 ha2 => ?_)
  have hw := hw a2 ha2
  obtain ⟨hg, hw⟩ := hw
  refine x_putR hg rfl rfl (by decide) ?_
  refine w_aload_n rfl rfl ?_
  refine w_bipush (v := (61 : Int32)) rfl (by decide) ?_
  refine xw_newa (tg := 20) (N := 61) rfl rfl (by decide) (by decide) (Nat.le_of_ble_eq_true rfl) (Nat.le_of_ble_eq_true rfl) (Nat.le_of_ble_eq_true rfl) (fun a3 ha3 => ?_)
  have hw := hw a3 ha3
  obtain ⟨hg, hw⟩ := hw
  refine x_putR hg rfl rfl (by decide) ?_
  refine w_aload_n rfl rfl ?_
  refine w_bipush (v := (61 : Int32)) rfl (by decide) ?_
  refine xw_newa (tg := 20) (N := 61) rfl rfl (by decide) (by decide) (Nat.le_of_ble_eq_true rfl) (Nat.le_of_ble_eq_true rfl) (Nat.le_of_ble_eq_true rfl) (fun a4 ha4 => ?_)
  have hw := hw a4 ha4
  obtain ⟨hg, hw⟩ := hw
  refine x_putR hg rfl rfl (by decide) ?_
  refine w_aload_n rfl rfl ?_
  refine w_bipush (v := (61 : Int32)) rfl (by decide) ?_
  refine xw_newa (tg := 20) (N := 61) rfl rfl (by decide) (by decide) (Nat.le_of_ble_eq_true rfl) (Nat.le_of_ble_eq_true rfl) (Nat.le_of_ble_eq_true rfl) (fun a5 ha5 => ?_)
  have hw := hw a5 ha5
  obtain ⟨hg, hw⟩ := hw
  refine x_putR hg rfl rfl (by decide) ?_
  refine w_aload_n rfl rfl ?_
  refine w_bipush (v := (61 : Int32)) rfl (by decide) ?_
  refine xw_newa (tg := 20) (N := 61) rfl rfl (by decide) (by decide) (Nat.le_of_ble_eq_true rfl) (Nat.le_of_ble_eq_true rfl) (Nat.le_of_ble_eq_true rfl) (fun a6 ha6 => ?_)
  have hw := hw a6 ha6
  obtain ⟨hg, hw⟩ := hw
  refine x_putR hg rfl rfl (by decide) ?_
  refine w_aload_n rfl rfl ?_
  refine w_bipush (v := (61 : Int32)) rfl (by decide) ?_
  refine xw_newa (tg := 20) (N := 61) rfl rfl (by decide) (by decide) (Nat.le_of_ble_eq_true rfl) (Nat.le_of_ble_eq_true rfl) (Nat.le_of_ble_eq_true rfl) (fun a7 ha7 => ?_)
  have hw := hw a7 ha7
  obtain ⟨hg, hw⟩ := hw
  refine x_putR hg rfl rfl (by decide) ?_
  refine w_aload_n rfl rfl ?_
  refine w_bipush (v := (61 : Int32)) rfl (by decide) ?_
  refine xw_newa (tg := 20) (N := 61) rfl rfl (by decide) (by decide) (Nat.le_of_ble_eq_true rfl) (Nat.le_of_ble_eq_true rfl) (Nat.le_of_ble_eq_true rfl) (fun a8 ha8 => ?_)
  have hw := hw a8 ha8
  obtain ⟨hg, hw⟩ := hw
  refine x_putR hg rfl rfl (by decide) ?_
  refine w_aload_n rfl rfl ?_
  refine w_bipush (v := (61 : Int32)) rfl (by decide) ?_
  refine xw_newa (tg := 20) (N := 61) rfl rfl (by decide) (by decide) (Nat.le_of_ble_eq_true rfl) (Nat.le_of_ble_eq_true rfl) (Nat.le_of_ble_eq_true rfl) (fun a9 ha9 => ?_)
  have hw := hw a9 ha9
  obtain ⟨hg, hw⟩ := hw
  refine x_putR hg rfl rfl (by decide) ?_
  refine w_aload_n rfl rfl ?_
  refine w_bipush (v := (61 : Int32)) rfl (by decide) ?_
  refine xw_newa (tg := 20) (N := 61) rfl rfl (by decide) (by decide) (Nat.le_of_ble_eq_true rfl) (Nat.le_of_ble_eq_true rfl) (Nat.le_of_ble_eq_true rfl) (fun a10 ha10 => ?_)
  have hw := hw a10 ha10
  obtain ⟨hg, hw⟩ := hw
  refine x_putR hg rfl rfl (by decide) ?_
  refine w_aload_n rfl rfl ?_
  refine w_bipush (v := (61 : Int32)) rfl (by decide) ?_
  refine xw_newa (tg := 20) (N := 61) rfl rfl (by decide) (by decide) (Nat.le_of_ble_eq_true rfl) (Nat.le_of_ble_eq_true rfl) (Nat.le_of_ble_eq_true rfl) (fun a11 ha11 => ?_)
  have hw := hw a11 ha11
  obtain ⟨hg, hw⟩ := hw
  refine x_putR hg rfl rfl (by decide) ?_
  refine w_aload_n rfl rfl ?_
  refine w_bipush (v := (61 : Int32)) rfl (by decide) ?_
  refine xw_newa (tg := 20) (N := 61) rfl rfl (by decide) (by decide) (Nat.le_of_ble_eq_true rfl) (Nat.le_of_ble_eq_true rfl) (Nat.le_of_ble_eq_true rfl) (fun a12 ha12 => ?_)
  have hw := hw a12 ha12
  obtain ⟨hg, hw⟩ := hw
  refine x_putR hg rfl rfl (by decide) ?_
  refine w_aload_n rfl rfl ?_
  refine w_bipush (v := (61 : Int32)) rfl (by decide) ?_
  refine xw_newa (tg := 20) (N := 61) rfl rfl (by decide) (by decide) (Nat.le_of_ble_eq_true rfl) (Nat.le_of_ble_eq_true rfl) (Nat.le_of_ble_eq_true rfl) (fun a13 ha13 => ?_)
  have hw := hw a13 ha13
  obtain ⟨hg, hw⟩ := hw
  refine x_putR hg rfl rfl (by decide) ?_
  refine w_aload_n rfl rfl ?_
  refine w_bipush (v := (61 : Int32)) rfl (by decide) ?_
  refine xw_newa (tg := 20) (N := 61) rfl rfl (by decide) (by decide) (Nat.le_of_ble_eq_true rfl) (Nat.le_of_ble_eq_true rfl) (Nat.le_of_ble_eq_true rfl) (fun a14 ha14 => ?_)
  have hw := hw a14 ha14
  obtain ⟨hg, hw⟩ := hw
  refine x_putR hg rfl rfl (by decide) ?_
  refine w_aload_n rfl rfl ?_
  refine w_bipush (v := (61 : Int32)) rfl (by decide) ?_
  refine xw_newa (tg := 20) (N := 61) rfl rfl (by decide) (by decide) (Nat.le_of_ble_eq_true rfl) (Nat.le_of_ble_eq_true rfl) (Nat.le_of_ble_eq_true rfl) (fun a15 ha15 => ?_)
  have hw := hw a15 ha15
  obtain ⟨hg, hw⟩ := hw
  refine x_putR hg rfl rfl (by decide) ?_
  refine w_aload_n rfl rfl ?_
  refine w_bipush (v := (61 : Int32)) rfl (by decide) ?_
  refine xw_newa (tg := 21) (N := 61) rfl rfl (by decide) (by decide) (Nat.le_of_ble_eq_true rfl) (Nat.le_of_ble_eq_true rfl) (Nat.le_of_ble_eq_true rfl) (fun a16 ha16 => ?_)
  have hw := hw a16 ha16
  obtain ⟨hg, hw⟩ := hw
  refine x_putR hg rfl rfl (by decide) ?_
  refine w_aload_n rfl rfl ?_
  refine w_bipush (v := (61 : Int32)) rfl (by decide) ?_
  refine xw_newa (tg := 20) (N := 61) rfl rfl (by decide) (by decide) (Nat.le_of_ble_eq_true rfl) (Nat.le_of_ble_eq_true rfl) (Nat.le_of_ble_eq_true rfl) (fun a17 ha17 => ?_)
  have hw := hw a17 ha17
  obtain ⟨hg, hw⟩ := hw
  refine x_putR hg rfl rfl (by decide) ?_
  refine w_aload_n rfl rfl ?_
  refine w_sipush (v := (244 : Int32)) rfl (by decide) ?_
  refine xw_newa (tg := 21) (N := 244) rfl rfl (by decide) (by decide) (Nat.le_of_ble_eq_true rfl) (Nat.le_of_ble_eq_true rfl) (Nat.le_of_ble_eq_true rfl) (fun a18 ha18 => ?_)
  have hw := hw a18 ha18
  obtain ⟨hg, hw⟩ := hw
  refine x_putR hg rfl rfl (by decide) ?_
  refine w_aload_n rfl rfl ?_
  refine w_bipush (v := (61 : Int32)) rfl (by decide) ?_
  refine xw_newa (tg := 20) (N := 61) rfl rfl (by decide) (by decide) (Nat.le_of_ble_eq_true rfl) (Nat.le_of_ble_eq_true rfl) (Nat.le_of_ble_eq_true rfl) (fun a19 ha19 => ?_)
  have hw := hw a19 ha19
  obtain ⟨hg, hw⟩ := hw
  refine x_putR hg rfl rfl (by decide) ?_
  refine w_aload_n rfl rfl ?_
  refine w_bipush (v := (61 : Int32)) rfl (by decide) ?_
  refine xw_newa (tg := 20) (N := 61) rfl rfl (by decide) (by decide) (Nat.le_of_ble_eq_true rfl) (Nat.le_of_ble_eq_true rfl) (Nat.le_of_ble_eq_true rfl) (fun a20 ha20 => ?_)
  have hw := hw a20 ha20
  obtain ⟨hg, hw⟩ := hw
  refine x_putR hg rfl rfl (by decide) ?_
  refine w_aload_n rfl rfl ?_
  refine w_sipush (v := (2440 : Int32)) rfl (by decide) ?_
  refine xw_newa (tg := 20) (N := 2440) rfl rfl (by decide) (by decide) (Nat.le_of_ble_eq_true rfl) (Nat.le_of_ble_eq_true rfl) (Nat.le_of_ble_eq_true rfl) (fun a21 ha21 => ?_)
  have hw := hw a21 ha21
  obtain ⟨hg, hw⟩ := hw
  refine x_putR hg rfl rfl (by decide) ?_
  refine w_aload_n rfl rfl ?_
  refine w_bipush (v := (61 : Int32)) rfl (by decide) ?_
  refine xw_newa (tg := 20) (N := 61) rfl rfl (by decide) (by decide) (Nat.le_of_ble_eq_true rfl) (Nat.le_of_ble_eq_true rfl) (Nat.le_of_ble_eq_true rfl) (fun a22 ha22 => ?_)
  have hw := hw a22 ha22
  obtain ⟨hg, hw⟩ := hw
  refine x_putR hg rfl rfl (by decide) ?_
  refine w_aload_n rfl rfl ?_
  refine w_sipush (v := (24400 : Int32)) rfl (by decide) ?_
  refine xw_newa (tg := 20) (N := 24400) rfl rfl (by decide) (by decide) (Nat.le_of_ble_eq_true rfl) (Nat.le_of_ble_eq_true rfl) (Nat.le_of_ble_eq_true rfl) (fun a23 ha23 => ?_)
  have hw := hw a23 ha23
  obtain ⟨hg, hw⟩ := hw
  refine x_putR hg rfl rfl (by decide) ?_
  refine w_aload_n rfl rfl ?_
  refine w_sipush (v := (24400 : Int32)) rfl (by decide) ?_
  refine xw_newa (tg := 20) (N := 24400) rfl rfl (by decide) (by decide) (Nat.le_of_ble_eq_true rfl) (Nat.le_of_ble_eq_true rfl) (Nat.le_of_ble_eq_true rfl) (fun a24 ha24 => ?_)
  have hw := hw a24 ha24
  obtain ⟨hg, hw⟩ := hw
  refine x_putR hg rfl rfl (by decide) ?_
  refine w_aload_n rfl rfl ?_
  refine w_sipush (v := (24400 : Int32)) rfl (by decide) ?_
  refine xw_newa (tg := 20) (N := 24400) rfl rfl (by decide) (by decide) (Nat.le_of_ble_eq_true rfl) (Nat.le_of_ble_eq_true rfl) (Nat.le_of_ble_eq_true rfl) (fun a25 ha25 => ?_)
  have hw := hw a25 ha25
  obtain ⟨hg, hw⟩ := hw
  refine x_putR hg rfl rfl (by decide) ?_
  refine w_aload_n rfl rfl ?_
  refine w_ldc (v := (87840 : Int32)) rfl rfl ?_
  refine xw_newa (tg := 20) (N := 87840) rfl rfl (by decide) (by decide) (Nat.le_of_ble_eq_true rfl) (Nat.le_of_ble_eq_true rfl) (Nat.le_of_ble_eq_true rfl) (fun a26 ha26 => ?_)
  have hw := hw a26 ha26
  obtain ⟨hg, hw⟩ := hw
  refine x_putR hg rfl rfl (by decide) ?_
  refine w_aload_n rfl rfl ?_
  refine w_ldc (v := (87840 : Int32)) rfl rfl ?_
  refine xw_newa (tg := 20) (N := 87840) rfl rfl (by decide) (by decide) (Nat.le_of_ble_eq_true rfl) (Nat.le_of_ble_eq_true rfl) (Nat.le_of_ble_eq_true rfl) (fun a27 ha27 => ?_)
  have hw := hw a27 ha27
  obtain ⟨hg, hw⟩ := hw
  refine x_putR hg rfl rfl (by decide) ?_
  refine w_aload_n rfl rfl ?_
  refine w_ldc (v := (87840 : Int32)) rfl rfl ?_
  refine xw_newa (tg := 20) (N := 87840) rfl rfl (by decide) (by decide) (Nat.le_of_ble_eq_true rfl) (Nat.le_of_ble_eq_true rfl) (Nat.le_of_ble_eq_true rfl) (fun a28 ha28 => ?_)
  have hw := hw a28 ha28
  obtain ⟨hg, hw⟩ := hw
  refine x_putR hg rfl rfl (by decide) ?_
  refine w_aload_n rfl rfl ?_
  refine w_bipush (v := (61 : Int32)) rfl (by decide) ?_
  refine xw_newa (tg := 20) (N := 61) rfl rfl (by decide) (by decide) (Nat.le_of_ble_eq_true rfl) (Nat.le_of_ble_eq_true rfl) (Nat.le_of_ble_eq_true rfl) (fun a29 ha29 => ?_)
  have hw := hw a29 ha29
  obtain ⟨hg, hw⟩ := hw
  refine x_putR hg rfl rfl (by decide) ?_
  refine w_aload_n rfl rfl ?_
  refine w_bipush (v := (61 : Int32)) rfl (by decide) ?_
  refine xw_newa (tg := 20) (N := 61) rfl rfl (by decide) (by decide) (Nat.le_of_ble_eq_true rfl) (Nat.le_of_ble_eq_true rfl) (Nat.le_of_ble_eq_true rfl) (fun a30 ha30 => ?_)
  have hw := hw a30 ha30
  obtain ⟨hg, hw⟩ := hw
  refine x_putR hg rfl rfl (by decide) ?_
  refine w_aload_n rfl rfl ?_
  refine w_bipush (v := (61 : Int32)) rfl (by decide) ?_
  refine xw_newa (tg := 20) (N := 61) rfl rfl (by decide) (by decide) (Nat.le_of_ble_eq_true rfl) (Nat.le_of_ble_eq_true rfl) (Nat.le_of_ble_eq_true rfl) (fun a31 ha31 => ?_)
  have hw := hw a31 ha31
  obtain ⟨hg, hw⟩ := hw
  refine x_putR hg rfl rfl (by decide) ?_
  refine w_aload_n rfl rfl ?_
  refine w_bipush (v := (61 : Int32)) rfl (by decide) ?_
  refine xw_newa (tg := 20) (N := 61) rfl rfl (by decide) (by decide) (Nat.le_of_ble_eq_true rfl) (Nat.le_of_ble_eq_true rfl) (Nat.le_of_ble_eq_true rfl) (fun a32 ha32 => ?_)
  have hw := hw a32 ha32
  obtain ⟨hg, hw⟩ := hw
  refine x_putR hg rfl rfl (by decide) ?_
  refine w_aload_n rfl rfl ?_
  refine w_bipush (v := (61 : Int32)) rfl (by decide) ?_
  refine xw_newa (tg := 20) (N := 61) rfl rfl (by decide) (by decide) (Nat.le_of_ble_eq_true rfl) (Nat.le_of_ble_eq_true rfl) (Nat.le_of_ble_eq_true rfl) (fun a33 ha33 => ?_)
  have hw := hw a33 ha33
  obtain ⟨hg, hw⟩ := hw
  refine x_putR hg rfl rfl (by decide) ?_
  refine w_aload_n rfl rfl ?_
  refine w_sipush (v := (244 : Int32)) rfl (by decide) ?_
  refine xw_newa (tg := 20) (N := 244) rfl rfl (by decide) (by decide) (Nat.le_of_ble_eq_true rfl) (Nat.le_of_ble_eq_true rfl) (Nat.le_of_ble_eq_true rfl) (fun a34 ha34 => ?_)
  have hw := hw a34 ha34
  obtain ⟨hg, hw⟩ := hw
  refine x_putR hg rfl rfl (by decide) ?_
  refine w_aload_n rfl rfl ?_
  refine w_sipush (v := (900 : Int32)) rfl (by decide) ?_
  refine xw_newa (tg := 20) (N := 900) rfl rfl (by decide) (by decide) (Nat.le_of_ble_eq_true rfl) (Nat.le_of_ble_eq_true rfl) (Nat.le_of_ble_eq_true rfl) (fun a35 ha35 => ?_)
  have hw := hw a35 ha35
  obtain ⟨hg, hw⟩ := hw
  refine x_putR hg rfl rfl (by decide) ?_
  refine w_aload_n rfl rfl ?_
  refine w_sipush (v := (900 : Int32)) rfl (by decide) ?_
  refine xw_newa (tg := 20) (N := 900) rfl rfl (by decide) (by decide) (Nat.le_of_ble_eq_true rfl) (Nat.le_of_ble_eq_true rfl) (Nat.le_of_ble_eq_true rfl) (fun a36 ha36 => ?_)
  have hw := hw a36 ha36
  obtain ⟨hg, hw⟩ := hw
  refine x_putR hg rfl rfl (by decide) ?_
  refine w_aload_n rfl rfl ?_
  refine w_sipush (v := (924 : Int32)) rfl (by decide) ?_
  refine xw_newa (tg := 20) (N := 924) rfl rfl (by decide) (by decide) (Nat.le_of_ble_eq_true rfl) (Nat.le_of_ble_eq_true rfl) (Nat.le_of_ble_eq_true rfl) (fun a37 ha37 => ?_)
  have hw := hw a37 ha37
  obtain ⟨hg, hw⟩ := hw
  refine x_putR hg rfl rfl (by decide) ?_
  refine w_aload_n rfl rfl ?_
  refine w_iload_n rfl rfl ?_
  refine w_iconst (v := (4 : Int32)) rfl (by decide) ?_
  refine w_bipush (v := (60 : Int32)) rfl (by decide) ?_
  obtain ⟨q38, hc, hw⟩ := hw
  refine w_static [_, _, _] _ rfl rfl rfl rfl (Nat.le_of_ble_eq_true rfl) (Nat.le_of_ble_eq_true rfl) (Nat.le_of_ble_eq_true rfl) (tH_nearest (d := d + 0) hc ?_)
  obtain ⟨hg, hw⟩ := hw
  refine x_putI hg rfl rfl (by decide) ?_
  refine w_aload_n rfl rfl ?_
  refine w_iload_n rfl rfl ?_
  refine w_iconst (v := (2 : Int32)) rfl (by decide) ?_
  refine w_bipush (v := (24 : Int32)) rfl (by decide) ?_
  obtain ⟨q39, hc, hw⟩ := hw
  refine w_static [_, _, _] _ rfl rfl rfl rfl (Nat.le_of_ble_eq_true rfl) (Nat.le_of_ble_eq_true rfl) (Nat.le_of_ble_eq_true rfl) (tH_nearest (d := d + 0) hc ?_)
  obtain ⟨hg, hw⟩ := hw
  refine x_putI hg rfl rfl (by decide) ?_
  exact w_return rfl rfl (Nat.le_of_ble_eq_true rfl) (Nat.le_of_ble_eq_true rfl) hw
