def f_Pane_loseOutside (n : Nat) (h : gHp) (a0 : Nat) (x1 : Int32) (x2 : Int32) : Option (gHp) := some (h)
set_option maxHeartbeats 4000000 in
set_option maxRecDepth 100000 in
theorem t_Pane_loseOutside {d n a0 : Nat} {h : gHp} {x1 : Int32} {x2 : Int32} {res : gHp} {Q : Option gv → gHp → Prop} (hf : f_Pane_loseOutside n h a0 x1 x2 = some res) (hQ : Q (none) res) : gCall (d + 1) m_Pane_loseOutside [.inr (some a0), .inl x1, .inl x2] h Q := by
  unfold f_Pane_loseOutside at hf
  refine g_enter (d := d + 0) (Nat.le_of_ble_eq_true rfl) ?_
  show gWP (gCall (d + 0)) m_Pane_loseOutside Q 0 [some (.inr (some a0)), some (.inl x1), some (.inl x2)] [] h 0 0
  cases hf
  exact w_return rfl rfl (Nat.le_refl _) (Nat.le_refl _) hQ
def f_Writing_wanted (n : Nat) (h : gHp) (a0 : Nat) (x1 : Int32) (x2 : Int32) : Option (Int32 × gHp) := some (x1, h)
set_option maxHeartbeats 4000000 in
set_option maxRecDepth 100000 in
theorem t_Writing_wanted {d n a0 : Nat} {h : gHp} {x1 : Int32} {x2 : Int32} {res : Int32 × gHp} {Q : Option gv → gHp → Prop} (hf : f_Writing_wanted n h a0 x1 x2 = some res) (hQ : Q (some (.inl res.1)) res.2) : gCall (d + 1) m_Writing_wanted [.inr (some a0), .inl x1, .inl x2] h Q := by
  unfold f_Writing_wanted at hf
  refine g_enter (d := d + 0) (Nat.le_of_ble_eq_true rfl) ?_
  show gWP (gCall (d + 0)) m_Writing_wanted Q 0 [some (.inr (some a0)), some (.inl x1), some (.inl x2)] [] h 0 0
  refine w_iload_n rfl rfl ?_
  cases hf
  exact w_ireturn rfl (int_ret _) (Nat.le_refl _) (Nat.le_refl _) hQ
def f_Pane_wanted (n : Nat) (h : gHp) (a0 : Nat) (x1 : Int32) (x2 : Int32) : Option (Int32 × gHp) := some ((0 : Int32), h)
set_option maxHeartbeats 4000000 in
set_option maxRecDepth 100000 in
theorem t_Pane_wanted {d n a0 : Nat} {h : gHp} {x1 : Int32} {x2 : Int32} {res : Int32 × gHp} {Q : Option gv → gHp → Prop} (hf : f_Pane_wanted n h a0 x1 x2 = some res) (hQ : Q (some (.inl res.1)) res.2) : gCall (d + 1) m_Pane_wanted [.inr (some a0), .inl x1, .inl x2] h Q := by
  unfold f_Pane_wanted at hf
  refine g_enter (d := d + 0) (Nat.le_of_ble_eq_true rfl) ?_
  show gWP (gCall (d + 0)) m_Pane_wanted Q 0 [some (.inr (some a0)), some (.inl x1), some (.inl x2)] [] h 0 0
  refine w_iconst (v := (0 : Int32)) rfl (by decide) ?_
  cases hf
  exact w_ireturn rfl (int_ret _) (Nat.le_refl _) (Nat.le_refl _) hQ
def f_Pane_cellAt (n : Nat) (h : gHp) (a0 : Nat) (x1 : Int32) (x2 : Int32) : Option (Int32 × gHp) := some ((32 : Int32), h)
set_option maxHeartbeats 4000000 in
set_option maxRecDepth 100000 in
theorem t_Pane_cellAt {d n a0 : Nat} {h : gHp} {x1 : Int32} {x2 : Int32} {res : Int32 × gHp} {Q : Option gv → gHp → Prop} (hf : f_Pane_cellAt n h a0 x1 x2 = some res) (hQ : Q (some (.inl res.1)) res.2) : gCall (d + 1) m_Pane_cellAt [.inr (some a0), .inl x1, .inl x2] h Q := by
  unfold f_Pane_cellAt at hf
  refine g_enter (d := d + 0) (Nat.le_of_ble_eq_true rfl) ?_
  show gWP (gCall (d + 0)) m_Pane_cellAt Q 0 [some (.inr (some a0)), some (.inl x1), some (.inl x2)] [] h 0 0
  refine w_bipush (v := (32 : Int32)) rfl (by decide) ?_
  cases hf
  exact w_ireturn rfl (int_ret _) (Nat.le_refl _) (Nat.le_refl _) hQ
def f_G_signOf (n : Nat) (h : gHp) (x0 : Int32) : Option (Int32 × gHp) := some (x0 &&& (127 : Int32), h)
set_option maxHeartbeats 4000000 in
set_option maxRecDepth 100000 in
theorem t_G_signOf {d n : Nat} {h : gHp} {x0 : Int32} {res : Int32 × gHp} {Q : Option gv → gHp → Prop} (hf : f_G_signOf n h x0 = some res) (hQ : Q (some (.inl res.1)) res.2) : gCall (d + 1) m_G_signOf [.inl x0] h Q := by
  unfold f_G_signOf at hf
  refine g_enter (d := d + 0) (Nat.le_of_ble_eq_true rfl) ?_
  show gWP (gCall (d + 0)) m_G_signOf Q 0 [some (.inl x0)] [] h 0 0
  refine w_iload_n rfl rfl ?_
  refine w_bipush (v := (127 : Int32)) rfl (by decide) ?_
  refine w_iand rfl ?_
  cases hf
  exact w_ireturn rfl (int_ret _) (Nat.le_refl _) (Nat.le_refl _) hQ
def f_Text_clear (n : Nat) (h : gHp) (a0 : Nat) : Option (gHp) := (bif gtin (gtag (h) a0) [6] then some (gsetI (h) a0 14 ((0 : Int32))) else none)
set_option maxHeartbeats 4000000 in
set_option maxRecDepth 100000 in
theorem t_Text_clear {d n a0 : Nat} {h : gHp} {res : gHp} {Q : Option gv → gHp → Prop} (hf : f_Text_clear n h a0  = some res) (hQ : Q (none) res) : gCall (d + 1) m_Text_clear [.inr (some a0)] h Q := by
  unfold f_Text_clear at hf
  refine g_enter (d := d + 0) (Nat.le_of_ble_eq_true rfl) ?_
  show gWP (gCall (d + 0)) m_Text_clear Q 0 [some (.inr (some a0))] [] h 0 0
  refine w_aload_n rfl rfl ?_
  refine w_iconst (v := (0 : Int32)) rfl (by decide) ?_
  obtain ⟨hg, hf⟩ := g_guard hf
  refine x_putI hg rfl rfl (by decide) ?_
  cases hf
  exact w_return rfl rfl (Nat.le_refl _) (Nat.le_refl _) hQ
def f_G_linkOf (n : Nat) (h : gHp) (x0 : Int32) : Option (Int32 × gHp) := some (x0 >>> ((11 : Int32) &&& 31), h)
set_option maxHeartbeats 4000000 in
set_option maxRecDepth 100000 in
theorem t_G_linkOf {d n : Nat} {h : gHp} {x0 : Int32} {res : Int32 × gHp} {Q : Option gv → gHp → Prop} (hf : f_G_linkOf n h x0 = some res) (hQ : Q (some (.inl res.1)) res.2) : gCall (d + 1) m_G_linkOf [.inl x0] h Q := by
  unfold f_G_linkOf at hf
  refine g_enter (d := d + 0) (Nat.le_of_ble_eq_true rfl) ?_
  show gWP (gCall (d + 0)) m_G_linkOf Q 0 [some (.inl x0)] [] h 0 0
  refine w_iload_n rfl rfl ?_
  refine w_bipush (v := (11 : Int32)) rfl (by decide) ?_
  refine w_ishr rfl ?_
  cases hf
  exact w_ireturn rfl (int_ret _) (Nat.le_refl _) (Nat.le_refl _) hQ
def f_Events_tellOldest (n : Nat) (h : gHp) (a0 : Nat) : Option (Int32 × gHp) := (bif gtin (gtag (h) a0) [0] then (if (0 : Int32) < (gint (h) a0 4) then (bif gtin (gtag (h) a0) [0] then (bif gtin (gtag (h) a0) [0] then ((gref (h) a0 0).bind (fun b2 => (bif (gArr (gtag (h) b2) 22 (gint (h) a0 3) || gArr (gtag (h) b2) 23 (gint (h) a0 3)) then (bif gtin (gtag (h) a0) [0] then ((gref (h) a0 1).bind (fun b3 => ((gref (h) b2 (ix (gint (h) a0 3))).bind (fun b4 => (bif gCpk (h) b4 b3 ((0 : Int32)) ((0 : Int32)) ((44 : Int32)) then (bif gtin (gtag (gcpy (h) b4 b3 (ix ((0 : Int32))) (ix ((0 : Int32))) (ix ((44 : Int32)))) a0) [0] then (bif gtin (gtag (gsetI (gcpy (h) b4 b3 (ix ((0 : Int32))) (ix ((0 : Int32))) (ix ((44 : Int32)))) a0 2 ((1 : Int32))) a0) [0] then (bif decide (¬ (20 : Int32) = 0) then (bif gtin (gtag (gsetI (gcpy (h) b4 b3 (ix ((0 : Int32))) (ix ((0 : Int32))) (ix ((44 : Int32)))) a0 2 ((1 : Int32))) a0) [0] then (bif gtin (gtag (gsetI (gsetI (gcpy (h) b4 b3 (ix ((0 : Int32))) (ix ((0 : Int32))) (ix ((44 : Int32)))) a0 2 ((1 : Int32))) a0 3 (((gint (gsetI (gcpy (h) b4 b3 (ix ((0 : Int32))) (ix ((0 : Int32))) (ix ((44 : Int32)))) a0 2 ((1 : Int32))) a0 3) + (1 : Int32)) - ((gint (gsetI (gcpy (h) b4 b3 (ix ((0 : Int32))) (ix ((0 : Int32))) (ix ((44 : Int32)))) a0 2 ((1 : Int32))) a0 3) + (1 : Int32)) / (20 : Int32) * (20 : Int32))) a0) [0] then (bif gtin (gtag (gsetI (gsetI (gcpy (h) b4 b3 (ix ((0 : Int32))) (ix ((0 : Int32))) (ix ((44 : Int32)))) a0 2 ((1 : Int32))) a0 3 (((gint (gsetI (gcpy (h) b4 b3 (ix ((0 : Int32))) (ix ((0 : Int32))) (ix ((44 : Int32)))) a0 2 ((1 : Int32))) a0 3) + (1 : Int32)) - ((gint (gsetI (gcpy (h) b4 b3 (ix ((0 : Int32))) (ix ((0 : Int32))) (ix ((44 : Int32)))) a0 2 ((1 : Int32))) a0 3) + (1 : Int32)) / (20 : Int32) * (20 : Int32))) a0) [0] then (bif gtin (gtag (gsetI (gsetI (gsetI (gcpy (h) b4 b3 (ix ((0 : Int32))) (ix ((0 : Int32))) (ix ((44 : Int32)))) a0 2 ((1 : Int32))) a0 3 (((gint (gsetI (gcpy (h) b4 b3 (ix ((0 : Int32))) (ix ((0 : Int32))) (ix ((44 : Int32)))) a0 2 ((1 : Int32))) a0 3) + (1 : Int32)) - ((gint (gsetI (gcpy (h) b4 b3 (ix ((0 : Int32))) (ix ((0 : Int32))) (ix ((44 : Int32)))) a0 2 ((1 : Int32))) a0 3) + (1 : Int32)) / (20 : Int32) * (20 : Int32))) a0 4 ((gint (gsetI (gsetI (gcpy (h) b4 b3 (ix ((0 : Int32))) (ix ((0 : Int32))) (ix ((44 : Int32)))) a0 2 ((1 : Int32))) a0 3 (((gint (gsetI (gcpy (h) b4 b3 (ix ((0 : Int32))) (ix ((0 : Int32))) (ix ((44 : Int32)))) a0 2 ((1 : Int32))) a0 3) + (1 : Int32)) - ((gint (gsetI (gcpy (h) b4 b3 (ix ((0 : Int32))) (ix ((0 : Int32))) (ix ((44 : Int32)))) a0 2 ((1 : Int32))) a0 3) + (1 : Int32)) / (20 : Int32) * (20 : Int32))) a0 4) - (1 : Int32))) a0) [0] then ((gref (gsetI (gsetI (gsetI (gcpy (h) b4 b3 (ix ((0 : Int32))) (ix ((0 : Int32))) (ix ((44 : Int32)))) a0 2 ((1 : Int32))) a0 3 (((gint (gsetI (gcpy (h) b4 b3 (ix ((0 : Int32))) (ix ((0 : Int32))) (ix ((44 : Int32)))) a0 2 ((1 : Int32))) a0 3) + (1 : Int32)) - ((gint (gsetI (gcpy (h) b4 b3 (ix ((0 : Int32))) (ix ((0 : Int32))) (ix ((44 : Int32)))) a0 2 ((1 : Int32))) a0 3) + (1 : Int32)) / (20 : Int32) * (20 : Int32))) a0 4 ((gint (gsetI (gsetI (gcpy (h) b4 b3 (ix ((0 : Int32))) (ix ((0 : Int32))) (ix ((44 : Int32)))) a0 2 ((1 : Int32))) a0 3 (((gint (gsetI (gcpy (h) b4 b3 (ix ((0 : Int32))) (ix ((0 : Int32))) (ix ((44 : Int32)))) a0 2 ((1 : Int32))) a0 3) + (1 : Int32)) - ((gint (gsetI (gcpy (h) b4 b3 (ix ((0 : Int32))) (ix ((0 : Int32))) (ix ((44 : Int32)))) a0 2 ((1 : Int32))) a0 3) + (1 : Int32)) / (20 : Int32) * (20 : Int32))) a0 4) - (1 : Int32))) a0 1).bind (fun b5 => (bif gArr (gtag (gsetI (gsetI (gsetI (gcpy (h) b4 b3 (ix ((0 : Int32))) (ix ((0 : Int32))) (ix ((44 : Int32)))) a0 2 ((1 : Int32))) a0 3 (((gint (gsetI (gcpy (h) b4 b3 (ix ((0 : Int32))) (ix ((0 : Int32))) (ix ((44 : Int32)))) a0 2 ((1 : Int32))) a0 3) + (1 : Int32)) - ((gint (gsetI (gcpy (h) b4 b3 (ix ((0 : Int32))) (ix ((0 : Int32))) (ix ((44 : Int32)))) a0 2 ((1 : Int32))) a0 3) + (1 : Int32)) / (20 : Int32) * (20 : Int32))) a0 4 ((gint (gsetI (gsetI (gcpy (h) b4 b3 (ix ((0 : Int32))) (ix ((0 : Int32))) (ix ((44 : Int32)))) a0 2 ((1 : Int32))) a0 3 (((gint (gsetI (gcpy (h) b4 b3 (ix ((0 : Int32))) (ix ((0 : Int32))) (ix ((44 : Int32)))) a0 2 ((1 : Int32))) a0 3) + (1 : Int32)) - ((gint (gsetI (gcpy (h) b4 b3 (ix ((0 : Int32))) (ix ((0 : Int32))) (ix ((44 : Int32)))) a0 2 ((1 : Int32))) a0 3) + (1 : Int32)) / (20 : Int32) * (20 : Int32))) a0 4) - (1 : Int32))) b5) 20 ((0 : Int32)) then some (gint (gsetI (gsetI (gsetI (gcpy (h) b4 b3 (ix ((0 : Int32))) (ix ((0 : Int32))) (ix ((44 : Int32)))) a0 2 ((1 : Int32))) a0 3 (((gint (gsetI (gcpy (h) b4 b3 (ix ((0 : Int32))) (ix ((0 : Int32))) (ix ((44 : Int32)))) a0 2 ((1 : Int32))) a0 3) + (1 : Int32)) - ((gint (gsetI (gcpy (h) b4 b3 (ix ((0 : Int32))) (ix ((0 : Int32))) (ix ((44 : Int32)))) a0 2 ((1 : Int32))) a0 3) + (1 : Int32)) / (20 : Int32) * (20 : Int32))) a0 4 ((gint (gsetI (gsetI (gcpy (h) b4 b3 (ix ((0 : Int32))) (ix ((0 : Int32))) (ix ((44 : Int32)))) a0 2 ((1 : Int32))) a0 3 (((gint (gsetI (gcpy (h) b4 b3 (ix ((0 : Int32))) (ix ((0 : Int32))) (ix ((44 : Int32)))) a0 2 ((1 : Int32))) a0 3) + (1 : Int32)) - ((gint (gsetI (gcpy (h) b4 b3 (ix ((0 : Int32))) (ix ((0 : Int32))) (ix ((44 : Int32)))) a0 2 ((1 : Int32))) a0 3) + (1 : Int32)) / (20 : Int32) * (20 : Int32))) a0 4) - (1 : Int32))) b5 (ix ((0 : Int32))), gsetI (gsetI (gsetI (gcpy (h) b4 b3 (ix ((0 : Int32))) (ix ((0 : Int32))) (ix ((44 : Int32)))) a0 2 ((1 : Int32))) a0 3 (((gint (gsetI (gcpy (h) b4 b3 (ix ((0 : Int32))) (ix ((0 : Int32))) (ix ((44 : Int32)))) a0 2 ((1 : Int32))) a0 3) + (1 : Int32)) - ((gint (gsetI (gcpy (h) b4 b3 (ix ((0 : Int32))) (ix ((0 : Int32))) (ix ((44 : Int32)))) a0 2 ((1 : Int32))) a0 3) + (1 : Int32)) / (20 : Int32) * (20 : Int32))) a0 4 ((gint (gsetI (gsetI (gcpy (h) b4 b3 (ix ((0 : Int32))) (ix ((0 : Int32))) (ix ((44 : Int32)))) a0 2 ((1 : Int32))) a0 3 (((gint (gsetI (gcpy (h) b4 b3 (ix ((0 : Int32))) (ix ((0 : Int32))) (ix ((44 : Int32)))) a0 2 ((1 : Int32))) a0 3) + (1 : Int32)) - ((gint (gsetI (gcpy (h) b4 b3 (ix ((0 : Int32))) (ix ((0 : Int32))) (ix ((44 : Int32)))) a0 2 ((1 : Int32))) a0 3) + (1 : Int32)) / (20 : Int32) * (20 : Int32))) a0 4) - (1 : Int32))) else none))) else none) else none) else none) else none) else none) else none) else none) else none))))) else none) else none))) else none) else none) else some ((-2 : Int32), h)) else none)
set_option maxHeartbeats 4000000 in
set_option maxRecDepth 100000 in
theorem t_Events_tellOldest {d n a0 : Nat} {h : gHp} {res : Int32 × gHp} {Q : Option gv → gHp → Prop} (hf : f_Events_tellOldest n h a0  = some res) (hQ : Q (some (.inl res.1)) res.2) : gCall (d + 1) m_Events_tellOldest [.inr (some a0)] h Q := by
  unfold f_Events_tellOldest at hf
  refine g_enter (d := d + 0) (Nat.le_of_ble_eq_true rfl) ?_
  show gWP (gCall (d + 0)) m_Events_tellOldest Q 0 [some (.inr (some a0))] [] h 0 0
  refine w_aload_n rfl rfl ?_
  obtain ⟨hg, hf⟩ := g_guard hf
  refine x_getI hg rfl rfl rfl ?_
  refine w_if (t := 10) rfl (by decide) (fun c1 => ?_) (fun c1 => ?_)
  · have c1 : (0 : Int32) < (gint (h) a0 4) := c1
    rw [if_pos c1] at hf
    refine w_aload_n rfl rfl ?_
    obtain ⟨hg, hf⟩ := g_guard hf
    refine x_getR hg rfl rfl rfl ?_
    refine w_aload_n rfl rfl ?_
    obtain ⟨hg, hf⟩ := g_guard hf
    refine x_getI hg rfl rfl rfl ?_
    obtain ⟨b2, ho, hf⟩ := g_bind hf
    refine x_dr1 ho ?_
    obtain ⟨hg, hf⟩ := g_guard hf
    refine x_ald hg rfl ?_
    refine w_iconst (v := (0 : Int32)) rfl (by decide) ?_
    refine w_aload_n rfl rfl ?_
    obtain ⟨hg, hf⟩ := g_guard hf
    refine x_getR hg rfl rfl rfl ?_
    refine w_iconst (v := (0 : Int32)) rfl (by decide) ?_
    refine w_bipush (v := (44 : Int32)) rfl (by decide) ?_
    obtain ⟨b3, ho, hf⟩ := g_bind hf
    refine x_dr2 ho ?_
    obtain ⟨b4, ho, hf⟩ := g_bind hf
    refine x_dr4 ho ?_
    obtain ⟨hg, hf⟩ := g_guard hf
    refine x_copy hg rfl rfl (Nat.le_of_ble_eq_true rfl) ?_
    refine w_aload_n rfl rfl ?_
    refine w_iconst (v := (1 : Int32)) rfl (by decide) ?_
    obtain ⟨hg, hf⟩ := g_guard hf
    refine x_putZ rfl hg rfl rfl (by decide) ?_
    refine w_aload_n rfl rfl ?_
    refine w_aload_n rfl rfl ?_
    obtain ⟨hg, hf⟩ := g_guard hf
    refine x_getI hg rfl rfl rfl ?_
    refine w_iconst (v := (1 : Int32)) rfl (by decide) ?_
    refine w_iadd rfl ?_
    refine w_bipush (v := (20 : Int32)) rfl (by decide) ?_
    obtain ⟨hb, hf⟩ := g_guard hf
    refine w_irem rfl (of_decide_eq_true hb) ?_
    obtain ⟨hg, hf⟩ := g_guard hf
    refine x_putI hg rfl rfl (by decide) ?_
    refine w_aload_n rfl rfl ?_
    refine w_dup rfl ?_
    obtain ⟨hg, hf⟩ := g_guard hf
    refine x_getI hg rfl rfl rfl ?_
    refine w_iconst (v := (1 : Int32)) rfl (by decide) ?_
    refine w_isub rfl ?_
    obtain ⟨hg, hf⟩ := g_guard hf
    refine x_putI hg rfl rfl (by decide) ?_
    refine w_aload_n rfl rfl ?_
    obtain ⟨hg, hf⟩ := g_guard hf
    refine x_getR hg rfl rfl rfl ?_
    refine w_iconst (v := (0 : Int32)) rfl (by decide) ?_
    obtain ⟨b5, ho, hf⟩ := g_bind hf
    refine x_dr1 ho ?_
    obtain ⟨hg, hf⟩ := g_guard hf
    refine x_ld hg rfl ?_
    cases hf
    exact w_ireturn rfl (int_ret _) (Nat.le_refl _) (Nat.le_refl _) hQ
  · have c1 : ¬ ((0 : Int32) < (gint (h) a0 4)) := c1
    rw [if_neg c1] at hf
    refine w_bipush (v := (-2 : Int32)) rfl (by decide) ?_
    cases hf
    exact w_ireturn rfl (int_ret _) (Nat.le_refl _) (Nat.le_refl _) hQ
def f_G_take (n : Nat) (h : gHp) (a0 : Nat) : Option (Int32 × gHp) := (bif gtin (gtag (h) a0) [9] then ((gref (h) a0 1).bind (fun b1 => (((bif gtis (gtag (h) b1) 0 then f_Events_tellOldest n (h) b1  else none)).bind (fun q2 => some (q2.1, q2.2))))) else none)
set_option maxHeartbeats 4000000 in
set_option maxRecDepth 100000 in
theorem t_G_take {d n a0 : Nat} {h : gHp} {res : Int32 × gHp} {Q : Option gv → gHp → Prop} (hf : f_G_take n h a0  = some res) (hQ : Q (some (.inl res.1)) res.2) : gCall (d + 2) m_G_take [.inr (some a0)] h Q := by
  unfold f_G_take at hf
  refine g_enter (d := d + 1) (Nat.le_of_ble_eq_true rfl) ?_
  show gWP (gCall (d + 1)) m_G_take Q 0 [some (.inr (some a0))] [] h 0 0
  refine w_aload_n rfl rfl ?_
  obtain ⟨hg, hf⟩ := g_guard hf
  refine x_getR hg rfl rfl rfl ?_
  obtain ⟨b1, ho, hf⟩ := g_bind hf
  refine x_dr0 ho ?_
  obtain ⟨q2, hc, hf⟩ := g_bind hf
  obtain ⟨hg, hc⟩ := g_guard hc
  refine x_virt 0 [] _ hg rfl rfl rfl rfl (Nat.le_of_ble_eq_true rfl) rfl (Nat.le_of_ble_eq_true rfl) (Nat.le_of_ble_eq_true rfl) (t_Events_tellOldest (d := d + 0) hc ?_)
  cases hf
  exact w_ireturn rfl (int_ret _) (Nat.le_refl _) (Nat.le_refl _) hQ
def f_Events_told (n : Nat) (h : gHp) (a0 : Nat) (x1 : Int32) : Option (Int32 × gHp) := (if x1 < (0 : Int32) then some ((-1 : Int32), h) else (bif gtin (gtag (h) a0) [0] then ((gref (h) a0 1).bind (fun b2 => ((gtag (h) b2).bind (fun t3 => (bif (Nat.ble 20 t3.1 && Nat.ble t3.1 24) then (if x1 < (Int32.ofNat t3.2) then (bif gtin (gtag (h) a0) [0] then (if (gint (h) a0 2) = (0 : Int32) then some ((-2 : Int32), h) else (bif gtin (gtag (h) a0) [0] then ((gref (h) a0 1).bind (fun b6 => (bif gArr (gtag (h) b6) 20 (x1) then some (gint (h) b6 (ix (x1)), h) else none))) else none)) else none) else some ((-1 : Int32), h)) else none))))) else none))
set_option maxHeartbeats 4000000 in
set_option maxRecDepth 100000 in
theorem t_Events_told {d n a0 : Nat} {h : gHp} {x1 : Int32} {res : Int32 × gHp} {Q : Option gv → gHp → Prop} (hf : f_Events_told n h a0 x1 = some res) (hQ : Q (some (.inl res.1)) res.2) : gCall (d + 1) m_Events_told [.inr (some a0), .inl x1] h Q := by
  unfold f_Events_told at hf
  refine g_enter (d := d + 0) (Nat.le_of_ble_eq_true rfl) ?_
  show gWP (gCall (d + 0)) m_Events_told Q 0 [some (.inr (some a0)), some (.inl x1)] [] h 0 0
  refine w_iload_n rfl rfl ?_
  refine w_if (t := 13) rfl (by decide) (fun c1 => ?_) (fun c1 => ?_)
  · have c1 : x1 < (0 : Int32) := c1
    rw [if_pos c1] at hf
    refine w_iconst (v := (-1 : Int32)) rfl (by decide) ?_
    cases hf
    exact w_ireturn rfl (int_ret _) (Nat.le_refl _) (Nat.le_refl _) hQ
  · have c1 : ¬ (x1 < (0 : Int32)) := c1
    rw [if_neg c1] at hf
    refine w_iload_n rfl rfl ?_
    refine w_aload_n rfl rfl ?_
    obtain ⟨hg, hf⟩ := g_guard hf
    refine x_getR hg rfl rfl rfl ?_
    obtain ⟨b2, ho, hf⟩ := g_bind hf
    refine x_dr0 ho ?_
    obtain ⟨t3, ht, hf⟩ := g_bind hf
    obtain ⟨hg, hf⟩ := g_guard hf
    refine x_len ht hg rfl ?_
    refine w_icmp (t := 15) rfl (by decide) (fun c4 => ?_) (fun c4 => ?_)
    · have c4 : x1 < (Int32.ofNat t3.2) := c4
      rw [if_pos c4] at hf
      refine w_aload_n rfl rfl ?_
      obtain ⟨hg, hf⟩ := g_guard hf
      refine x_getI hg rfl rfl rfl ?_
      refine w_if (t := 31) rfl (by decide) (fun c5 => ?_) (fun c5 => ?_)
      · have c5 : (gint (h) a0 2) = (0 : Int32) := c5
        rw [if_pos c5] at hf
        refine w_bipush (v := (-2 : Int32)) rfl (by decide) ?_
        cases hf
        exact w_ireturn rfl (int_ret _) (Nat.le_refl _) (Nat.le_refl _) hQ
      · have c5 : ¬ ((gint (h) a0 2) = (0 : Int32)) := c5
        rw [if_neg c5] at hf
        refine w_aload_n rfl rfl ?_
        obtain ⟨hg, hf⟩ := g_guard hf
        refine x_getR hg rfl rfl rfl ?_
        refine w_iload_n rfl rfl ?_
        obtain ⟨b6, ho, hf⟩ := g_bind hf
        refine x_dr1 ho ?_
        obtain ⟨hg, hf⟩ := g_guard hf
        refine x_ld hg rfl ?_
        refine w_goto (t := 33) rfl (by decide) ?_
        cases hf
        exact w_ireturn rfl (int_ret _) (Nat.le_refl _) (Nat.le_refl _) hQ
    · have c4 : ¬ (x1 < (Int32.ofNat t3.2)) := c4
      rw [if_neg c4] at hf
      refine w_iconst (v := (-1 : Int32)) rfl (by decide) ?_
      cases hf
      exact w_ireturn rfl (int_ret _) (Nat.le_refl _) (Nat.le_refl _) hQ
def f_G_event (n : Nat) (h : gHp) (a0 : Nat) (x1 : Int32) : Option (Int32 × gHp) := (bif gtin (gtag (h) a0) [9] then ((gref (h) a0 1).bind (fun b1 => (((bif gtis (gtag (h) b1) 0 then f_Events_told n (h) b1 (x1) else none)).bind (fun q2 => some (q2.1, q2.2))))) else none)
set_option maxHeartbeats 4000000 in
set_option maxRecDepth 100000 in
theorem t_G_event {d n a0 : Nat} {h : gHp} {x1 : Int32} {res : Int32 × gHp} {Q : Option gv → gHp → Prop} (hf : f_G_event n h a0 x1 = some res) (hQ : Q (some (.inl res.1)) res.2) : gCall (d + 2) m_G_event [.inr (some a0), .inl x1] h Q := by
  unfold f_G_event at hf
  refine g_enter (d := d + 1) (Nat.le_of_ble_eq_true rfl) ?_
  show gWP (gCall (d + 1)) m_G_event Q 0 [some (.inr (some a0)), some (.inl x1)] [] h 0 0
  refine w_aload_n rfl rfl ?_
  obtain ⟨hg, hf⟩ := g_guard hf
  refine x_getR hg rfl rfl rfl ?_
  refine w_iload_n rfl rfl ?_
  obtain ⟨b1, ho, hf⟩ := g_bind hf
  refine x_dr1 ho ?_
  obtain ⟨q2, hc, hf⟩ := g_bind hf
  obtain ⟨hg, hc⟩ := g_guard hc
  refine x_virt 0 [_] _ hg rfl rfl rfl rfl (Nat.le_of_ble_eq_true rfl) rfl (Nat.le_of_ble_eq_true rfl) (Nat.le_of_ble_eq_true rfl) (t_Events_told (d := d + 0) hc ?_)
  cases hf
  exact w_ireturn rfl (int_ret _) (Nat.le_refl _) (Nat.le_refl _) hQ
def f_G_numberOf (n : Nat) (h : gHp) (x0 : Option Nat) (x1 : Int32) : Option (Int32 × gHp) := (if x0 = none then some (x1, h) else (x0.bind (fun b2 => (bif gtin (gtag (h) b2) [1, 3, 4, 5, 6] then some (gint (h) b2 0, h) else none))))
set_option maxHeartbeats 4000000 in
set_option maxRecDepth 100000 in
theorem t_G_numberOf {d n : Nat} {h : gHp} {x0 : Option Nat} {x1 : Int32} {res : Int32 × gHp} {Q : Option gv → gHp → Prop} (hf : f_G_numberOf n h x0 x1 = some res) (hQ : Q (some (.inl res.1)) res.2) : gCall (d + 1) m_G_numberOf [.inr x0, .inl x1] h Q := by
  unfold f_G_numberOf at hf
  refine g_enter (d := d + 0) (Nat.le_of_ble_eq_true rfl) ?_
  show gWP (gCall (d + 0)) m_G_numberOf Q 0 [some (.inr x0), some (.inl x1)] [] h 0 0
  refine w_aload_n rfl rfl ?_
  refine w_ifnonnull (t := 8) rfl (by decide) (fun c1 => ?_) (fun c1 => ?_)
  · have c1 : ¬ (x0 = none) := c1
    rw [if_neg c1] at hf
    refine w_aload_n rfl rfl ?_
    obtain ⟨b2, ho, hf⟩ := g_bind hf
    refine x_dr0 ho ?_
    obtain ⟨hg, hf⟩ := g_guard hf
    refine x_getI hg rfl rfl rfl ?_
    cases hf
    exact w_ireturn rfl (int_ret _) (Nat.le_refl _) (Nat.le_refl _) hQ
  · have c1 : x0 = none := c1
    rw [if_pos c1] at hf
    refine w_iload_n rfl rfl ?_
    refine w_goto (t := 12) rfl (by decide) ?_
    cases hf
    exact w_ireturn rfl (int_ret _) (Nat.le_refl _) (Nat.le_refl _) hQ
def f_G_root (n : Nat) (h : gHp) (a0 : Nat) : Option (Int32 × gHp) := (bif gtin (gtag (h) a0) [9] then ((gref (h) a0 0).bind (fun b1 => (bif gtin (gtag (h) b1) [7] then ((f_G_numberOf n (h) (gref (h) b1 2) ((-2 : Int32))).bind (fun q2 => some (q2.1, q2.2))) else none))) else none)
set_option maxHeartbeats 4000000 in
set_option maxRecDepth 100000 in
theorem t_G_root {d n a0 : Nat} {h : gHp} {res : Int32 × gHp} {Q : Option gv → gHp → Prop} (hf : f_G_root n h a0  = some res) (hQ : Q (some (.inl res.1)) res.2) : gCall (d + 2) m_G_root [.inr (some a0)] h Q := by
  unfold f_G_root at hf
  refine g_enter (d := d + 1) (Nat.le_of_ble_eq_true rfl) ?_
  show gWP (gCall (d + 1)) m_G_root Q 0 [some (.inr (some a0))] [] h 0 0
  refine w_aload_n rfl rfl ?_
  obtain ⟨hg, hf⟩ := g_guard hf
  refine x_getR hg rfl rfl rfl ?_
  obtain ⟨b1, ho, hf⟩ := g_bind hf
  refine x_dr0 ho ?_
  obtain ⟨hg, hf⟩ := g_guard hf
  refine x_getR hg rfl rfl rfl ?_
  refine w_bipush (v := (-2 : Int32)) rfl (by decide) ?_
  obtain ⟨q2, hc, hf⟩ := g_bind hf
  refine w_static [_, _] _ rfl rfl rfl rfl (Nat.le_of_ble_eq_true rfl) (Nat.le_of_ble_eq_true rfl) (Nat.le_of_ble_eq_true rfl) (t_G_numberOf (d := d + 0) hc ?_)
  cases hf
  exact w_ireturn rfl (int_ret _) (Nat.le_refl _) (Nat.le_refl _) hQ
def f_G_styleOf (n : Nat) (h : gHp) (x0 : Int32) : Option (Int32 × gHp) := some ((x0 >>> ((7 : Int32) &&& 31)) &&& (15 : Int32), h)
set_option maxHeartbeats 4000000 in
set_option maxRecDepth 100000 in
theorem t_G_styleOf {d n : Nat} {h : gHp} {x0 : Int32} {res : Int32 × gHp} {Q : Option gv → gHp → Prop} (hf : f_G_styleOf n h x0 = some res) (hQ : Q (some (.inl res.1)) res.2) : gCall (d + 1) m_G_styleOf [.inl x0] h Q := by
  unfold f_G_styleOf at hf
  refine g_enter (d := d + 0) (Nat.le_of_ble_eq_true rfl) ?_
  show gWP (gCall (d + 0)) m_G_styleOf Q 0 [some (.inl x0)] [] h 0 0
  refine w_iload_n rfl rfl ?_
  refine w_bipush (v := (7 : Int32)) rfl (by decide) ?_
  refine w_ishr rfl ?_
  refine w_bipush (v := (15 : Int32)) rfl (by decide) ?_
  refine w_iand rfl ?_
  cases hf
  exact w_ireturn rfl (int_ret _) (Nat.le_refl _) (Nat.le_refl _) hQ
def f_Text_length (n : Nat) (h : gHp) (a0 : Nat) : Option (Int32 × gHp) := (bif gtin (gtag (h) a0) [6] then (bif gtin (gtag (h) a0) [6] then ((gref (h) a0 12).bind (fun b1 => (bif gtin (gtag (h) b1) [2] then some ((gint (h) a0 14) + (gint (h) b1 2), h) else none))) else none) else none)
set_option maxHeartbeats 4000000 in
set_option maxRecDepth 100000 in
theorem t_Text_length {d n a0 : Nat} {h : gHp} {res : Int32 × gHp} {Q : Option gv → gHp → Prop} (hf : f_Text_length n h a0  = some res) (hQ : Q (some (.inl res.1)) res.2) : gCall (d + 1) m_Text_length [.inr (some a0)] h Q := by
  unfold f_Text_length at hf
  refine g_enter (d := d + 0) (Nat.le_of_ble_eq_true rfl) ?_
  show gWP (gCall (d + 0)) m_Text_length Q 0 [some (.inr (some a0))] [] h 0 0
  refine w_aload_n rfl rfl ?_
  obtain ⟨hg, hf⟩ := g_guard hf
  refine x_getI hg rfl rfl rfl ?_
  refine w_aload_n rfl rfl ?_
  obtain ⟨hg, hf⟩ := g_guard hf
  refine x_getR hg rfl rfl rfl ?_
  obtain ⟨b1, ho, hf⟩ := g_bind hf
  refine x_dr0 ho ?_
  obtain ⟨hg, hf⟩ := g_guard hf
  refine x_getI hg rfl rfl rfl ?_
  refine w_iadd rfl ?_
  cases hf
  exact w_ireturn rfl (int_ret _) (Nat.le_refl _) (Nat.le_refl _) hQ
def f_Picture_cellAt (n : Nat) (h : gHp) (a0 : Nat) (x1 : Int32) (x2 : Int32) : Option (Int32 × gHp) := (bif gtin (gtag (h) a0) [5] then (if (gint (h) a0 11) = (0 : Int32) then some ((32 : Int32), h) else some ((35 : Int32), h)) else none)
set_option maxHeartbeats 4000000 in
set_option maxRecDepth 100000 in
theorem t_Picture_cellAt {d n a0 : Nat} {h : gHp} {x1 : Int32} {x2 : Int32} {res : Int32 × gHp} {Q : Option gv → gHp → Prop} (hf : f_Picture_cellAt n h a0 x1 x2 = some res) (hQ : Q (some (.inl res.1)) res.2) : gCall (d + 1) m_Picture_cellAt [.inr (some a0), .inl x1, .inl x2] h Q := by
  unfold f_Picture_cellAt at hf
  refine g_enter (d := d + 0) (Nat.le_of_ble_eq_true rfl) ?_
  show gWP (gCall (d + 0)) m_Picture_cellAt Q 0 [some (.inr (some a0)), some (.inl x1), some (.inl x2)] [] h 0 0
  refine w_aload_n rfl rfl ?_
  obtain ⟨hg, hf⟩ := g_guard hf
  refine x_getI hg rfl rfl rfl ?_
  refine w_if (t := 12) rfl (by decide) (fun c1 => ?_) (fun c1 => ?_)
  · have c1 : ¬ ((gint (h) a0 11) = (0 : Int32)) := c1
    rw [if_neg c1] at hf
    refine w_bipush (v := (35 : Int32)) rfl (by decide) ?_
    cases hf
    exact w_ireturn rfl (int_ret _) (Nat.le_refl _) (Nat.le_refl _) hQ
  · have c1 : (gint (h) a0 11) = (0 : Int32) := Classical.not_not.mp c1
    rw [if_pos c1] at hf
    refine w_bipush (v := (32 : Int32)) rfl (by decide) ?_
    refine w_goto (t := 14) rfl (by decide) ?_
    cases hf
    exact w_ireturn rfl (int_ret _) (Nat.le_refl _) (Nat.le_refl _) hQ
def f_Line_begin (n : Nat) (h : gHp) (a0 : Nat) (x1 : Int32) : Option (gHp) := (bif gtin (gtag (h) a0) [2] then (bif gtin (gtag (gsetI (h) a0 1 (x1)) a0) [2] then some (gsetI (gsetI (h) a0 1 (x1)) a0 2 ((0 : Int32))) else none) else none)
set_option maxHeartbeats 4000000 in
set_option maxRecDepth 100000 in
theorem t_Line_begin {d n a0 : Nat} {h : gHp} {x1 : Int32} {res : gHp} {Q : Option gv → gHp → Prop} (hf : f_Line_begin n h a0 x1 = some res) (hQ : Q (none) res) : gCall (d + 1) m_Line_begin [.inr (some a0), .inl x1] h Q := by
  unfold f_Line_begin at hf
  refine g_enter (d := d + 0) (Nat.le_of_ble_eq_true rfl) ?_
  show gWP (gCall (d + 0)) m_Line_begin Q 0 [some (.inr (some a0)), some (.inl x1)] [] h 0 0
  refine w_aload_n rfl rfl ?_
  refine w_iload_n rfl rfl ?_
  obtain ⟨hg, hf⟩ := g_guard hf
  refine x_putI hg rfl rfl (by decide) ?_
  refine w_aload_n rfl rfl ?_
  refine w_iconst (v := (0 : Int32)) rfl (by decide) ?_
  obtain ⟨hg, hf⟩ := g_guard hf
  refine x_putI hg rfl rfl (by decide) ?_
  cases hf
  exact w_return rfl rfl (Nat.le_refl _) (Nat.le_refl _) hQ
def f_G_isAlongRows (n : Nat) (h : gHp) (x0 : Int32) : Option (Int32 × gHp) := (if (x0 &&& (2 : Int32)) = (0 : Int32) then some ((0 : Int32), h) else some ((1 : Int32), h))
set_option maxHeartbeats 4000000 in
set_option maxRecDepth 100000 in
theorem t_G_isAlongRows {d n : Nat} {h : gHp} {x0 : Int32} {res : Int32 × gHp} {Q : Option gv → gHp → Prop} (hf : f_G_isAlongRows n h x0 = some res) (hQ : Q (some (.inl res.1)) res.2) : gCall (d + 1) m_G_isAlongRows [.inl x0] h Q := by
  unfold f_G_isAlongRows at hf
  refine g_enter (d := d + 0) (Nat.le_of_ble_eq_true rfl) ?_
  show gWP (gCall (d + 0)) m_G_isAlongRows Q 0 [some (.inl x0)] [] h 0 0
  refine w_iload_n rfl rfl ?_
  refine w_iconst (v := (2 : Int32)) rfl (by decide) ?_
  refine w_iand rfl ?_
  refine w_if (t := 10) rfl (by decide) (fun c1 => ?_) (fun c1 => ?_)
  · have c1 : (x0 &&& (2 : Int32)) = (0 : Int32) := c1
    rw [if_pos c1] at hf
    refine w_iconst (v := (0 : Int32)) rfl (by decide) ?_
    cases hf
    exact w_ireturn rfl (isZ_ret rfl) (Nat.le_refl _) (Nat.le_refl _) hQ
  · have c1 : ¬ ((x0 &&& (2 : Int32)) = (0 : Int32)) := c1
    rw [if_neg c1] at hf
    refine w_iconst (v := (1 : Int32)) rfl (by decide) ?_
    refine w_goto (t := 11) rfl (by decide) ?_
    cases hf
    exact w_ireturn rfl (isZ_ret rfl) (Nat.le_refl _) (Nat.le_refl _) hQ
def f_G_isFixed (n : Nat) (h : gHp) (x0 : Int32) : Option (Int32 × gHp) := (if (x0 &&& (4 : Int32)) = (0 : Int32) then some ((1 : Int32), h) else some ((0 : Int32), h))
set_option maxHeartbeats 4000000 in
set_option maxRecDepth 100000 in
theorem t_G_isFixed {d n : Nat} {h : gHp} {x0 : Int32} {res : Int32 × gHp} {Q : Option gv → gHp → Prop} (hf : f_G_isFixed n h x0 = some res) (hQ : Q (some (.inl res.1)) res.2) : gCall (d + 1) m_G_isFixed [.inl x0] h Q := by
  unfold f_G_isFixed at hf
  refine g_enter (d := d + 0) (Nat.le_of_ble_eq_true rfl) ?_
  show gWP (gCall (d + 0)) m_G_isFixed Q 0 [some (.inl x0)] [] h 0 0
  refine w_iload_n rfl rfl ?_
  refine w_iconst (v := (4 : Int32)) rfl (by decide) ?_
  refine w_iand rfl ?_
  refine w_if (t := 10) rfl (by decide) (fun c1 => ?_) (fun c1 => ?_)
  · have c1 : ¬ ((x0 &&& (4 : Int32)) = (0 : Int32)) := c1
    rw [if_neg c1] at hf
    refine w_iconst (v := (0 : Int32)) rfl (by decide) ?_
    cases hf
    exact w_ireturn rfl (isZ_ret rfl) (Nat.le_refl _) (Nat.le_refl _) hQ
  · have c1 : (x0 &&& (4 : Int32)) = (0 : Int32) := Classical.not_not.mp c1
    rw [if_pos c1] at hf
    refine w_iconst (v := (1 : Int32)) rfl (by decide) ?_
    refine w_goto (t := 11) rfl (by decide) ?_
    cases hf
    exact w_ireturn rfl (isZ_ret rfl) (Nat.le_refl _) (Nat.le_refl _) hQ
def f_Events_nextRow_B32 (a0 : Nat) (n : Nat) (h : gHp) : Option (Option Nat × gHp) := (bif gtin (gtag (h) a0) [0] then (bif gtin (gtag (h) a0) [0] then (bif decide (¬ (20 : Int32) = 0) then (bif gtin (gtag (h) a0) [0] then (bif gtin (gtag (h) a0) [0] then (bif gtin (gtag (gsetI (h) a0 4 ((gint (h) a0 4) + (1 : Int32))) a0) [0] then ((gref (gsetI (h) a0 4 ((gint (h) a0 4) + (1 : Int32))) a0 0).bind (fun b1 => (bif (gArr (gtag (gsetI (h) a0 4 ((gint (h) a0 4) + (1 : Int32))) b1) 22 (((gint (h) a0 3) + (gint (h) a0 4)) - ((gint (h) a0 3) + (gint (h) a0 4)) / (20 : Int32) * (20 : Int32)) || gArr (gtag (gsetI (h) a0 4 ((gint (h) a0 4) + (1 : Int32))) b1) 23 (((gint (h) a0 3) + (gint (h) a0 4)) - ((gint (h) a0 3) + (gint (h) a0 4)) / (20 : Int32) * (20 : Int32))) then some (gref (gsetI (h) a0 4 ((gint (h) a0 4) + (1 : Int32))) b1 (ix (((gint (h) a0 3) + (gint (h) a0 4)) - ((gint (h) a0 3) + (gint (h) a0 4)) / (20 : Int32) * (20 : Int32))), gsetI (h) a0 4 ((gint (h) a0 4) + (1 : Int32))) else none))) else none) else none) else none) else none) else none) else none)
set_option maxHeartbeats 4000000 in
set_option maxRecDepth 100000 in
theorem t_Events_nextRow_B32 {d a0 : Nat} {Q : Option gv → gHp → Prop} {res : Option Nat × gHp} (hQ : Q (some (.inr res.1)) res.2) (n : Nat) (h : gHp) (u1 : Option gv) (hf : f_Events_nextRow_B32 a0 n h   = some res) : gWP (gCall (d + 0)) m_Events_nextRow Q 32 [some (.inr (some a0)), u1] [] h 0 0 := by
  unfold f_Events_nextRow_B32 at hf
  refine w_aload_n rfl rfl ?_
  obtain ⟨hg, hf⟩ := g_guard hf
  refine x_getI hg rfl rfl rfl ?_
  refine w_aload_n rfl rfl ?_
  obtain ⟨hg, hf⟩ := g_guard hf
  refine x_getI hg rfl rfl rfl ?_
  refine w_iadd rfl ?_
  refine w_bipush (v := (20 : Int32)) rfl (by decide) ?_
  obtain ⟨hb, hf⟩ := g_guard hf
  refine w_irem rfl (of_decide_eq_true hb) ?_
  refine w_istore_n rfl (Nat.le_of_ble_eq_true rfl) rfl ?_
  refine w_aload_n rfl rfl ?_
  refine w_dup rfl ?_
  obtain ⟨hg, hf⟩ := g_guard hf
  refine x_getI hg rfl rfl rfl ?_
  refine w_iconst (v := (1 : Int32)) rfl (by decide) ?_
  refine w_iadd rfl ?_
  obtain ⟨hg, hf⟩ := g_guard hf
  refine x_putI hg rfl rfl (by decide) ?_
  refine w_aload_n rfl rfl ?_
  obtain ⟨hg, hf⟩ := g_guard hf
  refine x_getR hg rfl rfl rfl ?_
  refine w_iload_n rfl rfl ?_
  obtain ⟨b1, ho, hf⟩ := g_bind hf
  refine x_dr1 ho ?_
  obtain ⟨hg, hf⟩ := g_guard hf
  refine x_ald hg rfl ?_
  cases hf
  exact w_areturn rfl ⟨_, rfl, rfl⟩ (Nat.le_refl _) (Nat.le_refl _) hQ
def f_Events_nextRow (n : Nat) (h : gHp) (a0 : Nat) : Option (Option Nat × gHp) := (bif gtin (gtag (h) a0) [0] then (if (gint (h) a0 4) < (20 : Int32) then f_Events_nextRow_B32 a0  n (h)   else (bif gtin (gtag (h) a0) [0] then (bif decide (¬ (20 : Int32) = 0) then (bif gtin (gtag (h) a0) [0] then (bif gtin (gtag (gsetI (h) a0 3 (((gint (h) a0 3) + (1 : Int32)) - ((gint (h) a0 3) + (1 : Int32)) / (20 : Int32) * (20 : Int32))) a0) [0] then (bif gtin (gtag (gsetI (h) a0 3 (((gint (h) a0 3) + (1 : Int32)) - ((gint (h) a0 3) + (1 : Int32)) / (20 : Int32) * (20 : Int32))) a0) [0] then f_Events_nextRow_B32 a0  n (gsetI (gsetI (h) a0 3 (((gint (h) a0 3) + (1 : Int32)) - ((gint (h) a0 3) + (1 : Int32)) / (20 : Int32) * (20 : Int32))) a0 4 ((gint (gsetI (h) a0 3 (((gint (h) a0 3) + (1 : Int32)) - ((gint (h) a0 3) + (1 : Int32)) / (20 : Int32) * (20 : Int32))) a0 4) - (1 : Int32)))   else none) else none) else none) else none) else none)) else none)
set_option maxHeartbeats 4000000 in
set_option maxRecDepth 100000 in
theorem t_Events_nextRow {d n a0 : Nat} {h : gHp} {res : Option Nat × gHp} {Q : Option gv → gHp → Prop} (hf : f_Events_nextRow n h a0  = some res) (hQ : Q (some (.inr res.1)) res.2) : gCall (d + 1) m_Events_nextRow [.inr (some a0)] h Q := by
  unfold f_Events_nextRow at hf
  refine g_enter (d := d + 0) (Nat.le_of_ble_eq_true rfl) ?_
  show gWP (gCall (d + 0)) m_Events_nextRow Q 0 [some (.inr (some a0)), none] [] h 0 0
  refine w_aload_n rfl rfl ?_
  obtain ⟨hg, hf⟩ := g_guard hf
  refine x_getI hg rfl rfl rfl ?_
  refine w_bipush (v := (20 : Int32)) rfl (by decide) ?_
  refine w_icmp (t := 32) rfl (by decide) (fun c1 => ?_) (fun c1 => ?_)
  · have c1 : (gint (h) a0 4) < (20 : Int32) := c1
    rw [if_pos c1] at hf
    exact t_Events_nextRow_B32  hQ _ _   _ hf
  · have c1 : ¬ ((gint (h) a0 4) < (20 : Int32)) := c1
    rw [if_neg c1] at hf
    refine w_aload_n rfl rfl ?_
    refine w_aload_n rfl rfl ?_
    obtain ⟨hg, hf⟩ := g_guard hf
    refine x_getI hg rfl rfl rfl ?_
    refine w_iconst (v := (1 : Int32)) rfl (by decide) ?_
    refine w_iadd rfl ?_
    refine w_bipush (v := (20 : Int32)) rfl (by decide) ?_
    obtain ⟨hb, hf⟩ := g_guard hf
    refine w_irem rfl (of_decide_eq_true hb) ?_
    obtain ⟨hg, hf⟩ := g_guard hf
    refine x_putI hg rfl rfl (by decide) ?_
    refine w_aload_n rfl rfl ?_
    refine w_dup rfl ?_
    obtain ⟨hg, hf⟩ := g_guard hf
    refine x_getI hg rfl rfl rfl ?_
    refine w_iconst (v := (1 : Int32)) rfl (by decide) ?_
    refine w_isub rfl ?_
    obtain ⟨hg, hf⟩ := g_guard hf
    refine x_putI hg rfl rfl (by decide) ?_
    exact t_Events_nextRow_B32  hQ _ _   _ hf
def f_Arrays_fill_2_B5 : Nat → gHp → Option Nat → Int32 → Int32 → Int32 → Option (gHp)
  | 0, _, _, _, _, _ => none
  | n + 1, h, x0, x1, x2, x3 => (if x3 ≤ x2 then some (h) else (x0.bind (fun b2 => (bif gArr (gtag (h) b2) 20 (x2) then f_Arrays_fill_2_B5 n (gsetI (h) b2 (ix (x2)) (x1)) (x0) (x1) (x2 + (1 : Int32)) (x3) else none))))
set_option maxHeartbeats 4000000 in
set_option maxRecDepth 100000 in
theorem t_Arrays_fill_2_B5 {d : Nat} {Q : Option gv → gHp → Prop} {res : gHp} (hQ : Q (none) res) : ∀ (n : Nat) (h : gHp) (x0 : Option Nat) (x1 : Int32) (x2 : Int32) (x3 : Int32), f_Arrays_fill_2_B5 n h x0 x1 x2 x3  = some res → gWP (gCall (d + 0)) m_Arrays_fill_2 Q 5 [some (.inr x0), some (.inl x1), some (.inl x2), some (.inl x3)] [] h 0 0 := by
  intro n
  induction n with
  | zero =>
    intro h x0 x1 x2 x3   hf
    cases hf
  | succ n ih =>
    intro h x0 x1 x2 x3   hf
    unfold f_Arrays_fill_2_B5 at hf
    refine w_iload_n rfl rfl ?_
    refine w_iload_n rfl rfl ?_
    refine w_icmp (t := 20) rfl (by decide) (fun c1 => ?_) (fun c1 => ?_)
    · have c1 : x3 ≤ x2 := c1
      rw [if_pos c1] at hf
      cases hf
      exact w_return rfl rfl (Nat.le_refl _) (Nat.le_refl _) hQ
    · have c1 : ¬ (x3 ≤ x2) := c1
      rw [if_neg c1] at hf
      refine w_aload_n rfl rfl ?_
      refine w_iload_n rfl rfl ?_
      refine w_iload_n rfl rfl ?_
      obtain ⟨b2, ho, hf⟩ := g_bind hf
      refine x_dr2 ho ?_
      obtain ⟨hg, hf⟩ := g_guard hf
      refine x_st hg rfl ?_
      refine w_iinc (v := (1 : Int32)) rfl rfl (by decide) rfl ?_
      refine w_goto (t := 5) rfl (by decide) ?_
      exact ih _ (x0) (x1) (x2 + (1 : Int32)) (x3)  hf
def f_Arrays_fill_2 (n : Nat) (h : gHp) (x0 : Option Nat) (x1 : Int32) : Option (gHp) := (x0.bind (fun b1 => ((gtag (h) b1).bind (fun t2 => (bif (Nat.ble 20 t2.1 && Nat.ble t2.1 24) then f_Arrays_fill_2_B5  n (h) (x0) (x1) ((0 : Int32)) (Int32.ofNat t2.2)  else none)))))
set_option maxHeartbeats 4000000 in
set_option maxRecDepth 100000 in
theorem t_Arrays_fill_2 {d n : Nat} {h : gHp} {x0 : Option Nat} {x1 : Int32} {res : gHp} {Q : Option gv → gHp → Prop} (hf : f_Arrays_fill_2 n h x0 x1 = some res) (hQ : Q (none) res) : gCall (d + 1) m_Arrays_fill_2 [.inr x0, .inl x1] h Q := by
  unfold f_Arrays_fill_2 at hf
  refine g_enter (d := d + 0) (Nat.le_of_ble_eq_true rfl) ?_
  show gWP (gCall (d + 0)) m_Arrays_fill_2 Q 0 [some (.inr x0), some (.inl x1), none, none] [] h 0 0
  refine w_iconst (v := (0 : Int32)) rfl (by decide) ?_
  refine w_istore_n rfl (Nat.le_of_ble_eq_true rfl) rfl ?_
  refine w_aload_n rfl rfl ?_
  obtain ⟨b1, ho, hf⟩ := g_bind hf
  refine x_dr0 ho ?_
  obtain ⟨t2, ht, hf⟩ := g_bind hf
  obtain ⟨hg, hf⟩ := g_guard hf
  refine x_len ht hg rfl ?_
  refine w_istore_n rfl (Nat.le_of_ble_eq_true rfl) rfl ?_
  exact t_Arrays_fill_2_B5  hQ _ _ (x0) (x1) ((0 : Int32)) (Int32.ofNat t2.2)   hf
def f_Events_fillFacts (n : Nat) (h : gHp) (x0 : Option Nat) (x1 : Int32) (x2 : Int32) (x3 : Int32) (x4 : Int32) : Option (gHp) := (x0.bind (fun b1 => ((gtag (h) b1).bind (fun t2 => (bif (Nat.ble 20 t2.1 && Nat.ble t2.1 24) then (if (4 : Int32) ≤ (Int32.ofNat t2.2) then ((f_Arrays_fill_2 n (h) (x0) ((0 : Int32))).bind (fun q4 => (x0.bind (fun b5 => (bif gArr (gtag (q4) b5) 20 ((0 : Int32)) then (x0.bind (fun b6 => (bif gArr (gtag (gsetI (q4) b5 (ix ((0 : Int32))) (x1)) b6) 20 ((1 : Int32)) then (x0.bind (fun b7 => (bif gArr (gtag (gsetI (gsetI (q4) b5 (ix ((0 : Int32))) (x1)) b6 (ix ((1 : Int32))) (x2)) b7) 20 ((2 : Int32)) then (x0.bind (fun b8 => (bif gArr (gtag (gsetI (gsetI (gsetI (q4) b5 (ix ((0 : Int32))) (x1)) b6 (ix ((1 : Int32))) (x2)) b7 (ix ((2 : Int32))) (x3)) b8) 20 ((3 : Int32)) then some (gsetI (gsetI (gsetI (gsetI (q4) b5 (ix ((0 : Int32))) (x1)) b6 (ix ((1 : Int32))) (x2)) b7 (ix ((2 : Int32))) (x3)) b8 (ix ((3 : Int32))) (x4)) else none))) else none))) else none))) else none))))) else some (h)) else none)))))
set_option maxHeartbeats 4000000 in
set_option maxRecDepth 100000 in
theorem t_Events_fillFacts {d n : Nat} {h : gHp} {x0 : Option Nat} {x1 : Int32} {x2 : Int32} {x3 : Int32} {x4 : Int32} {res : gHp} {Q : Option gv → gHp → Prop} (hf : f_Events_fillFacts n h x0 x1 x2 x3 x4 = some res) (hQ : Q (none) res) : gCall (d + 2) m_Events_fillFacts [.inr x0, .inl x1, .inl x2, .inl x3, .inl x4] h Q := by
  unfold f_Events_fillFacts at hf
  refine g_enter (d := d + 1) (Nat.le_of_ble_eq_true rfl) ?_
  show gWP (gCall (d + 1)) m_Events_fillFacts Q 0 [some (.inr x0), some (.inl x1), some (.inl x2), some (.inl x3), some (.inl x4)] [] h 0 0
  refine w_aload_n rfl rfl ?_
  obtain ⟨b1, ho, hf⟩ := g_bind hf
  refine x_dr0 ho ?_
  obtain ⟨t2, ht, hf⟩ := g_bind hf
  obtain ⟨hg, hf⟩ := g_guard hf
  refine x_len ht hg rfl ?_
  refine w_iconst (v := (4 : Int32)) rfl (by decide) ?_
  refine w_icmp (t := 7) rfl (by decide) (fun c3 => ?_) (fun c3 => ?_)
  · have c3 : (4 : Int32) ≤ (Int32.ofNat t2.2) := c3
    rw [if_pos c3] at hf
    refine w_aload_n rfl rfl ?_
    refine w_iconst (v := (0 : Int32)) rfl (by decide) ?_
    obtain ⟨q4, hc, hf⟩ := g_bind hf
    refine w_static [_, _] _ rfl rfl rfl rfl (Nat.le_of_ble_eq_true rfl) (Nat.le_of_ble_eq_true rfl) (Nat.le_of_ble_eq_true rfl) (t_Arrays_fill_2 (d := d + 0) hc ?_)
    refine w_aload_n rfl rfl ?_
    refine w_iconst (v := (0 : Int32)) rfl (by decide) ?_
    refine w_iload_n rfl rfl ?_
    obtain ⟨b5, ho, hf⟩ := g_bind hf
    refine x_dr2 ho ?_
    obtain ⟨hg, hf⟩ := g_guard hf
    refine x_st hg rfl ?_
    refine w_aload_n rfl rfl ?_
    refine w_iconst (v := (1 : Int32)) rfl (by decide) ?_
    refine w_iload_n rfl rfl ?_
    obtain ⟨b6, ho, hf⟩ := g_bind hf
    refine x_dr2 ho ?_
    obtain ⟨hg, hf⟩ := g_guard hf
    refine x_st hg rfl ?_
    refine w_aload_n rfl rfl ?_
    refine w_iconst (v := (2 : Int32)) rfl (by decide) ?_
    refine w_iload_n rfl rfl ?_
    obtain ⟨b7, ho, hf⟩ := g_bind hf
    refine x_dr2 ho ?_
    obtain ⟨hg, hf⟩ := g_guard hf
    refine x_st hg rfl ?_
    refine w_aload_n rfl rfl ?_
    refine w_iconst (v := (3 : Int32)) rfl (by decide) ?_
    refine w_iload rfl rfl ?_
    obtain ⟨b8, ho, hf⟩ := g_bind hf
    refine x_dr2 ho ?_
    obtain ⟨hg, hf⟩ := g_guard hf
    refine x_st hg rfl ?_
    cases hf
    exact w_return rfl rfl (Nat.le_refl _) (Nat.le_refl _) hQ
  · have c3 : ¬ ((4 : Int32) ≤ (Int32.ofNat t2.2)) := c3
    rw [if_neg c3] at hf
    cases hf
    exact w_return rfl rfl (Nat.le_refl _) (Nat.le_refl _) hQ
def f_Events_add (n : Nat) (h : gHp) (a0 : Nat) (x1 : Int32) (x2 : Int32) (x3 : Int32) (x4 : Int32) : Option (gHp) := (((bif gtis (gtag (h) a0) 0 then f_Events_nextRow n (h) a0  else none)).bind (fun q1 => ((f_Events_fillFacts n (q1.2) (q1.1) (x1) (x2) (x3) (x4)).bind (fun q2 => some (q2)))))
set_option maxHeartbeats 4000000 in
set_option maxRecDepth 100000 in
theorem t_Events_add {d n a0 : Nat} {h : gHp} {x1 : Int32} {x2 : Int32} {x3 : Int32} {x4 : Int32} {res : gHp} {Q : Option gv → gHp → Prop} (hf : f_Events_add n h a0 x1 x2 x3 x4 = some res) (hQ : Q (none) res) : gCall (d + 3) m_Events_add [.inr (some a0), .inl x1, .inl x2, .inl x3, .inl x4] h Q := by
  unfold f_Events_add at hf
  refine g_enter (d := d + 2) (Nat.le_of_ble_eq_true rfl) ?_
  show gWP (gCall (d + 2)) m_Events_add Q 0 [some (.inr (some a0)), some (.inl x1), some (.inl x2), some (.inl x3), some (.inl x4)] [] h 0 0
  refine w_aload_n rfl rfl ?_
  obtain ⟨q1, hc, hf⟩ := g_bind hf
  obtain ⟨hg, hc⟩ := g_guard hc
  refine x_virt 0 [] _ hg rfl rfl rfl rfl (Nat.le_of_ble_eq_true rfl) rfl (Nat.le_of_ble_eq_true rfl) (Nat.le_of_ble_eq_true rfl) (t_Events_nextRow (d := d + 1) hc ?_)
  refine w_iload_n rfl rfl ?_
  refine w_iload_n rfl rfl ?_
  refine w_iload_n rfl rfl ?_
  refine w_iload rfl rfl ?_
  obtain ⟨q2, hc, hf⟩ := g_bind hf
  refine w_static [_, _, _, _, _] _ rfl rfl rfl rfl (Nat.le_of_ble_eq_true rfl) (Nat.le_of_ble_eq_true rfl) (Nat.le_of_ble_eq_true rfl) (t_Events_fillFacts (d := d + 0) hc ?_)
  cases hf
  exact w_return rfl rfl (Nat.le_refl _) (Nat.le_refl _) hQ
def f_Pair_cellAt (n : Nat) (h : gHp) (a0 : Nat) (x1 : Int32) (x2 : Int32) : Option (Int32 × gHp) := (bif gtin (gtag (h) a0) [3] then ((f_G_isAlongRows n (h) (gint (h) a0 11)).bind (fun q1 => (if q1.1 = (0 : Int32) then some ((124 : Int32), q1.2) else some ((45 : Int32), q1.2)))) else none)
set_option maxHeartbeats 4000000 in
set_option maxRecDepth 100000 in
theorem t_Pair_cellAt {d n a0 : Nat} {h : gHp} {x1 : Int32} {x2 : Int32} {res : Int32 × gHp} {Q : Option gv → gHp → Prop} (hf : f_Pair_cellAt n h a0 x1 x2 = some res) (hQ : Q (some (.inl res.1)) res.2) : gCall (d + 2) m_Pair_cellAt [.inr (some a0), .inl x1, .inl x2] h Q := by
  unfold f_Pair_cellAt at hf
  refine g_enter (d := d + 1) (Nat.le_of_ble_eq_true rfl) ?_
  show gWP (gCall (d + 1)) m_Pair_cellAt Q 0 [some (.inr (some a0)), some (.inl x1), some (.inl x2)] [] h 0 0
  refine w_aload_n rfl rfl ?_
  obtain ⟨hg, hf⟩ := g_guard hf
  refine x_getI hg rfl rfl rfl ?_
  obtain ⟨q1, hc, hf⟩ := g_bind hf
  refine w_static [_] _ rfl rfl rfl rfl (Nat.le_of_ble_eq_true rfl) (Nat.le_of_ble_eq_true rfl) (Nat.le_of_ble_eq_true rfl) (t_G_isAlongRows (d := d + 0) hc ?_)
  refine w_if (t := 15) rfl (by decide) (fun c2 => ?_) (fun c2 => ?_)
  · have c2 : q1.1 = (0 : Int32) := c2
    rw [if_pos c2] at hf
    refine w_bipush (v := (124 : Int32)) rfl (by decide) ?_
    cases hf
    exact w_ireturn rfl (int_ret _) (Nat.le_refl _) (Nat.le_refl _) hQ
  · have c2 : ¬ (q1.1 = (0 : Int32)) := c2
    rw [if_neg c2] at hf
    refine w_bipush (v := (45 : Int32)) rfl (by decide) ?_
    refine w_goto (t := 17) rfl (by decide) ?_
    cases hf
    exact w_ireturn rfl (int_ret _) (Nat.le_refl _) (Nat.le_refl _) hQ
def f_Arrays_rangeCheck (n : Nat) (h : gHp) (x0 : Int32) (x1 : Int32) (x2 : Int32) : Option (gHp) := (if x1 ≤ x2 then (if (0 : Int32) ≤ x1 then (if x2 ≤ x0 then some (h) else none) else none) else none)
set_option maxHeartbeats 4000000 in
set_option maxRecDepth 100000 in
theorem t_Arrays_rangeCheck {d n : Nat} {h : gHp} {x0 : Int32} {x1 : Int32} {x2 : Int32} {res : gHp} {Q : Option gv → gHp → Prop} (hf : f_Arrays_rangeCheck n h x0 x1 x2 = some res) (hQ : Q (none) res) : gCall (d + 1) m_Arrays_rangeCheck [.inl x0, .inl x1, .inl x2] h Q := by
  unfold f_Arrays_rangeCheck at hf
  refine g_enter (d := d + 0) (Nat.le_of_ble_eq_true rfl) ?_
  show gWP (gCall (d + 0)) m_Arrays_rangeCheck Q 0 [some (.inl x0), some (.inl x1), some (.inl x2)] [] h 0 0
  refine w_iload_n rfl rfl ?_
  refine w_iload_n rfl rfl ?_
  refine w_icmp (t := 46) rfl (by decide) (fun c1 => ?_) (fun c1 => ?_)
  · have c1 : x1 ≤ x2 := c1
    rw [if_pos c1] at hf
    refine w_iload_n rfl rfl ?_
    refine w_if (t := 59) rfl (by decide) (fun c2 => ?_) (fun c2 => ?_)
    · have c2 : (0 : Int32) ≤ x1 := c2
      rw [if_pos c2] at hf
      refine w_iload_n rfl rfl ?_
      refine w_iload_n rfl rfl ?_
      refine w_icmp (t := 73) rfl (by decide) (fun c3 => ?_) (fun c3 => ?_)
      · have c3 : x2 ≤ x0 := c3
        rw [if_pos c3] at hf
        cases hf
        exact w_return rfl rfl (Nat.le_refl _) (Nat.le_refl _) hQ
      · have c3 : ¬ (x2 ≤ x0) := c3
        rw [if_neg c3] at hf
        cases hf
    · have c2 : ¬ ((0 : Int32) ≤ x1) := c2
      rw [if_neg c2] at hf
      cases hf
  · have c1 : ¬ (x1 ≤ x2) := c1
    rw [if_neg c1] at hf
    cases hf
def f_Pair_measuresFirst (n : Nat) (h : gHp) (a0 : Nat) : Option (Int32 × gHp) := (bif gtin (gtag (h) a0) [3] then (if ((gint (h) a0 11) &&& (1 : Int32)) = (0 : Int32) then some ((1 : Int32), h) else some ((0 : Int32), h)) else none)
set_option maxHeartbeats 4000000 in
set_option maxRecDepth 100000 in
theorem t_Pair_measuresFirst {d n a0 : Nat} {h : gHp} {res : Int32 × gHp} {Q : Option gv → gHp → Prop} (hf : f_Pair_measuresFirst n h a0  = some res) (hQ : Q (some (.inl res.1)) res.2) : gCall (d + 1) m_Pair_measuresFirst [.inr (some a0)] h Q := by
  unfold f_Pair_measuresFirst at hf
  refine g_enter (d := d + 0) (Nat.le_of_ble_eq_true rfl) ?_
  show gWP (gCall (d + 0)) m_Pair_measuresFirst Q 0 [some (.inr (some a0))] [] h 0 0
  refine w_aload_n rfl rfl ?_
  obtain ⟨hg, hf⟩ := g_guard hf
  refine x_getI hg rfl rfl rfl ?_
  refine w_iconst (v := (1 : Int32)) rfl (by decide) ?_
  refine w_iand rfl ?_
  refine w_if (t := 13) rfl (by decide) (fun c1 => ?_) (fun c1 => ?_)
  · have c1 : ¬ (((gint (h) a0 11) &&& (1 : Int32)) = (0 : Int32)) := c1
    rw [if_neg c1] at hf
    refine w_iconst (v := (0 : Int32)) rfl (by decide) ?_
    cases hf
    exact w_ireturn rfl (isZ_ret rfl) (Nat.le_refl _) (Nat.le_refl _) hQ
  · have c1 : ((gint (h) a0 11) &&& (1 : Int32)) = (0 : Int32) := Classical.not_not.mp c1
    rw [if_pos c1] at hf
    refine w_iconst (v := (1 : Int32)) rfl (by decide) ?_
    refine w_goto (t := 14) rfl (by decide) ?_
    cases hf
    exact w_ireturn rfl (isZ_ret rfl) (Nat.le_refl _) (Nat.le_refl _) hQ
def f_G_isAsk (n : Nat) (h : gHp) (x0 : Int32) : Option (Int32 × gHp) := (if x0 < (0 : Int32) then some ((0 : Int32), h) else (if (4 : Int32) ≤ x0 then some ((0 : Int32), h) else some ((1 : Int32), h)))
set_option maxHeartbeats 4000000 in
set_option maxRecDepth 100000 in
theorem t_G_isAsk {d n : Nat} {h : gHp} {x0 : Int32} {res : Int32 × gHp} {Q : Option gv → gHp → Prop} (hf : f_G_isAsk n h x0 = some res) (hQ : Q (some (.inl res.1)) res.2) : gCall (d + 1) m_G_isAsk [.inl x0] h Q := by
  unfold f_G_isAsk at hf
  refine g_enter (d := d + 0) (Nat.le_of_ble_eq_true rfl) ?_
  show gWP (gCall (d + 0)) m_G_isAsk Q 0 [some (.inl x0)] [] h 0 0
  refine w_iload_n rfl rfl ?_
  refine w_if (t := 13) rfl (by decide) (fun c1 => ?_) (fun c1 => ?_)
  · have c1 : x0 < (0 : Int32) := c1
    rw [if_pos c1] at hf
    refine w_iconst (v := (0 : Int32)) rfl (by decide) ?_
    cases hf
    exact w_ireturn rfl (isZ_ret rfl) (Nat.le_refl _) (Nat.le_refl _) hQ
  · have c1 : ¬ (x0 < (0 : Int32)) := c1
    rw [if_neg c1] at hf
    refine w_iload_n rfl rfl ?_
    refine w_iconst (v := (4 : Int32)) rfl (by decide) ?_
    refine w_icmp (t := 13) rfl (by decide) (fun c2 => ?_) (fun c2 => ?_)
    · have c2 : (4 : Int32) ≤ x0 := c2
      rw [if_pos c2] at hf
      refine w_iconst (v := (0 : Int32)) rfl (by decide) ?_
      cases hf
      exact w_ireturn rfl (isZ_ret rfl) (Nat.le_refl _) (Nat.le_refl _) hQ
    · have c2 : ¬ ((4 : Int32) ≤ x0) := c2
      rw [if_neg c2] at hf
      refine w_iconst (v := (1 : Int32)) rfl (by decide) ?_
      refine w_goto (t := 14) rfl (by decide) ?_
      cases hf
      exact w_ireturn rfl (isZ_ret rfl) (Nat.le_refl _) (Nat.le_refl _) hQ
def f_G_isPlainSign (n : Nat) (h : gHp) (x0 : Int32) : Option (Int32 × gHp) := (if x0 < (32 : Int32) then some ((0 : Int32), h) else (if (126 : Int32) < x0 then some ((0 : Int32), h) else some ((1 : Int32), h)))
set_option maxHeartbeats 4000000 in
set_option maxRecDepth 100000 in
theorem t_G_isPlainSign {d n : Nat} {h : gHp} {x0 : Int32} {res : Int32 × gHp} {Q : Option gv → gHp → Prop} (hf : f_G_isPlainSign n h x0 = some res) (hQ : Q (some (.inl res.1)) res.2) : gCall (d + 1) m_G_isPlainSign [.inl x0] h Q := by
  unfold f_G_isPlainSign at hf
  refine g_enter (d := d + 0) (Nat.le_of_ble_eq_true rfl) ?_
  show gWP (gCall (d + 0)) m_G_isPlainSign Q 0 [some (.inl x0)] [] h 0 0
  refine w_iload_n rfl rfl ?_
  refine w_bipush (v := (32 : Int32)) rfl (by decide) ?_
  refine w_icmp (t := 16) rfl (by decide) (fun c1 => ?_) (fun c1 => ?_)
  · have c1 : x0 < (32 : Int32) := c1
    rw [if_pos c1] at hf
    refine w_iconst (v := (0 : Int32)) rfl (by decide) ?_
    cases hf
    exact w_ireturn rfl (isZ_ret rfl) (Nat.le_refl _) (Nat.le_refl _) hQ
  · have c1 : ¬ (x0 < (32 : Int32)) := c1
    rw [if_neg c1] at hf
    refine w_iload_n rfl rfl ?_
    refine w_bipush (v := (126 : Int32)) rfl (by decide) ?_
    refine w_icmp (t := 16) rfl (by decide) (fun c2 => ?_) (fun c2 => ?_)
    · have c2 : (126 : Int32) < x0 := c2
      rw [if_pos c2] at hf
      refine w_iconst (v := (0 : Int32)) rfl (by decide) ?_
      cases hf
      exact w_ireturn rfl (isZ_ret rfl) (Nat.le_refl _) (Nat.le_refl _) hQ
    · have c2 : ¬ ((126 : Int32) < x0) := c2
      rw [if_neg c2] at hf
      refine w_iconst (v := (1 : Int32)) rfl (by decide) ?_
      refine w_goto (t := 17) rfl (by decide) ?_
      cases hf
      exact w_ireturn rfl (isZ_ret rfl) (Nat.le_refl _) (Nat.le_refl _) hQ
def f_G_cell (n : Nat) (h : gHp) (x0 : Int32) (x1 : Int32) (x2 : Int32) : Option (Int32 × gHp) := some (((x2 <<< ((11 : Int32) &&& 31)) ||| (x1 <<< ((7 : Int32) &&& 31))) ||| x0, h)
set_option maxHeartbeats 4000000 in
set_option maxRecDepth 100000 in
theorem t_G_cell {d n : Nat} {h : gHp} {x0 : Int32} {x1 : Int32} {x2 : Int32} {res : Int32 × gHp} {Q : Option gv → gHp → Prop} (hf : f_G_cell n h x0 x1 x2 = some res) (hQ : Q (some (.inl res.1)) res.2) : gCall (d + 1) m_G_cell [.inl x0, .inl x1, .inl x2] h Q := by
  unfold f_G_cell at hf
  refine g_enter (d := d + 0) (Nat.le_of_ble_eq_true rfl) ?_
  show gWP (gCall (d + 0)) m_G_cell Q 0 [some (.inl x0), some (.inl x1), some (.inl x2)] [] h 0 0
  refine w_iload_n rfl rfl ?_
  refine w_bipush (v := (11 : Int32)) rfl (by decide) ?_
  refine w_ishl rfl ?_
  refine w_iload_n rfl rfl ?_
  refine w_bipush (v := (7 : Int32)) rfl (by decide) ?_
  refine w_ishl rfl ?_
  refine w_ior rfl ?_
  refine w_iload_n rfl rfl ?_
  refine w_ior rfl ?_
  cases hf
  exact w_ireturn rfl (int_ret _) (Nat.le_refl _) (Nat.le_refl _) hQ
def f_Grid_goToNextRow (n : Nat) (h : gHp) (a0 : Nat) : Option (gHp) := (bif gtin (gtag (h) a0) [1] then (bif gtin (gtag (gsetI (h) a0 14 ((0 : Int32))) a0) [1] then (bif gtin (gtag (gsetI (h) a0 14 ((0 : Int32))) a0) [1] then some (gsetI (gsetI (h) a0 14 ((0 : Int32))) a0 15 ((gint (gsetI (h) a0 14 ((0 : Int32))) a0 15) + (1 : Int32))) else none) else none) else none)
set_option maxHeartbeats 4000000 in
set_option maxRecDepth 100000 in
theorem t_Grid_goToNextRow {d n a0 : Nat} {h : gHp} {res : gHp} {Q : Option gv → gHp → Prop} (hf : f_Grid_goToNextRow n h a0  = some res) (hQ : Q (none) res) : gCall (d + 1) m_Grid_goToNextRow [.inr (some a0)] h Q := by
  unfold f_Grid_goToNextRow at hf
  refine g_enter (d := d + 0) (Nat.le_of_ble_eq_true rfl) ?_
  show gWP (gCall (d + 0)) m_Grid_goToNextRow Q 0 [some (.inr (some a0))] [] h 0 0
  refine w_aload_n rfl rfl ?_
  refine w_iconst (v := (0 : Int32)) rfl (by decide) ?_
  obtain ⟨hg, hf⟩ := g_guard hf
  refine x_putI hg rfl rfl (by decide) ?_
  refine w_aload_n rfl rfl ?_
  refine w_dup rfl ?_
  obtain ⟨hg, hf⟩ := g_guard hf
  refine x_getI hg rfl rfl rfl ?_
  refine w_iconst (v := (1 : Int32)) rfl (by decide) ?_
  refine w_iadd rfl ?_
  obtain ⟨hg, hf⟩ := g_guard hf
  refine x_putI hg rfl rfl (by decide) ?_
  cases hf
  exact w_return rfl rfl (Nat.le_refl _) (Nat.le_refl _) hQ
def f_Line_cellOf (n : Nat) (h : gHp) (a0 : Nat) (x1 : Int32) : Option (Int32 × gHp) := (if x1 < (0 : Int32) then some ((32 : Int32), h) else (bif gtin (gtag (h) a0) [2] then (if (gint (h) a0 2) ≤ x1 then some ((32 : Int32), h) else (bif gtin (gtag (h) a0) [2] then ((gref (h) a0 0).bind (fun b3 => ((gtag (h) b3).bind (fun t4 => (bif (Nat.ble 20 t4.1 && Nat.ble t4.1 24) then (if (Int32.ofNat t4.2) ≤ x1 then some ((32 : Int32), h) else (bif gtin (gtag (h) a0) [2] then ((gref (h) a0 0).bind (fun b6 => (bif gArr (gtag (h) b6) 20 (x1) then some (gint (h) b6 (ix (x1)), h) else none))) else none)) else none))))) else none)) else none))
set_option maxHeartbeats 4000000 in
set_option maxRecDepth 100000 in
theorem t_Line_cellOf {d n a0 : Nat} {h : gHp} {x1 : Int32} {res : Int32 × gHp} {Q : Option gv → gHp → Prop} (hf : f_Line_cellOf n h a0 x1 = some res) (hQ : Q (some (.inl res.1)) res.2) : gCall (d + 1) m_Line_cellOf [.inr (some a0), .inl x1] h Q := by
  unfold f_Line_cellOf at hf
  refine g_enter (d := d + 0) (Nat.le_of_ble_eq_true rfl) ?_
  show gWP (gCall (d + 0)) m_Line_cellOf Q 0 [some (.inr (some a0)), some (.inl x1)] [] h 0 0
  refine w_iload_n rfl rfl ?_
  refine w_if (t := 30) rfl (by decide) (fun c1 => ?_) (fun c1 => ?_)
  · have c1 : x1 < (0 : Int32) := c1
    rw [if_pos c1] at hf
    refine w_bipush (v := (32 : Int32)) rfl (by decide) ?_
    cases hf
    exact w_ireturn rfl (int_ret _) (Nat.le_refl _) (Nat.le_refl _) hQ
  · have c1 : ¬ (x1 < (0 : Int32)) := c1
    rw [if_neg c1] at hf
    refine w_iload_n rfl rfl ?_
    refine w_aload_n rfl rfl ?_
    obtain ⟨hg, hf⟩ := g_guard hf
    refine x_getI hg rfl rfl rfl ?_
    refine w_icmp (t := 30) rfl (by decide) (fun c2 => ?_) (fun c2 => ?_)
    · have c2 : (gint (h) a0 2) ≤ x1 := c2
      rw [if_pos c2] at hf
      refine w_bipush (v := (32 : Int32)) rfl (by decide) ?_
      cases hf
      exact w_ireturn rfl (int_ret _) (Nat.le_refl _) (Nat.le_refl _) hQ
    · have c2 : ¬ ((gint (h) a0 2) ≤ x1) := c2
      rw [if_neg c2] at hf
      refine w_iload_n rfl rfl ?_
      refine w_aload_n rfl rfl ?_
      obtain ⟨hg, hf⟩ := g_guard hf
      refine x_getR hg rfl rfl rfl ?_
      obtain ⟨b3, ho, hf⟩ := g_bind hf
      refine x_dr0 ho ?_
      obtain ⟨t4, ht, hf⟩ := g_bind hf
      obtain ⟨hg, hf⟩ := g_guard hf
      refine x_len ht hg rfl ?_
      refine w_icmp (t := 30) rfl (by decide) (fun c5 => ?_) (fun c5 => ?_)
      · have c5 : (Int32.ofNat t4.2) ≤ x1 := c5
        rw [if_pos c5] at hf
        refine w_bipush (v := (32 : Int32)) rfl (by decide) ?_
        cases hf
        exact w_ireturn rfl (int_ret _) (Nat.le_refl _) (Nat.le_refl _) hQ
      · have c5 : ¬ ((Int32.ofNat t4.2) ≤ x1) := c5
        rw [if_neg c5] at hf
        refine w_aload_n rfl rfl ?_
        obtain ⟨hg, hf⟩ := g_guard hf
        refine x_getR hg rfl rfl rfl ?_
        refine w_iload_n rfl rfl ?_
        obtain ⟨b6, ho, hf⟩ := g_bind hf
        refine x_dr1 ho ?_
        obtain ⟨hg, hf⟩ := g_guard hf
        refine x_ld hg rfl ?_
        refine w_goto (t := 32) rfl (by decide) ?_
        cases hf
        exact w_ireturn rfl (int_ret _) (Nat.le_refl _) (Nat.le_refl _) hQ
def f_Text_cellOf (n : Nat) (h : gHp) (a0 : Nat) (x1 : Int32) : Option (Int32 × gHp) := (if x1 < (0 : Int32) then (bif gtin (gtag (h) a0) [6] then (bif gtin (gtag (h) a0) [6] then ((gref (h) a0 12).bind (fun b2 => (((bif gtis (gtag (h) b2) 2 then f_Line_cellOf n (h) b2 (x1 - (gint (h) a0 14)) else none)).bind (fun q3 => some (q3.1, q3.2))))) else none) else none) else (bif gtin (gtag (h) a0) [6] then (if (gint (h) a0 14) ≤ x1 then (bif gtin (gtag (h) a0) [6] then (bif gtin (gtag (h) a0) [6] then ((gref (h) a0 12).bind (fun b3 => (((bif gtis (gtag (h) b3) 2 then f_Line_cellOf n (h) b3 (x1 - (gint (h) a0 14)) else none)).bind (fun q4 => some (q4.1, q4.2))))) else none) else none) else (bif gtin (gtag (h) a0) [6] then ((gref (h) a0 13).bind (fun b3 => (bif gArr (gtag (h) b3) 20 (x1) then some (gint (h) b3 (ix (x1)), h) else none))) else none)) else none))
set_option maxHeartbeats 4000000 in
set_option maxRecDepth 100000 in
theorem t_Text_cellOf {d n a0 : Nat} {h : gHp} {x1 : Int32} {res : Int32 × gHp} {Q : Option gv → gHp → Prop} (hf : f_Text_cellOf n h a0 x1 = some res) (hQ : Q (some (.inl res.1)) res.2) : gCall (d + 2) m_Text_cellOf [.inr (some a0), .inl x1] h Q := by
  unfold f_Text_cellOf at hf
  refine g_enter (d := d + 1) (Nat.le_of_ble_eq_true rfl) ?_
  show gWP (gCall (d + 1)) m_Text_cellOf Q 0 [some (.inr (some a0)), some (.inl x1)] [] h 0 0
  refine w_iload_n rfl rfl ?_
  refine w_if (t := 19) rfl (by decide) (fun c1 => ?_) (fun c1 => ?_)
  · have c1 : x1 < (0 : Int32) := c1
    rw [if_pos c1] at hf
    refine w_aload_n rfl rfl ?_
    obtain ⟨hg, hf⟩ := g_guard hf
    refine x_getR hg rfl rfl rfl ?_
    refine w_iload_n rfl rfl ?_
    refine w_aload_n rfl rfl ?_
    obtain ⟨hg, hf⟩ := g_guard hf
    refine x_getI hg rfl rfl rfl ?_
    refine w_isub rfl ?_
    obtain ⟨b2, ho, hf⟩ := g_bind hf
    refine x_dr1 ho ?_
    obtain ⟨q3, hc, hf⟩ := g_bind hf
    obtain ⟨hg, hc⟩ := g_guard hc
    refine x_virt 2 [_] _ hg rfl rfl rfl rfl (Nat.le_of_ble_eq_true rfl) rfl (Nat.le_of_ble_eq_true rfl) (Nat.le_of_ble_eq_true rfl) (t_Line_cellOf (d := d + 0) hc ?_)
    cases hf
    exact w_ireturn rfl (int_ret _) (Nat.le_refl _) (Nat.le_refl _) hQ
  · have c1 : ¬ (x1 < (0 : Int32)) := c1
    rw [if_neg c1] at hf
    refine w_iload_n rfl rfl ?_
    refine w_aload_n rfl rfl ?_
    obtain ⟨hg, hf⟩ := g_guard hf
    refine x_getI hg rfl rfl rfl ?_
    refine w_icmp (t := 19) rfl (by decide) (fun c2 => ?_) (fun c2 => ?_)
    · have c2 : (gint (h) a0 14) ≤ x1 := c2
      rw [if_pos c2] at hf
      refine w_aload_n rfl rfl ?_
      obtain ⟨hg, hf⟩ := g_guard hf
      refine x_getR hg rfl rfl rfl ?_
      refine w_iload_n rfl rfl ?_
      refine w_aload_n rfl rfl ?_
      obtain ⟨hg, hf⟩ := g_guard hf
      refine x_getI hg rfl rfl rfl ?_
      refine w_isub rfl ?_
      obtain ⟨b3, ho, hf⟩ := g_bind hf
      refine x_dr1 ho ?_
      obtain ⟨q4, hc, hf⟩ := g_bind hf
      obtain ⟨hg, hc⟩ := g_guard hc
      refine x_virt 2 [_] _ hg rfl rfl rfl rfl (Nat.le_of_ble_eq_true rfl) rfl (Nat.le_of_ble_eq_true rfl) (Nat.le_of_ble_eq_true rfl) (t_Line_cellOf (d := d + 0) hc ?_)
      cases hf
      exact w_ireturn rfl (int_ret _) (Nat.le_refl _) (Nat.le_refl _) hQ
    · have c2 : ¬ ((gint (h) a0 14) ≤ x1) := c2
      rw [if_neg c2] at hf
      refine w_aload_n rfl rfl ?_
      obtain ⟨hg, hf⟩ := g_guard hf
      refine x_getR hg rfl rfl rfl ?_
      refine w_iload_n rfl rfl ?_
      obtain ⟨b3, ho, hf⟩ := g_bind hf
      refine x_dr1 ho ?_
      obtain ⟨hg, hf⟩ := g_guard hf
      refine x_ld hg rfl ?_
      cases hf
      exact w_ireturn rfl (int_ret _) (Nat.le_refl _) (Nat.le_refl _) hQ
def f_Wrap_addLine (n : Nat) (h : gHp) (a0 : Nat) (x1 : Int32) (x2 : Int32) : Option (gHp) := (bif gtin (gtag (h) a0) [8] then (bif gtin (gtag (h) a0) [8] then ((gref (h) a0 0).bind (fun b1 => ((gtag (h) b1).bind (fun t2 => (bif (Nat.ble 20 t2.1 && Nat.ble t2.1 24) then (if (Int32.ofNat t2.2) ≤ (gint (h) a0 2) then some (h) else (bif gtin (gtag (h) a0) [8] then (bif gtin (gtag (h) a0) [8] then ((gref (h) a0 1).bind (fun b4 => ((gtag (h) b4).bind (fun t5 => (bif (Nat.ble 20 t5.1 && Nat.ble t5.1 24) then (if (Int32.ofNat t5.2) ≤ (gint (h) a0 2) then some (h) else (bif gtin (gtag (h) a0) [8] then (bif gtin (gtag (h) a0) [8] then ((gref (h) a0 0).bind (fun b7 => (bif gArr (gtag (h) b7) 20 (gint (h) a0 2) then (bif gtin (gtag (gsetI (h) b7 (ix (gint (h) a0 2)) (x1)) a0) [8] then (bif gtin (gtag (gsetI (h) b7 (ix (gint (h) a0 2)) (x1)) a0) [8] then ((gref (gsetI (h) b7 (ix (gint (h) a0 2)) (x1)) a0 1).bind (fun b8 => (bif gArr (gtag (gsetI (h) b7 (ix (gint (h) a0 2)) (x1)) b8) 20 (gint (gsetI (h) b7 (ix (gint (h) a0 2)) (x1)) a0 2) then (bif gtin (gtag (gsetI (gsetI (h) b7 (ix (gint (h) a0 2)) (x1)) b8 (ix (gint (gsetI (h) b7 (ix (gint (h) a0 2)) (x1)) a0 2)) (x2)) a0) [8] then (bif gtin (gtag (gsetI (gsetI (h) b7 (ix (gint (h) a0 2)) (x1)) b8 (ix (gint (gsetI (h) b7 (ix (gint (h) a0 2)) (x1)) a0 2)) (x2)) a0) [8] then some (gsetI (gsetI (gsetI (h) b7 (ix (gint (h) a0 2)) (x1)) b8 (ix (gint (gsetI (h) b7 (ix (gint (h) a0 2)) (x1)) a0 2)) (x2)) a0 2 ((gint (gsetI (gsetI (h) b7 (ix (gint (h) a0 2)) (x1)) b8 (ix (gint (gsetI (h) b7 (ix (gint (h) a0 2)) (x1)) a0 2)) (x2)) a0 2) + (1 : Int32))) else none) else none) else none))) else none) else none) else none))) else none) else none)) else none))))) else none) else none)) else none))))) else none) else none)
set_option maxHeartbeats 4000000 in
set_option maxRecDepth 100000 in
theorem t_Wrap_addLine {d n a0 : Nat} {h : gHp} {x1 : Int32} {x2 : Int32} {res : gHp} {Q : Option gv → gHp → Prop} (hf : f_Wrap_addLine n h a0 x1 x2 = some res) (hQ : Q (none) res) : gCall (d + 1) m_Wrap_addLine [.inr (some a0), .inl x1, .inl x2] h Q := by
  unfold f_Wrap_addLine at hf
  refine g_enter (d := d + 0) (Nat.le_of_ble_eq_true rfl) ?_
  show gWP (gCall (d + 0)) m_Wrap_addLine Q 0 [some (.inr (some a0)), some (.inl x1), some (.inl x2)] [] h 0 0
  refine w_aload_n rfl rfl ?_
  obtain ⟨hg, hf⟩ := g_guard hf
  refine x_getI hg rfl rfl rfl ?_
  refine w_aload_n rfl rfl ?_
  obtain ⟨hg, hf⟩ := g_guard hf
  refine x_getR hg rfl rfl rfl ?_
  obtain ⟨b1, ho, hf⟩ := g_bind hf
  refine x_dr0 ho ?_
  obtain ⟨t2, ht, hf⟩ := g_bind hf
  obtain ⟨hg, hf⟩ := g_guard hf
  refine x_len ht hg rfl ?_
  refine w_icmp (t := 54) rfl (by decide) (fun c3 => ?_) (fun c3 => ?_)
  · have c3 : (Int32.ofNat t2.2) ≤ (gint (h) a0 2) := c3
    rw [if_pos c3] at hf
    cases hf
    exact w_return rfl rfl (Nat.le_refl _) (Nat.le_refl _) hQ
  · have c3 : ¬ ((Int32.ofNat t2.2) ≤ (gint (h) a0 2)) := c3
    rw [if_neg c3] at hf
    refine w_aload_n rfl rfl ?_
    obtain ⟨hg, hf⟩ := g_guard hf
    refine x_getI hg rfl rfl rfl ?_
    refine w_aload_n rfl rfl ?_
    obtain ⟨hg, hf⟩ := g_guard hf
    refine x_getR hg rfl rfl rfl ?_
    obtain ⟨b4, ho, hf⟩ := g_bind hf
    refine x_dr0 ho ?_
    obtain ⟨t5, ht, hf⟩ := g_bind hf
    obtain ⟨hg, hf⟩ := g_guard hf
    refine x_len ht hg rfl ?_
    refine w_icmp (t := 54) rfl (by decide) (fun c6 => ?_) (fun c6 => ?_)
    · have c6 : (Int32.ofNat t5.2) ≤ (gint (h) a0 2) := c6
      rw [if_pos c6] at hf
      cases hf
      exact w_return rfl rfl (Nat.le_refl _) (Nat.le_refl _) hQ
    · have c6 : ¬ ((Int32.ofNat t5.2) ≤ (gint (h) a0 2)) := c6
      rw [if_neg c6] at hf
      refine w_aload_n rfl rfl ?_
      obtain ⟨hg, hf⟩ := g_guard hf
      refine x_getR hg rfl rfl rfl ?_
      refine w_aload_n rfl rfl ?_
      obtain ⟨hg, hf⟩ := g_guard hf
      refine x_getI hg rfl rfl rfl ?_
      refine w_iload_n rfl rfl ?_
      obtain ⟨b7, ho, hf⟩ := g_bind hf
      refine x_dr2 ho ?_
      obtain ⟨hg, hf⟩ := g_guard hf
      refine x_st hg rfl ?_
      refine w_aload_n rfl rfl ?_
      obtain ⟨hg, hf⟩ := g_guard hf
      refine x_getR hg rfl rfl rfl ?_
      refine w_aload_n rfl rfl ?_
      obtain ⟨hg, hf⟩ := g_guard hf
      refine x_getI hg rfl rfl rfl ?_
      refine w_iload_n rfl rfl ?_
      obtain ⟨b8, ho, hf⟩ := g_bind hf
      refine x_dr2 ho ?_
      obtain ⟨hg, hf⟩ := g_guard hf
      refine x_st hg rfl ?_
      refine w_aload_n rfl rfl ?_
      refine w_dup rfl ?_
      obtain ⟨hg, hf⟩ := g_guard hf
      refine x_getI hg rfl rfl rfl ?_
      refine w_iconst (v := (1 : Int32)) rfl (by decide) ?_
      refine w_iadd rfl ?_
      obtain ⟨hg, hf⟩ := g_guard hf
      refine x_putI hg rfl rfl (by decide) ?_
      cases hf
      exact w_return rfl rfl (Nat.le_refl _) (Nat.le_refl _) hQ
