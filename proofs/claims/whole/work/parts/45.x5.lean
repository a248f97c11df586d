def f_G_echo (n : Nat) (h : gHp) (a0 : Nat) (x1 : Int32) (x2 : Int32) : Option (Int32 × gHp) := (bif gtin (gtag (h) a0) [9] then ((gref (h) a0 0).bind (fun b1 => (((bif gtis (gtag (h) b1) 7 then f_Tree_find n (h) b1 (x1) else none)).bind (fun q2 => (if q2.1 = none then some ((-1 : Int32), q2.2) else ((gInst (q2.2) (q2.1) "GlkPanes$Writing").bind (fun i4 => (if i4 = (0 : Int32) then some ((-3 : Int32), q2.2) else (bif gCas (q2.2) (q2.1) "GlkPanes$Writing" then (q2.1.bind (fun b6 => (bif gtin (gtag (q2.2) b6) [1, 6] then (if (gint (q2.2) b6 10) = (0 : Int32) then (q2.1.bind (fun b8 => (bif gtin (gtag (q2.2) b8) [1, 6] then (bif isZ (x2) then some ((0 : Int32), gsetI (q2.2) b8 10 (x2)) else none) else none))) else (q2.1.bind (fun b8 => (bif gtin (gtag (q2.2) b8) [1, 6] then (bif isZ (x2) then some ((1 : Int32), gsetI (q2.2) b8 10 (x2)) else none) else none)))) else none))) else none))))))))) else none)
set_option maxHeartbeats 4000000 in
set_option maxRecDepth 100000 in
theorem t_G_echo {d n a0 : Nat} {h : gHp} {x1 : Int32} {x2 : Int32} {res : Int32 × gHp} {Q : Option gv → gHp → Prop} (hf : f_G_echo n h a0 x1 x2 = some res) (hQ : Q (some (.inl res.1)) res.2) : gCall (d + 2) m_G_echo [.inr (some a0), .inl x1, .inl x2] h Q := by
  unfold f_G_echo at hf
  refine g_enter (d := d + 1) (Nat.le_of_ble_eq_true rfl) ?_
  show gWP (gCall (d + 1)) m_G_echo Q 0 [some (.inr (some a0)), some (.inl x1), some (.inl x2), none, none, none] [] h 0 0
  refine w_aload_n rfl rfl ?_
  obtain ⟨hg, hf⟩ := g_guard hf
  refine x_getR hg rfl rfl rfl ?_
  refine w_iload_n rfl rfl ?_
  obtain ⟨b1, ho, hf⟩ := g_bind hf
  refine x_dr1 ho ?_
  obtain ⟨q2, hc, hf⟩ := g_bind hf
  obtain ⟨hg, hc⟩ := g_guard hc
  refine x_virt 7 [_] _ hg rfl rfl rfl rfl (Nat.le_of_ble_eq_true rfl) rfl (Nat.le_of_ble_eq_true rfl) (Nat.le_of_ble_eq_true rfl) (t_Tree_find (d := d + 0) hc ?_)
  refine w_astore_n rfl (Nat.le_of_ble_eq_true rfl) rfl ?_
  refine w_aload_n rfl rfl ?_
  refine w_ifnonnull (t := 15) rfl (by decide) (fun c3 => ?_) (fun c3 => ?_)
  · have c3 : ¬ (q2.1 = none) := c3
    rw [if_neg c3] at hf
    refine w_aload_n rfl rfl ?_
    obtain ⟨i4, hg, hf⟩ := g_bind hf
    refine x_inst hg rfl rfl ?_
    refine w_if (t := 31) rfl (by decide) (fun c5 => ?_) (fun c5 => ?_)
    · have c5 : i4 = (0 : Int32) := c5
      rw [if_pos c5] at hf
      refine w_bipush (v := (-3 : Int32)) rfl (by decide) ?_
      cases hf
      exact w_ireturn rfl (int_ret _) (Nat.le_refl _) (Nat.le_refl _) hQ
    · have c5 : ¬ (i4 = (0 : Int32)) := c5
      rw [if_neg c5] at hf
      refine w_aload_n rfl rfl ?_
      obtain ⟨hg, hf⟩ := g_guard hf
      refine x_cast hg rfl rfl ?_
      refine w_astore rfl (Nat.le_of_ble_eq_true rfl) rfl ?_
      refine w_goto (t := 34) rfl (by decide) ?_
      refine w_aload rfl rfl ?_
      obtain ⟨b6, ho, hf⟩ := g_bind hf
      refine x_dr0 ho ?_
      obtain ⟨hg, hf⟩ := g_guard hf
      refine x_getI hg rfl rfl rfl ?_
      refine w_if (t := 46) rfl (by decide) (fun c7 => ?_) (fun c7 => ?_)
      · have c7 : (gint (q2.2) b6 10) = (0 : Int32) := c7
        rw [if_pos c7] at hf
        refine w_iconst (v := (0 : Int32)) rfl (by decide) ?_
        refine w_istore rfl (Nat.le_of_ble_eq_true rfl) rfl ?_
        refine w_aload rfl rfl ?_
        refine w_iload_n rfl rfl ?_
        obtain ⟨b8, ho, hf⟩ := g_bind hf
        refine x_dr1 ho ?_
        obtain ⟨hg, hf⟩ := g_guard hf
        obtain ⟨hz, hf⟩ := g_guard hf
        refine x_putZ hz hg rfl rfl (by decide) ?_
        refine w_iload rfl rfl ?_
        cases hf
        exact w_ireturn rfl (int_ret _) (Nat.le_refl _) (Nat.le_refl _) hQ
      · have c7 : ¬ ((gint (q2.2) b6 10) = (0 : Int32)) := c7
        rw [if_neg c7] at hf
        refine w_iconst (v := (1 : Int32)) rfl (by decide) ?_
        refine w_goto (t := 47) rfl (by decide) ?_
        refine w_istore rfl (Nat.le_of_ble_eq_true rfl) rfl ?_
        refine w_aload rfl rfl ?_
        refine w_iload_n rfl rfl ?_
        obtain ⟨b8, ho, hf⟩ := g_bind hf
        refine x_dr1 ho ?_
        obtain ⟨hg, hf⟩ := g_guard hf
        obtain ⟨hz, hf⟩ := g_guard hf
        refine x_putZ hz hg rfl rfl (by decide) ?_
        refine w_iload rfl rfl ?_
        cases hf
        exact w_ireturn rfl (int_ret _) (Nat.le_refl _) (Nat.le_refl _) hQ
  · have c3 : q2.1 = none := c3
    rw [if_pos c3] at hf
    refine w_iconst (v := (-1 : Int32)) rfl (by decide) ?_
    cases hf
    exact w_ireturn rfl (int_ret _) (Nat.le_refl _) (Nat.le_refl _) hQ
def f_G_count (n : Nat) (h : gHp) (a0 : Nat) (x1 : Int32) : Option (Int32 × gHp) := (if x1 = (0 : Int32) then (bif gtin (gtag (h) a0) [9] then ((gref (h) a0 0).bind (fun b2 => (bif gtin (gtag (h) b2) [7] then some (gint (h) b2 3, h) else none))) else none) else (if x1 = (1 : Int32) then (bif gtin (gtag (h) a0) [9] then ((gref (h) a0 0).bind (fun b3 => (bif gtin (gtag (h) b3) [7] then some (gint (h) b3 4, h) else none))) else none) else (if x1 = (2 : Int32) then (bif gtin (gtag (h) a0) [9] then ((gref (h) a0 0).bind (fun b4 => (((bif gtis (gtag (h) b4) 7 then f_Tree_countOpen n (h) b4 ((1 : Int32)) else none)).bind (fun q5 => some (q5.1, q5.2))))) else none) else (if x1 = (3 : Int32) then (bif gtin (gtag (h) a0) [9] then ((gref (h) a0 0).bind (fun b5 => (((bif gtis (gtag (h) b5) 7 then f_Tree_countOpen n (h) b5 ((0 : Int32)) else none)).bind (fun q6 => some (q6.1, q6.2))))) else none) else (if x1 = (4 : Int32) then (bif gtin (gtag (h) a0) [9] then ((gref (h) a0 0).bind (fun b6 => (bif gtin (gtag (h) b6) [7] then some (gint (h) b6 1, h) else none))) else none) else (if x1 = (5 : Int32) then (bif gtin (gtag (h) a0) [9] then ((gref (h) a0 1).bind (fun b7 => (bif gtin (gtag (h) b7) [0] then some (gint (h) b7 4, h) else none))) else none) else some ((-1 : Int32), h)))))))
set_option maxHeartbeats 4000000 in
set_option maxRecDepth 100000 in
theorem t_G_count {d n a0 : Nat} {h : gHp} {x1 : Int32} {res : Int32 × gHp} {Q : Option gv → gHp → Prop} (hf : f_G_count n h a0 x1 = some res) (hQ : Q (some (.inl res.1)) res.2) : gCall (d + 2) m_G_count [.inr (some a0), .inl x1] h Q := by
  unfold f_G_count at hf
  refine g_enter (d := d + 1) (Nat.le_of_ble_eq_true rfl) ?_
  show gWP (gCall (d + 1)) m_G_count Q 0 [some (.inr (some a0)), some (.inl x1)] [] h 0 0
  refine w_iload_n rfl rfl ?_
  by_cases c1 : x1 = (0 : Int32)
  · rw [if_pos c1] at hf
    refine w_tswIn (t := 40) c1 rfl (by decide) (by decide) rfl (by decide) ?_
    refine w_aload_n rfl rfl ?_
    obtain ⟨hg, hf⟩ := g_guard hf
    refine x_getR hg rfl rfl rfl ?_
    obtain ⟨b2, ho, hf⟩ := g_bind hf
    refine x_dr0 ho ?_
    obtain ⟨hg, hf⟩ := g_guard hf
    refine x_getI hg rfl rfl rfl ?_
    cases hf
    exact w_ireturn rfl (int_ret _) (Nat.le_refl _) (Nat.le_refl _) hQ
  rw [if_neg c1] at hf
  by_cases c2 : x1 = (1 : Int32)
  · rw [if_pos c2] at hf
    refine w_tswIn (t := 48) c2 rfl (by decide) (by decide) rfl (by decide) ?_
    refine w_aload_n rfl rfl ?_
    obtain ⟨hg, hf⟩ := g_guard hf
    refine x_getR hg rfl rfl rfl ?_
    obtain ⟨b3, ho, hf⟩ := g_bind hf
    refine x_dr0 ho ?_
    obtain ⟨hg, hf⟩ := g_guard hf
    refine x_getI hg rfl rfl rfl ?_
    cases hf
    exact w_ireturn rfl (int_ret _) (Nat.le_refl _) (Nat.le_refl _) hQ
  rw [if_neg c2] at hf
  by_cases c3 : x1 = (2 : Int32)
  · rw [if_pos c3] at hf
    refine w_tswIn (t := 56) c3 rfl (by decide) (by decide) rfl (by decide) ?_
    refine w_aload_n rfl rfl ?_
    obtain ⟨hg, hf⟩ := g_guard hf
    refine x_getR hg rfl rfl rfl ?_
    refine w_iconst (v := (1 : Int32)) rfl (by decide) ?_
    obtain ⟨b4, ho, hf⟩ := g_bind hf
    refine x_dr1 ho ?_
    obtain ⟨q5, hc, hf⟩ := g_bind hf
    obtain ⟨hg, hc⟩ := g_guard hc
    refine x_virt 7 [_] _ hg rfl rfl rfl rfl (Nat.le_of_ble_eq_true rfl) rfl (Nat.le_of_ble_eq_true rfl) (Nat.le_of_ble_eq_true rfl) (t_Tree_countOpen (d := d + 0) hc ?_)
    cases hf
    exact w_ireturn rfl (int_ret _) (Nat.le_refl _) (Nat.le_refl _) hQ
  rw [if_neg c3] at hf
  by_cases c4 : x1 = (3 : Int32)
  · rw [if_pos c4] at hf
    refine w_tswIn (t := 65) c4 rfl (by decide) (by decide) rfl (by decide) ?_
    refine w_aload_n rfl rfl ?_
    obtain ⟨hg, hf⟩ := g_guard hf
    refine x_getR hg rfl rfl rfl ?_
    refine w_iconst (v := (0 : Int32)) rfl (by decide) ?_
    obtain ⟨b5, ho, hf⟩ := g_bind hf
    refine x_dr1 ho ?_
    obtain ⟨q6, hc, hf⟩ := g_bind hf
    obtain ⟨hg, hc⟩ := g_guard hc
    refine x_virt 7 [_] _ hg rfl rfl rfl rfl (Nat.le_of_ble_eq_true rfl) rfl (Nat.le_of_ble_eq_true rfl) (Nat.le_of_ble_eq_true rfl) (t_Tree_countOpen (d := d + 0) hc ?_)
    cases hf
    exact w_ireturn rfl (int_ret _) (Nat.le_refl _) (Nat.le_refl _) hQ
  rw [if_neg c4] at hf
  by_cases c5 : x1 = (4 : Int32)
  · rw [if_pos c5] at hf
    refine w_tswIn (t := 74) c5 rfl (by decide) (by decide) rfl (by decide) ?_
    refine w_aload_n rfl rfl ?_
    obtain ⟨hg, hf⟩ := g_guard hf
    refine x_getR hg rfl rfl rfl ?_
    obtain ⟨b6, ho, hf⟩ := g_bind hf
    refine x_dr0 ho ?_
    obtain ⟨hg, hf⟩ := g_guard hf
    refine x_getI hg rfl rfl rfl ?_
    cases hf
    exact w_ireturn rfl (int_ret _) (Nat.le_refl _) (Nat.le_refl _) hQ
  rw [if_neg c5] at hf
  by_cases c6 : x1 = (5 : Int32)
  · rw [if_pos c6] at hf
    refine w_tswIn (t := 82) c6 rfl (by decide) (by decide) rfl (by decide) ?_
    refine w_aload_n rfl rfl ?_
    obtain ⟨hg, hf⟩ := g_guard hf
    refine x_getR hg rfl rfl rfl ?_
    obtain ⟨b7, ho, hf⟩ := g_bind hf
    refine x_dr0 ho ?_
    obtain ⟨hg, hf⟩ := g_guard hf
    refine x_getI hg rfl rfl rfl ?_
    cases hf
    exact w_ireturn rfl (int_ret _) (Nat.le_refl _) (Nat.le_refl _) hQ
  rw [if_neg c6] at hf
  refine w_tswOut (t := 90) rfl (g_out6 c1 c2 c3 c4 c5 c6) (by decide) ?_
  refine w_iconst (v := (-1 : Int32)) rfl (by decide) ?_
  cases hf
  exact w_ireturn rfl (int_ret _) (Nat.le_refl _) (Nat.le_refl _) hQ
def f_G_at (n : Nat) (h : gHp) (a0 : Nat) (x1 : Int32) (x2 : Int32) : Option (Int32 × gHp) := (bif gtin (gtag (h) a0) [9] then ((gref (h) a0 0).bind (fun b1 => (((bif gtis (gtag (h) b1) 7 then f_Tree_find n (h) b1 (x1) else none)).bind (fun q2 => (if q2.1 = none then some ((-1 : Int32), q2.2) else (if x2 < (0 : Int32) then some ((-1 : Int32), q2.2) else (if x2 ≤ (1 : Int32) then ((gInst (q2.2) (q2.1) "GlkPanes$Grid").bind (fun i6 => (if i6 = (0 : Int32) then some ((-3 : Int32), q2.2) else (bif gCas (q2.2) (q2.1) "GlkPanes$Grid" then (if x2 = (0 : Int32) then (q2.1.bind (fun b9 => (bif gtin (gtag (q2.2) b9) [1] then some (gint (q2.2) b9 14, q2.2) else none))) else (q2.1.bind (fun b9 => (bif gtin (gtag (q2.2) b9) [1] then some (gint (q2.2) b9 15, q2.2) else none)))) else none)))) else some ((-1 : Int32), q2.2)))))))) else none)
set_option maxHeartbeats 4000000 in
set_option maxRecDepth 100000 in
theorem t_G_at {d n a0 : Nat} {h : gHp} {x1 : Int32} {x2 : Int32} {res : Int32 × gHp} {Q : Option gv → gHp → Prop} (hf : f_G_at n h a0 x1 x2 = some res) (hQ : Q (some (.inl res.1)) res.2) : gCall (d + 2) m_G_at [.inr (some a0), .inl x1, .inl x2] h Q := by
  unfold f_G_at at hf
  refine g_enter (d := d + 1) (Nat.le_of_ble_eq_true rfl) ?_
  show gWP (gCall (d + 1)) m_G_at Q 0 [some (.inr (some a0)), some (.inl x1), some (.inl x2), none, none] [] h 0 0
  refine w_aload_n rfl rfl ?_
  obtain ⟨hg, hf⟩ := g_guard hf
  refine x_getR hg rfl rfl rfl ?_
  refine w_iload_n rfl rfl ?_
  obtain ⟨b1, ho, hf⟩ := g_bind hf
  refine x_dr1 ho ?_
  obtain ⟨q2, hc, hf⟩ := g_bind hf
  obtain ⟨hg, hc⟩ := g_guard hc
  refine x_virt 7 [_] _ hg rfl rfl rfl rfl (Nat.le_of_ble_eq_true rfl) rfl (Nat.le_of_ble_eq_true rfl) (Nat.le_of_ble_eq_true rfl) (t_Tree_find (d := d + 0) hc ?_)
  refine w_astore_n rfl (Nat.le_of_ble_eq_true rfl) rfl ?_
  refine w_aload_n rfl rfl ?_
  refine w_ifnull (t := 22) rfl (by decide) (fun c3 => ?_) (fun c3 => ?_)
  · have c3 : q2.1 = none := c3
    rw [if_pos c3] at hf
    refine w_iconst (v := (-1 : Int32)) rfl (by decide) ?_
    cases hf
    exact w_ireturn rfl (int_ret _) (Nat.le_refl _) (Nat.le_refl _) hQ
  · have c3 : ¬ (q2.1 = none) := c3
    rw [if_neg c3] at hf
    refine w_iload_n rfl rfl ?_
    refine w_if (t := 22) rfl (by decide) (fun c4 => ?_) (fun c4 => ?_)
    · have c4 : x2 < (0 : Int32) := c4
      rw [if_pos c4] at hf
      refine w_iconst (v := (-1 : Int32)) rfl (by decide) ?_
      cases hf
      exact w_ireturn rfl (int_ret _) (Nat.le_refl _) (Nat.le_refl _) hQ
    · have c4 : ¬ (x2 < (0 : Int32)) := c4
      rw [if_neg c4] at hf
      refine w_iload_n rfl rfl ?_
      refine w_iconst (v := (1 : Int32)) rfl (by decide) ?_
      refine w_icmp (t := 24) rfl (by decide) (fun c5 => ?_) (fun c5 => ?_)
      · have c5 : x2 ≤ (1 : Int32) := c5
        rw [if_pos c5] at hf
        refine w_aload_n rfl rfl ?_
        obtain ⟨i6, hg, hf⟩ := g_bind hf
        refine x_inst hg rfl rfl ?_
        refine w_if (t := 40) rfl (by decide) (fun c7 => ?_) (fun c7 => ?_)
        · have c7 : i6 = (0 : Int32) := c7
          rw [if_pos c7] at hf
          refine w_bipush (v := (-3 : Int32)) rfl (by decide) ?_
          cases hf
          exact w_ireturn rfl (int_ret _) (Nat.le_refl _) (Nat.le_refl _) hQ
        · have c7 : ¬ (i6 = (0 : Int32)) := c7
          rw [if_neg c7] at hf
          refine w_aload_n rfl rfl ?_
          obtain ⟨hg, hf⟩ := g_guard hf
          refine x_cast hg rfl rfl ?_
          refine w_astore rfl (Nat.le_of_ble_eq_true rfl) rfl ?_
          refine w_goto (t := 43) rfl (by decide) ?_
          refine w_iload_n rfl rfl ?_
          refine w_if (t := 55) rfl (by decide) (fun c8 => ?_) (fun c8 => ?_)
          · have c8 : ¬ (x2 = (0 : Int32)) := c8
            rw [if_neg c8] at hf
            refine w_aload rfl rfl ?_
            obtain ⟨b9, ho, hf⟩ := g_bind hf
            refine x_dr0 ho ?_
            obtain ⟨hg, hf⟩ := g_guard hf
            refine x_getI hg rfl rfl rfl ?_
            cases hf
            exact w_ireturn rfl (int_ret _) (Nat.le_refl _) (Nat.le_refl _) hQ
          · have c8 : x2 = (0 : Int32) := Classical.not_not.mp c8
            rw [if_pos c8] at hf
            refine w_aload rfl rfl ?_
            obtain ⟨b9, ho, hf⟩ := g_bind hf
            refine x_dr0 ho ?_
            obtain ⟨hg, hf⟩ := g_guard hf
            refine x_getI hg rfl rfl rfl ?_
            refine w_goto (t := 60) rfl (by decide) ?_
            cases hf
            exact w_ireturn rfl (int_ret _) (Nat.le_refl _) (Nat.le_refl _) hQ
      · have c5 : ¬ (x2 ≤ (1 : Int32)) := c5
        rw [if_neg c5] at hf
        refine w_iconst (v := (-1 : Int32)) rfl (by decide) ?_
        cases hf
        exact w_ireturn rfl (int_ret _) (Nat.le_refl _) (Nat.le_refl _) hQ
def f_G_picture (n : Nat) (h : gHp) (a0 : Nat) (x1 : Int32) (x2 : Int32) : Option (Int32 × gHp) := (bif gtin (gtag (h) a0) [9] then ((gref (h) a0 0).bind (fun b1 => (((bif gtis (gtag (h) b1) 7 then f_Tree_find n (h) b1 (x1) else none)).bind (fun q2 => (if q2.1 = none then some ((-1 : Int32), q2.2) else (if x2 < (0 : Int32) then some ((-1 : Int32), q2.2) else (if x2 ≤ (999 : Int32) then ((gInst (q2.2) (q2.1) "GlkPanes$Picture").bind (fun i6 => (if i6 = (0 : Int32) then some ((-3 : Int32), q2.2) else (bif gCas (q2.2) (q2.1) "GlkPanes$Picture" then (q2.1.bind (fun b8 => (bif gtin (gtag (q2.2) b8) [5] then (q2.1.bind (fun b9 => (bif gtin (gtag (q2.2) b9) [5] then some (gint (q2.2) b8 11, gsetI (q2.2) b9 11 (x2)) else none))) else none))) else none)))) else some ((-1 : Int32), q2.2)))))))) else none)
set_option maxHeartbeats 4000000 in
set_option maxRecDepth 100000 in
theorem t_G_picture {d n a0 : Nat} {h : gHp} {x1 : Int32} {x2 : Int32} {res : Int32 × gHp} {Q : Option gv → gHp → Prop} (hf : f_G_picture n h a0 x1 x2 = some res) (hQ : Q (some (.inl res.1)) res.2) : gCall (d + 2) m_G_picture [.inr (some a0), .inl x1, .inl x2] h Q := by
  unfold f_G_picture at hf
  refine g_enter (d := d + 1) (Nat.le_of_ble_eq_true rfl) ?_
  show gWP (gCall (d + 1)) m_G_picture Q 0 [some (.inr (some a0)), some (.inl x1), some (.inl x2), none, none, none] [] h 0 0
  refine w_aload_n rfl rfl ?_
  obtain ⟨hg, hf⟩ := g_guard hf
  refine x_getR hg rfl rfl rfl ?_
  refine w_iload_n rfl rfl ?_
  obtain ⟨b1, ho, hf⟩ := g_bind hf
  refine x_dr1 ho ?_
  obtain ⟨q2, hc, hf⟩ := g_bind hf
  obtain ⟨hg, hc⟩ := g_guard hc
  refine x_virt 7 [_] _ hg rfl rfl rfl rfl (Nat.le_of_ble_eq_true rfl) rfl (Nat.le_of_ble_eq_true rfl) (Nat.le_of_ble_eq_true rfl) (t_Tree_find (d := d + 0) hc ?_)
  refine w_astore_n rfl (Nat.le_of_ble_eq_true rfl) rfl ?_
  refine w_aload_n rfl rfl ?_
  refine w_ifnull (t := 24) rfl (by decide) (fun c3 => ?_) (fun c3 => ?_)
  · have c3 : q2.1 = none := c3
    rw [if_pos c3] at hf
    refine w_iconst (v := (-1 : Int32)) rfl (by decide) ?_
    cases hf
    exact w_ireturn rfl (int_ret _) (Nat.le_refl _) (Nat.le_refl _) hQ
  · have c3 : ¬ (q2.1 = none) := c3
    rw [if_neg c3] at hf
    refine w_iload_n rfl rfl ?_
    refine w_if (t := 24) rfl (by decide) (fun c4 => ?_) (fun c4 => ?_)
    · have c4 : x2 < (0 : Int32) := c4
      rw [if_pos c4] at hf
      refine w_iconst (v := (-1 : Int32)) rfl (by decide) ?_
      cases hf
      exact w_ireturn rfl (int_ret _) (Nat.le_refl _) (Nat.le_refl _) hQ
    · have c4 : ¬ (x2 < (0 : Int32)) := c4
      rw [if_neg c4] at hf
      refine w_iload_n rfl rfl ?_
      refine w_sipush (v := (999 : Int32)) rfl (by decide) ?_
      refine w_icmp (t := 26) rfl (by decide) (fun c5 => ?_) (fun c5 => ?_)
      · have c5 : x2 ≤ (999 : Int32) := c5
        rw [if_pos c5] at hf
        refine w_aload_n rfl rfl ?_
        obtain ⟨i6, hg, hf⟩ := g_bind hf
        refine x_inst hg rfl rfl ?_
        refine w_if (t := 42) rfl (by decide) (fun c7 => ?_) (fun c7 => ?_)
        · have c7 : i6 = (0 : Int32) := c7
          rw [if_pos c7] at hf
          refine w_bipush (v := (-3 : Int32)) rfl (by decide) ?_
          cases hf
          exact w_ireturn rfl (int_ret _) (Nat.le_refl _) (Nat.le_refl _) hQ
        · have c7 : ¬ (i6 = (0 : Int32)) := c7
          rw [if_neg c7] at hf
          refine w_aload_n rfl rfl ?_
          obtain ⟨hg, hf⟩ := g_guard hf
          refine x_cast hg rfl rfl ?_
          refine w_astore rfl (Nat.le_of_ble_eq_true rfl) rfl ?_
          refine w_goto (t := 45) rfl (by decide) ?_
          refine w_aload rfl rfl ?_
          obtain ⟨b8, ho, hf⟩ := g_bind hf
          refine x_dr0 ho ?_
          obtain ⟨hg, hf⟩ := g_guard hf
          refine x_getI hg rfl rfl rfl ?_
          refine w_istore rfl (Nat.le_of_ble_eq_true rfl) rfl ?_
          refine w_aload rfl rfl ?_
          refine w_iload_n rfl rfl ?_
          obtain ⟨b9, ho, hf⟩ := g_bind hf
          refine x_dr1 ho ?_
          obtain ⟨hg, hf⟩ := g_guard hf
          refine x_putI hg rfl rfl (by decide) ?_
          refine w_iload rfl rfl ?_
          cases hf
          exact w_ireturn rfl (int_ret _) (Nat.le_refl _) (Nat.le_refl _) hQ
      · have c5 : ¬ (x2 ≤ (999 : Int32)) := c5
        rw [if_neg c5] at hf
        refine w_iconst (v := (-1 : Int32)) rfl (by decide) ?_
        cases hf
        exact w_ireturn rfl (int_ret _) (Nat.le_refl _) (Nat.le_refl _) hQ
def f_Events_addLine_B19 (a0 : Nat) : Nat → gHp → Option Nat → Option Nat → Int32 → Option (gHp)
  | 0, _, _, _, _ => none
  | n + 1, h, x2, x3, x4 => (x2.bind (fun b1 => (bif gtin (gtag (h) b1) [2] then (if (gint (h) b1 2) ≤ x4 then some (h) else (x3.bind (fun b3 => ((gtag (h) b3).bind (fun t4 => (bif (Nat.ble 20 t4.1 && Nat.ble t4.1 24) then (if (Int32.ofNat t4.2) ≤ ((4 : Int32) + x4) then some (h) else (x2.bind (fun b6 => (((bif gtis (gtag (h) b6) 2 then f_Line_cellOf n (h) b6 (x4) else none)).bind (fun q7 => ((f_G_signOf n (q7.2) (q7.1)).bind (fun q8 => (x3.bind (fun b9 => (bif gArr (gtag (q8.2) b9) 20 ((4 : Int32) + x4) then f_Events_addLine_B19 a0 n (gsetI (q8.2) b9 (ix ((4 : Int32) + x4)) (q8.1)) (x2) (x3) (x4 + (1 : Int32)) else none)))))))))) else none)))))) else none)))
set_option maxHeartbeats 4000000 in
set_option maxRecDepth 100000 in
theorem t_Events_addLine_B19 {d a0 : Nat} {Q : Option gv → gHp → Prop} {res : gHp} (hQ : Q (none) res) : ∀ (n : Nat) (h : gHp) (x2 : Option Nat) (x3 : Option Nat) (x4 : Int32) (u1 : Option gv), f_Events_addLine_B19 a0 n h x2 x3 x4  = some res → gWP (gCall (d + 2)) m_Events_addLine Q 19 [some (.inr (some a0)), u1, some (.inr x2), some (.inr x3), some (.inl x4)] [] h 0 0 := by
  intro n
  induction n with
  | zero =>
    intro h x2 x3 x4  u1 hf
    cases hf
  | succ n ih =>
    intro h x2 x3 x4  u1 hf
    unfold f_Events_addLine_B19 at hf
    refine w_iload rfl rfl ?_
    refine w_aload_n rfl rfl ?_
    obtain ⟨b1, ho, hf⟩ := g_bind hf
    refine x_dr0 ho ?_
    obtain ⟨hg, hf⟩ := g_guard hf
    refine x_getI hg rfl rfl rfl ?_
    refine w_icmp (t := 58) rfl (by decide) (fun c2 => ?_) (fun c2 => ?_)
    · have c2 : (gint (h) b1 2) ≤ x4 := c2
      rw [if_pos c2] at hf
      cases hf
      exact w_return rfl rfl (Nat.le_refl _) (Nat.le_refl _) hQ
    · have c2 : ¬ ((gint (h) b1 2) ≤ x4) := c2
      rw [if_neg c2] at hf
      refine w_iconst (v := (4 : Int32)) rfl (by decide) ?_
      refine w_iload rfl rfl ?_
      refine w_iadd rfl ?_
      refine w_aload_n rfl rfl ?_
      obtain ⟨b3, ho, hf⟩ := g_bind hf
      refine x_dr0 ho ?_
      obtain ⟨t4, ht, hf⟩ := g_bind hf
      obtain ⟨hg, hf⟩ := g_guard hf
      refine x_len ht hg rfl ?_
      refine w_icmp (t := 58) rfl (by decide) (fun c5 => ?_) (fun c5 => ?_)
      · have c5 : (Int32.ofNat t4.2) ≤ ((4 : Int32) + x4) := c5
        rw [if_pos c5] at hf
        cases hf
        exact w_return rfl rfl (Nat.le_refl _) (Nat.le_refl _) hQ
      · have c5 : ¬ ((Int32.ofNat t4.2) ≤ ((4 : Int32) + x4)) := c5
        rw [if_neg c5] at hf
        refine w_aload_n rfl rfl ?_
        refine w_iconst (v := (4 : Int32)) rfl (by decide) ?_
        refine w_iload rfl rfl ?_
        refine w_iadd rfl ?_
        refine w_aload_n rfl rfl ?_
        refine w_iload rfl rfl ?_
        obtain ⟨b6, ho, hf⟩ := g_bind hf
        refine x_dr1 ho ?_
        obtain ⟨q7, hc, hf⟩ := g_bind hf
        obtain ⟨hg, hc⟩ := g_guard hc
        refine x_virt 2 [_] _ hg rfl rfl rfl rfl (Nat.le_of_ble_eq_true rfl) rfl (Nat.le_of_ble_eq_true rfl) (Nat.le_of_ble_eq_true rfl) (t_Line_cellOf (d := d + 1) hc ?_)
        obtain ⟨q8, hc, hf⟩ := g_bind hf
        refine w_static [_] _ rfl rfl rfl rfl (Nat.le_of_ble_eq_true rfl) (Nat.le_of_ble_eq_true rfl) (Nat.le_of_ble_eq_true rfl) (t_G_signOf (d := d + 1) hc ?_)
        obtain ⟨b9, ho, hf⟩ := g_bind hf
        refine x_dr2 ho ?_
        obtain ⟨hg, hf⟩ := g_guard hf
        refine x_st hg rfl ?_
        refine w_iinc (v := (1 : Int32)) rfl rfl (by decide) rfl ?_
        refine w_goto (t := 19) rfl (by decide) ?_
        exact ih _ (x2) (x3) (x4 + (1 : Int32)) _ hf
def f_Events_addLine (n : Nat) (h : gHp) (a0 : Nat) (x1 : Int32) (x2 : Option Nat) : Option (gHp) := (((bif gtis (gtag (h) a0) 0 then f_Events_nextRow n (h) a0  else none)).bind (fun q1 => (x2.bind (fun b2 => (bif gtin (gtag (q1.2) b2) [2] then ((f_Events_fillFacts n (q1.2) (q1.1) ((1 : Int32)) (x1) (gint (q1.2) b2 2) ((0 : Int32))).bind (fun q3 => f_Events_addLine_B19 a0  n (q3) (x2) (q1.1) ((0 : Int32)) )) else none)))))
set_option maxHeartbeats 4000000 in
set_option maxRecDepth 100000 in
theorem t_Events_addLine {d n a0 : Nat} {h : gHp} {x1 : Int32} {x2 : Option Nat} {res : gHp} {Q : Option gv → gHp → Prop} (hf : f_Events_addLine n h a0 x1 x2 = some res) (hQ : Q (none) res) : gCall (d + 3) m_Events_addLine [.inr (some a0), .inl x1, .inr x2] h Q := by
  unfold f_Events_addLine at hf
  refine g_enter (d := d + 2) (Nat.le_of_ble_eq_true rfl) ?_
  show gWP (gCall (d + 2)) m_Events_addLine Q 0 [some (.inr (some a0)), some (.inl x1), some (.inr x2), none, none] [] h 0 0
  refine w_aload_n rfl rfl ?_
  obtain ⟨q1, hc, hf⟩ := g_bind hf
  obtain ⟨hg, hc⟩ := g_guard hc
  refine x_virt 0 [] _ hg rfl rfl rfl rfl (Nat.le_of_ble_eq_true rfl) rfl (Nat.le_of_ble_eq_true rfl) (Nat.le_of_ble_eq_true rfl) (t_Events_nextRow (d := d + 1) hc ?_)
  refine w_astore_n rfl (Nat.le_of_ble_eq_true rfl) rfl ?_
  refine w_aload_n rfl rfl ?_
  refine w_iconst (v := (1 : Int32)) rfl (by decide) ?_
  refine w_iload_n rfl rfl ?_
  refine w_aload_n rfl rfl ?_
  obtain ⟨b2, ho, hf⟩ := g_bind hf
  refine x_dr0 ho ?_
  obtain ⟨hg, hf⟩ := g_guard hf
  refine x_getI hg rfl rfl rfl ?_
  refine w_iconst (v := (0 : Int32)) rfl (by decide) ?_
  obtain ⟨q3, hc, hf⟩ := g_bind hf
  refine w_static [_, _, _, _, _] _ rfl rfl rfl rfl (Nat.le_of_ble_eq_true rfl) (Nat.le_of_ble_eq_true rfl) (Nat.le_of_ble_eq_true rfl) (t_Events_fillFacts (d := d + 0) hc ?_)
  refine w_iconst (v := (0 : Int32)) rfl (by decide) ?_
  refine w_istore rfl (Nat.le_of_ble_eq_true rfl) rfl ?_
  exact t_Events_addLine_B19  hQ _ _ (x2) (q1.1) ((0 : Int32))  _ hf
def f_G_typeInLine (n : Nat) (h : gHp) (a0 : Nat) (x1 : Option Nat) (x2 : Int32) : Option (Int32 × gHp) := (if x2 = (10 : Int32) then (x1.bind (fun b2 => (bif gtin (gtag (h) b2) [1, 6] then ((gref (h) b2 11).bind (fun b3 => (bif gArr (gtag (h) b3) 21 ((1 : Int32)) then (bif gtin (gtag (gsetI (h) b3 (ix ((1 : Int32))) ((0 : Int32))) a0) [9] then (x1.bind (fun b4 => (bif gtin (gtag (gsetI (h) b3 (ix ((1 : Int32))) ((0 : Int32))) b4) [1, 6] then (x1.bind (fun b5 => (bif gtin (gtag (gsetI (h) b3 (ix ((1 : Int32))) ((0 : Int32))) b5) [1, 6] then ((gref (gsetI (h) b3 (ix ((1 : Int32))) ((0 : Int32))) a0 1).bind (fun b6 => (((bif gtis (gtag (gsetI (h) b3 (ix ((1 : Int32))) ((0 : Int32))) b6) 0 then f_Events_addLine n (gsetI (h) b3 (ix ((1 : Int32))) ((0 : Int32))) b6 (gint (gsetI (h) b3 (ix ((1 : Int32))) ((0 : Int32))) b4 0) (gref (gsetI (h) b3 (ix ((1 : Int32))) ((0 : Int32))) b5 12) else none)).bind (fun q7 => (x1.bind (fun b8 => (((bif gtin (gtag (q7) b8) [1, 6] then f_Writing_finishLine n (q7) b8  else none)).bind (fun q9 => some ((1 : Int32), q9))))))))) else none))) else none))) else none) else none))) else none))) else (if x2 = (8 : Int32) then (x1.bind (fun b3 => (bif gtin (gtag (h) b3) [1, 6] then ((gref (h) b3 12).bind (fun b4 => (((bif gtis (gtag (h) b4) 2 then f_Line_removeLast n (h) b4  else none)).bind (fun q5 => some ((0 : Int32), q5))))) else none))) else (x1.bind (fun b3 => (bif gtin (gtag (h) b3) [1, 6] then ((gref (h) b3 12).bind (fun b4 => (((bif gtis (gtag (h) b4) 2 then f_Line_append n (h) b4 (x2) else none)).bind (fun q5 => some ((0 : Int32), q5))))) else none)))))
set_option maxHeartbeats 4000000 in
set_option maxRecDepth 100000 in
theorem t_G_typeInLine {d n a0 : Nat} {h : gHp} {x1 : Option Nat} {x2 : Int32} {res : Int32 × gHp} {Q : Option gv → gHp → Prop} (hf : f_G_typeInLine n h a0 x1 x2 = some res) (hQ : Q (some (.inl res.1)) res.2) : gCall (d + 6) m_G_typeInLine [.inr (some a0), .inr x1, .inl x2] h Q := by
  unfold f_G_typeInLine at hf
  refine g_enter (d := d + 5) (Nat.le_of_ble_eq_true rfl) ?_
  show gWP (gCall (d + 5)) m_G_typeInLine Q 0 [some (.inr (some a0)), some (.inr x1), some (.inl x2)] [] h 0 0
  refine w_iload_n rfl rfl ?_
  refine w_bipush (v := (10 : Int32)) rfl (by decide) ?_
  refine w_icmp (t := 34) rfl (by decide) (fun c1 => ?_) (fun c1 => ?_)
  · have c1 : ¬ (x2 = (10 : Int32)) := c1
    rw [if_neg c1] at hf
    refine w_iload_n rfl rfl ?_
    refine w_bipush (v := (8 : Int32)) rfl (by decide) ?_
    refine w_icmp (t := 50) rfl (by decide) (fun c2 => ?_) (fun c2 => ?_)
    · have c2 : ¬ (x2 = (8 : Int32)) := c2
      rw [if_neg c2] at hf
      refine w_aload_n rfl rfl ?_
      obtain ⟨b3, ho, hf⟩ := g_bind hf
      refine x_dr0 ho ?_
      obtain ⟨hg, hf⟩ := g_guard hf
      refine x_getR hg rfl rfl rfl ?_
      refine w_iload_n rfl rfl ?_
      obtain ⟨b4, ho, hf⟩ := g_bind hf
      refine x_dr1 ho ?_
      obtain ⟨q5, hc, hf⟩ := g_bind hf
      obtain ⟨hg, hc⟩ := g_guard hc
      refine x_virt 2 [_] _ hg rfl rfl rfl rfl (Nat.le_of_ble_eq_true rfl) rfl (Nat.le_of_ble_eq_true rfl) (Nat.le_of_ble_eq_true rfl) (t_Line_append (d := d + 3) hc ?_)
      refine w_iconst (v := (0 : Int32)) rfl (by decide) ?_
      cases hf
      exact w_ireturn rfl (int_ret _) (Nat.le_refl _) (Nat.le_refl _) hQ
    · have c2 : x2 = (8 : Int32) := Classical.not_not.mp c2
      rw [if_pos c2] at hf
      refine w_aload_n rfl rfl ?_
      obtain ⟨b3, ho, hf⟩ := g_bind hf
      refine x_dr0 ho ?_
      obtain ⟨hg, hf⟩ := g_guard hf
      refine x_getR hg rfl rfl rfl ?_
      obtain ⟨b4, ho, hf⟩ := g_bind hf
      refine x_dr0 ho ?_
      obtain ⟨q5, hc, hf⟩ := g_bind hf
      obtain ⟨hg, hc⟩ := g_guard hc
      refine x_virt 2 [] _ hg rfl rfl rfl rfl (Nat.le_of_ble_eq_true rfl) rfl (Nat.le_of_ble_eq_true rfl) (Nat.le_of_ble_eq_true rfl) (t_Line_removeLast (d := d + 4) hc ?_)
      refine w_goto (t := 58) rfl (by decide) ?_
      refine w_iconst (v := (0 : Int32)) rfl (by decide) ?_
      cases hf
      exact w_ireturn rfl (int_ret _) (Nat.le_refl _) (Nat.le_refl _) hQ
  · have c1 : x2 = (10 : Int32) := Classical.not_not.mp c1
    rw [if_pos c1] at hf
    refine w_aload_n rfl rfl ?_
    obtain ⟨b2, ho, hf⟩ := g_bind hf
    refine x_dr0 ho ?_
    obtain ⟨hg, hf⟩ := g_guard hf
    refine x_getR hg rfl rfl rfl ?_
    refine w_iconst (v := (1 : Int32)) rfl (by decide) ?_
    refine w_iconst (v := (0 : Int32)) rfl (by decide) ?_
    obtain ⟨b3, ho, hf⟩ := g_bind hf
    refine x_dr2 ho ?_
    obtain ⟨hg, hf⟩ := g_guard hf
    refine x_zst hg rfl rfl ?_
    refine w_aload_n rfl rfl ?_
    obtain ⟨hg, hf⟩ := g_guard hf
    refine x_getR hg rfl rfl rfl ?_
    refine w_aload_n rfl rfl ?_
    obtain ⟨b4, ho, hf⟩ := g_bind hf
    refine x_dr0 ho ?_
    obtain ⟨hg, hf⟩ := g_guard hf
    refine x_getI hg rfl rfl rfl ?_
    refine w_aload_n rfl rfl ?_
    obtain ⟨b5, ho, hf⟩ := g_bind hf
    refine x_dr0 ho ?_
    obtain ⟨hg, hf⟩ := g_guard hf
    refine x_getR hg rfl rfl rfl ?_
    obtain ⟨b6, ho, hf⟩ := g_bind hf
    refine x_dr2 ho ?_
    obtain ⟨q7, hc, hf⟩ := g_bind hf
    obtain ⟨hg, hc⟩ := g_guard hc
    refine x_virt 0 [_, _] _ hg rfl rfl rfl rfl (Nat.le_of_ble_eq_true rfl) rfl (Nat.le_of_ble_eq_true rfl) (Nat.le_of_ble_eq_true rfl) (t_Events_addLine (d := d + 2) hc ?_)
    refine w_aload_n rfl rfl ?_
    obtain ⟨b8, ho, hf⟩ := g_bind hf
    refine x_dr0 ho ?_
    obtain ⟨q9, hc, hf⟩ := g_bind hf
    obtain ⟨hg, hc⟩ := g_guard hc
    refine x_virtG [1, 6] [] _ hg rfl rfl rfl rfl (Nat.le_of_ble_eq_true rfl) (List.forall_mem_cons.mpr ⟨⟨_, rfl, rfl⟩, List.forall_mem_cons.mpr ⟨⟨_, rfl, rfl⟩, fun _ h => absurd h List.not_mem_nil⟩⟩) (Nat.le_of_ble_eq_true rfl) (Nat.le_of_ble_eq_true rfl) (t_Writing_finishLine (d := d + 0) hc ?_)
    refine w_iconst (v := (1 : Int32)) rfl (by decide) ?_
    cases hf
    exact w_ireturn rfl (int_ret _) (Nat.le_refl _) (Nat.le_refl _) hQ
def f_G_pair (n : Nat) (h : gHp) (a0 : Nat) (x1 : Int32) (x2 : Int32) : Option (Int32 × gHp) := (bif gtin (gtag (h) a0) [9] then ((gref (h) a0 0).bind (fun b1 => (((bif gtis (gtag (h) b1) 7 then f_Tree_find n (h) b1 (x1) else none)).bind (fun q2 => ((gInst (q2.2) (q2.1) "GlkPanes$Pair").bind (fun i3 => (if i3 = (0 : Int32) then some ((-1 : Int32), q2.2) else (bif gCas (q2.2) (q2.1) "GlkPanes$Pair" then (if x2 = (0 : Int32) then (q2.1.bind (fun b6 => (bif gtin (gtag (q2.2) b6) [3] then some (gint (q2.2) b6 11, q2.2) else none))) else (if x2 = (1 : Int32) then (q2.1.bind (fun b7 => (bif gtin (gtag (q2.2) b7) [3] then some (gint (q2.2) b7 12, q2.2) else none))) else (if x2 = (2 : Int32) then (q2.1.bind (fun b8 => (bif gtin (gtag (q2.2) b8) [3] then ((f_G_numberOf n (q2.2) (gref (q2.2) b8 13) ((-2 : Int32))).bind (fun q9 => some (q9.1, q9.2))) else none))) else (if x2 = (3 : Int32) then (q2.1.bind (fun b9 => (bif gtin (gtag (q2.2) b9) [3] then ((f_G_numberOf n (q2.2) (gref (q2.2) b9 14) ((-2 : Int32))).bind (fun q10 => some (q10.1, q10.2))) else none))) else (if x2 = (4 : Int32) then (q2.1.bind (fun b10 => (bif gtin (gtag (q2.2) b10) [3] then ((f_G_numberOf n (q2.2) (gref (q2.2) b10 15) ((-2 : Int32))).bind (fun q11 => some (q11.1, q11.2))) else none))) else some ((-1 : Int32), q2.2)))))) else none)))))))) else none)
set_option maxHeartbeats 4000000 in
set_option maxRecDepth 100000 in
theorem t_G_pair {d n a0 : Nat} {h : gHp} {x1 : Int32} {x2 : Int32} {res : Int32 × gHp} {Q : Option gv → gHp → Prop} (hf : f_G_pair n h a0 x1 x2 = some res) (hQ : Q (some (.inl res.1)) res.2) : gCall (d + 2) m_G_pair [.inr (some a0), .inl x1, .inl x2] h Q := by
  unfold f_G_pair at hf
  refine g_enter (d := d + 1) (Nat.le_of_ble_eq_true rfl) ?_
  show gWP (gCall (d + 1)) m_G_pair Q 0 [some (.inr (some a0)), some (.inl x1), some (.inl x2), none, none] [] h 0 0
  refine w_aload_n rfl rfl ?_
  obtain ⟨hg, hf⟩ := g_guard hf
  refine x_getR hg rfl rfl rfl ?_
  refine w_iload_n rfl rfl ?_
  obtain ⟨b1, ho, hf⟩ := g_bind hf
  refine x_dr1 ho ?_
  obtain ⟨q2, hc, hf⟩ := g_bind hf
  obtain ⟨hg, hc⟩ := g_guard hc
  refine x_virt 7 [_] _ hg rfl rfl rfl rfl (Nat.le_of_ble_eq_true rfl) rfl (Nat.le_of_ble_eq_true rfl) (Nat.le_of_ble_eq_true rfl) (t_Tree_find (d := d + 0) hc ?_)
  refine w_astore rfl (Nat.le_of_ble_eq_true rfl) rfl ?_
  refine w_aload rfl rfl ?_
  obtain ⟨i3, hg, hf⟩ := g_bind hf
  refine x_inst hg rfl rfl ?_
  refine w_if (t := 27) rfl (by decide) (fun c4 => ?_) (fun c4 => ?_)
  · have c4 : i3 = (0 : Int32) := c4
    rw [if_pos c4] at hf
    refine w_iconst (v := (-1 : Int32)) rfl (by decide) ?_
    cases hf
    exact w_ireturn rfl (int_ret _) (Nat.le_refl _) (Nat.le_refl _) hQ
  · have c4 : ¬ (i3 = (0 : Int32)) := c4
    rw [if_neg c4] at hf
    refine w_aload rfl rfl ?_
    obtain ⟨hg, hf⟩ := g_guard hf
    refine x_cast hg rfl rfl ?_
    refine w_astore_n rfl (Nat.le_of_ble_eq_true rfl) rfl ?_
    refine w_goto (t := 29) rfl (by decide) ?_
    refine w_iload_n rfl rfl ?_
    by_cases c5 : x2 = (0 : Int32)
    · rw [if_pos c5] at hf
      refine w_tswIn (t := 64) c5 rfl (by decide) (by decide) rfl (by decide) ?_
      refine w_aload_n rfl rfl ?_
      obtain ⟨b6, ho, hf⟩ := g_bind hf
      refine x_dr0 ho ?_
      obtain ⟨hg, hf⟩ := g_guard hf
      refine x_getI hg rfl rfl rfl ?_
      cases hf
      exact w_ireturn rfl (int_ret _) (Nat.le_refl _) (Nat.le_refl _) hQ
    rw [if_neg c5] at hf
    by_cases c6 : x2 = (1 : Int32)
    · rw [if_pos c6] at hf
      refine w_tswIn (t := 69) c6 rfl (by decide) (by decide) rfl (by decide) ?_
      refine w_aload_n rfl rfl ?_
      obtain ⟨b7, ho, hf⟩ := g_bind hf
      refine x_dr0 ho ?_
      obtain ⟨hg, hf⟩ := g_guard hf
      refine x_getI hg rfl rfl rfl ?_
      cases hf
      exact w_ireturn rfl (int_ret _) (Nat.le_refl _) (Nat.le_refl _) hQ
    rw [if_neg c6] at hf
    by_cases c7 : x2 = (2 : Int32)
    · rw [if_pos c7] at hf
      refine w_tswIn (t := 74) c7 rfl (by decide) (by decide) rfl (by decide) ?_
      refine w_aload_n rfl rfl ?_
      obtain ⟨b8, ho, hf⟩ := g_bind hf
      refine x_dr0 ho ?_
      obtain ⟨hg, hf⟩ := g_guard hf
      refine x_getR hg rfl rfl rfl ?_
      refine w_bipush (v := (-2 : Int32)) rfl (by decide) ?_
      obtain ⟨q9, hc, hf⟩ := g_bind hf
      refine w_static [_, _] _ rfl rfl rfl rfl (Nat.le_of_ble_eq_true rfl) (Nat.le_of_ble_eq_true rfl) (Nat.le_of_ble_eq_true rfl) (t_G_numberOf (d := d + 0) hc ?_)
      cases hf
      exact w_ireturn rfl (int_ret _) (Nat.le_refl _) (Nat.le_refl _) hQ
    rw [if_neg c7] at hf
    by_cases c8 : x2 = (3 : Int32)
    · rw [if_pos c8] at hf
      refine w_tswIn (t := 84) c8 rfl (by decide) (by decide) rfl (by decide) ?_
      refine w_aload_n rfl rfl ?_
      obtain ⟨b9, ho, hf⟩ := g_bind hf
      refine x_dr0 ho ?_
      obtain ⟨hg, hf⟩ := g_guard hf
      refine x_getR hg rfl rfl rfl ?_
      refine w_bipush (v := (-2 : Int32)) rfl (by decide) ?_
      obtain ⟨q10, hc, hf⟩ := g_bind hf
      refine w_static [_, _] _ rfl rfl rfl rfl (Nat.le_of_ble_eq_true rfl) (Nat.le_of_ble_eq_true rfl) (Nat.le_of_ble_eq_true rfl) (t_G_numberOf (d := d + 0) hc ?_)
      cases hf
      exact w_ireturn rfl (int_ret _) (Nat.le_refl _) (Nat.le_refl _) hQ
    rw [if_neg c8] at hf
    by_cases c9 : x2 = (4 : Int32)
    · rw [if_pos c9] at hf
      refine w_tswIn (t := 94) c9 rfl (by decide) (by decide) rfl (by decide) ?_
      refine w_aload_n rfl rfl ?_
      obtain ⟨b10, ho, hf⟩ := g_bind hf
      refine x_dr0 ho ?_
      obtain ⟨hg, hf⟩ := g_guard hf
      refine x_getR hg rfl rfl rfl ?_
      refine w_bipush (v := (-2 : Int32)) rfl (by decide) ?_
      obtain ⟨q11, hc, hf⟩ := g_bind hf
      refine w_static [_, _] _ rfl rfl rfl rfl (Nat.le_of_ble_eq_true rfl) (Nat.le_of_ble_eq_true rfl) (Nat.le_of_ble_eq_true rfl) (t_G_numberOf (d := d + 0) hc ?_)
      cases hf
      exact w_ireturn rfl (int_ret _) (Nat.le_refl _) (Nat.le_refl _) hQ
    rw [if_neg c9] at hf
    refine w_tswOut (t := 104) rfl (g_out5 c5 c6 c7 c8 c9) (by decide) ?_
    refine w_iconst (v := (-1 : Int32)) rfl (by decide) ?_
    cases hf
    exact w_ireturn rfl (int_ret _) (Nat.le_refl _) (Nat.le_refl _) hQ
def f_Writing_canBeAsked_B24 (a0 : Nat) (n : Nat) (h : gHp) (x1 : Int32) : Option (Int32 × gHp) := (bif gtin (gtag (h) a0) [1, 6] then ((gref (h) a0 11).bind (fun b1 => (bif gArr (gtag (h) b1) 21 ((0 : Int32)) then (if (gint (h) b1 (ix ((0 : Int32)))) = (0 : Int32) then (bif gtin (gtag (h) a0) [1, 6] then ((gref (h) a0 11).bind (fun b3 => (bif gArr (gtag (h) b3) 21 ((1 : Int32)) then (if (gint (h) b3 (ix ((1 : Int32)))) = (0 : Int32) then (if (0 : Int32) = (0 : Int32) then some ((1 : Int32), h) else (if x1 = (0 : Int32) then some ((0 : Int32), h) else (if x1 = (1 : Int32) then some ((0 : Int32), h) else some ((1 : Int32), h)))) else (if (1 : Int32) = (0 : Int32) then some ((1 : Int32), h) else (if x1 = (0 : Int32) then some ((0 : Int32), h) else (if x1 = (1 : Int32) then some ((0 : Int32), h) else some ((1 : Int32), h))))) else none))) else none) else (if (1 : Int32) = (0 : Int32) then some ((1 : Int32), h) else (if x1 = (0 : Int32) then some ((0 : Int32), h) else (if x1 = (1 : Int32) then some ((0 : Int32), h) else some ((1 : Int32), h))))) else none))) else none)
set_option maxHeartbeats 4000000 in
set_option maxRecDepth 100000 in
theorem t_Writing_canBeAsked_B24 {d a0 : Nat} {Q : Option gv → gHp → Prop} {res : Int32 × gHp} (hQ : Q (some (.inl res.1)) res.2) (n : Nat) (h : gHp) (x1 : Int32) (u2 : Option gv) (hf : f_Writing_canBeAsked_B24 a0 n h x1  = some res) : gWP (gCall (d + 0)) m_Writing_canBeAsked Q 24 [some (.inr (some a0)), some (.inl x1), u2] [] h 0 0 := by
  unfold f_Writing_canBeAsked_B24 at hf
  refine w_aload_n rfl rfl ?_
  obtain ⟨hg, hf⟩ := g_guard hf
  refine x_getR hg rfl rfl rfl ?_
  refine w_iconst (v := (0 : Int32)) rfl (by decide) ?_
  obtain ⟨b1, ho, hf⟩ := g_bind hf
  refine x_dr1 ho ?_
  obtain ⟨hg, hf⟩ := g_guard hf
  refine x_zld hg rfl ?_
  refine w_if (t := 42) rfl (by decide) (fun c2 => ?_) (fun c2 => ?_)
  · have c2 : ¬ ((gint (h) b1 (ix ((0 : Int32)))) = (0 : Int32)) := c2
    rw [if_neg c2] at hf
    refine w_iconst (v := (1 : Int32)) rfl (by decide) ?_
    refine w_goto (t := 47) rfl (by decide) ?_
    refine w_istore_n rfl (Nat.le_of_ble_eq_true rfl) rfl ?_
    refine w_iload_n rfl rfl ?_
    refine w_if (t := 61) rfl (by decide) (fun c3 => ?_) (fun c3 => ?_)
    · have c3 : (1 : Int32) = (0 : Int32) := c3
      rw [if_pos c3] at hf
      refine w_iconst (v := (1 : Int32)) rfl (by decide) ?_
      refine w_goto (t := 66) rfl (by decide) ?_
      cases hf
      exact w_ireturn rfl (isZ_ret rfl) (Nat.le_refl _) (Nat.le_refl _) hQ
    · have c3 : ¬ ((1 : Int32) = (0 : Int32)) := c3
      rw [if_neg c3] at hf
      refine w_iload_n rfl rfl ?_
      refine w_if (t := 65) rfl (by decide) (fun c4 => ?_) (fun c4 => ?_)
      · have c4 : x1 = (0 : Int32) := c4
        rw [if_pos c4] at hf
        refine w_iconst (v := (0 : Int32)) rfl (by decide) ?_
        cases hf
        exact w_ireturn rfl (isZ_ret rfl) (Nat.le_refl _) (Nat.le_refl _) hQ
      · have c4 : ¬ (x1 = (0 : Int32)) := c4
        rw [if_neg c4] at hf
        refine w_iload_n rfl rfl ?_
        refine w_iconst (v := (1 : Int32)) rfl (by decide) ?_
        refine w_icmp (t := 65) rfl (by decide) (fun c5 => ?_) (fun c5 => ?_)
        · have c5 : x1 = (1 : Int32) := c5
          rw [if_pos c5] at hf
          refine w_iconst (v := (0 : Int32)) rfl (by decide) ?_
          cases hf
          exact w_ireturn rfl (isZ_ret rfl) (Nat.le_refl _) (Nat.le_refl _) hQ
        · have c5 : ¬ (x1 = (1 : Int32)) := c5
          rw [if_neg c5] at hf
          refine w_iconst (v := (1 : Int32)) rfl (by decide) ?_
          refine w_goto (t := 66) rfl (by decide) ?_
          cases hf
          exact w_ireturn rfl (isZ_ret rfl) (Nat.le_refl _) (Nat.le_refl _) hQ
  · have c2 : (gint (h) b1 (ix ((0 : Int32)))) = (0 : Int32) := Classical.not_not.mp c2
    rw [if_pos c2] at hf
    refine w_aload_n rfl rfl ?_
    obtain ⟨hg, hf⟩ := g_guard hf
    refine x_getR hg rfl rfl rfl ?_
    refine w_iconst (v := (1 : Int32)) rfl (by decide) ?_
    obtain ⟨b3, ho, hf⟩ := g_bind hf
    refine x_dr1 ho ?_
    obtain ⟨hg, hf⟩ := g_guard hf
    refine x_zld hg rfl ?_
    refine w_if (t := 46) rfl (by decide) (fun c4 => ?_) (fun c4 => ?_)
    · have c4 : (gint (h) b3 (ix ((1 : Int32)))) = (0 : Int32) := c4
      rw [if_pos c4] at hf
      refine w_iconst (v := (0 : Int32)) rfl (by decide) ?_
      refine w_istore_n rfl (Nat.le_of_ble_eq_true rfl) rfl ?_
      refine w_iload_n rfl rfl ?_
      refine w_if (t := 61) rfl (by decide) (fun c5 => ?_) (fun c5 => ?_)
      · have c5 : (0 : Int32) = (0 : Int32) := c5
        rw [if_pos c5] at hf
        refine w_iconst (v := (1 : Int32)) rfl (by decide) ?_
        refine w_goto (t := 66) rfl (by decide) ?_
        cases hf
        exact w_ireturn rfl (isZ_ret rfl) (Nat.le_refl _) (Nat.le_refl _) hQ
      · have c5 : ¬ ((0 : Int32) = (0 : Int32)) := c5
        rw [if_neg c5] at hf
        refine w_iload_n rfl rfl ?_
        refine w_if (t := 65) rfl (by decide) (fun c6 => ?_) (fun c6 => ?_)
        · have c6 : x1 = (0 : Int32) := c6
          rw [if_pos c6] at hf
          refine w_iconst (v := (0 : Int32)) rfl (by decide) ?_
          cases hf
          exact w_ireturn rfl (isZ_ret rfl) (Nat.le_refl _) (Nat.le_refl _) hQ
        · have c6 : ¬ (x1 = (0 : Int32)) := c6
          rw [if_neg c6] at hf
          refine w_iload_n rfl rfl ?_
          refine w_iconst (v := (1 : Int32)) rfl (by decide) ?_
          refine w_icmp (t := 65) rfl (by decide) (fun c7 => ?_) (fun c7 => ?_)
          · have c7 : x1 = (1 : Int32) := c7
            rw [if_pos c7] at hf
            refine w_iconst (v := (0 : Int32)) rfl (by decide) ?_
            cases hf
            exact w_ireturn rfl (isZ_ret rfl) (Nat.le_refl _) (Nat.le_refl _) hQ
          · have c7 : ¬ (x1 = (1 : Int32)) := c7
            rw [if_neg c7] at hf
            refine w_iconst (v := (1 : Int32)) rfl (by decide) ?_
            refine w_goto (t := 66) rfl (by decide) ?_
            cases hf
            exact w_ireturn rfl (isZ_ret rfl) (Nat.le_refl _) (Nat.le_refl _) hQ
    · have c4 : ¬ ((gint (h) b3 (ix ((1 : Int32)))) = (0 : Int32)) := c4
      rw [if_neg c4] at hf
      refine w_iconst (v := (1 : Int32)) rfl (by decide) ?_
      refine w_goto (t := 47) rfl (by decide) ?_
      refine w_istore_n rfl (Nat.le_of_ble_eq_true rfl) rfl ?_
      refine w_iload_n rfl rfl ?_
      refine w_if (t := 61) rfl (by decide) (fun c5 => ?_) (fun c5 => ?_)
      · have c5 : (1 : Int32) = (0 : Int32) := c5
        rw [if_pos c5] at hf
        refine w_iconst (v := (1 : Int32)) rfl (by decide) ?_
        refine w_goto (t := 66) rfl (by decide) ?_
        cases hf
        exact w_ireturn rfl (isZ_ret rfl) (Nat.le_refl _) (Nat.le_refl _) hQ
      · have c5 : ¬ ((1 : Int32) = (0 : Int32)) := c5
        rw [if_neg c5] at hf
        refine w_iload_n rfl rfl ?_
        refine w_if (t := 65) rfl (by decide) (fun c6 => ?_) (fun c6 => ?_)
        · have c6 : x1 = (0 : Int32) := c6
          rw [if_pos c6] at hf
          refine w_iconst (v := (0 : Int32)) rfl (by decide) ?_
          cases hf
          exact w_ireturn rfl (isZ_ret rfl) (Nat.le_refl _) (Nat.le_refl _) hQ
        · have c6 : ¬ (x1 = (0 : Int32)) := c6
          rw [if_neg c6] at hf
          refine w_iload_n rfl rfl ?_
          refine w_iconst (v := (1 : Int32)) rfl (by decide) ?_
          refine w_icmp (t := 65) rfl (by decide) (fun c7 => ?_) (fun c7 => ?_)
          · have c7 : x1 = (1 : Int32) := c7
            rw [if_pos c7] at hf
            refine w_iconst (v := (0 : Int32)) rfl (by decide) ?_
            cases hf
            exact w_ireturn rfl (isZ_ret rfl) (Nat.le_refl _) (Nat.le_refl _) hQ
          · have c7 : ¬ (x1 = (1 : Int32)) := c7
            rw [if_neg c7] at hf
            refine w_iconst (v := (1 : Int32)) rfl (by decide) ?_
            refine w_goto (t := 66) rfl (by decide) ?_
            cases hf
            exact w_ireturn rfl (isZ_ret rfl) (Nat.le_refl _) (Nat.le_refl _) hQ
def f_Writing_canBeAsked (n : Nat) (h : gHp) (a0 : Nat) (x1 : Int32) : Option (Int32 × gHp) := (bif gtin (gtag (h) a0) [1, 6] then ((gref (h) a0 11).bind (fun b1 => (bif gArr (gtag (h) b1) 21 (x1) then (if (gint (h) b1 (ix (x1))) = (0 : Int32) then (if x1 = (3 : Int32) then (bif gtin (gtag (h) a0) [1, 6] then (if (gint (h) a0 1) = (2 : Int32) then f_Writing_canBeAsked_B24 a0  n (h) (x1)  else some ((0 : Int32), h)) else none) else f_Writing_canBeAsked_B24 a0  n (h) (x1) ) else some ((0 : Int32), h)) else none))) else none)
set_option maxHeartbeats 4000000 in
set_option maxRecDepth 100000 in
theorem t_Writing_canBeAsked {d n a0 : Nat} {h : gHp} {x1 : Int32} {res : Int32 × gHp} {Q : Option gv → gHp → Prop} (hf : f_Writing_canBeAsked n h a0 x1 = some res) (hQ : Q (some (.inl res.1)) res.2) : gCall (d + 1) m_Writing_canBeAsked [.inr (some a0), .inl x1] h Q := by
  unfold f_Writing_canBeAsked at hf
  refine g_enter (d := d + 0) (Nat.le_of_ble_eq_true rfl) ?_
  show gWP (gCall (d + 0)) m_Writing_canBeAsked Q 0 [some (.inr (some a0)), some (.inl x1), none] [] h 0 0
  refine w_aload_n rfl rfl ?_
  obtain ⟨hg, hf⟩ := g_guard hf
  refine x_getR hg rfl rfl rfl ?_
  refine w_iload_n rfl rfl ?_
  obtain ⟨b1, ho, hf⟩ := g_bind hf
  refine x_dr1 ho ?_
  obtain ⟨hg, hf⟩ := g_guard hf
  refine x_zld hg rfl ?_
  refine w_if (t := 22) rfl (by decide) (fun c2 => ?_) (fun c2 => ?_)
  · have c2 : ¬ ((gint (h) b1 (ix (x1))) = (0 : Int32)) := c2
    rw [if_neg c2] at hf
    refine w_iconst (v := (0 : Int32)) rfl (by decide) ?_
    cases hf
    exact w_ireturn rfl (isZ_ret rfl) (Nat.le_refl _) (Nat.le_refl _) hQ
  · have c2 : (gint (h) b1 (ix (x1))) = (0 : Int32) := Classical.not_not.mp c2
    rw [if_pos c2] at hf
    refine w_iload_n rfl rfl ?_
    refine w_iconst (v := (3 : Int32)) rfl (by decide) ?_
    refine w_icmp (t := 24) rfl (by decide) (fun c3 => ?_) (fun c3 => ?_)
    · have c3 : ¬ (x1 = (3 : Int32)) := c3
      rw [if_neg c3] at hf
      exact t_Writing_canBeAsked_B24  hQ _ _ (x1)  _ hf
    · have c3 : x1 = (3 : Int32) := Classical.not_not.mp c3
      rw [if_pos c3] at hf
      refine w_aload_n rfl rfl ?_
      obtain ⟨hg, hf⟩ := g_guard hf
      refine x_getI hg rfl rfl rfl ?_
      refine w_iconst (v := (2 : Int32)) rfl (by decide) ?_
      refine w_icmp (t := 24) rfl (by decide) (fun c4 => ?_) (fun c4 => ?_)
      · have c4 : (gint (h) a0 1) = (2 : Int32) := c4
        rw [if_pos c4] at hf
        exact t_Writing_canBeAsked_B24  hQ _ _ (x1)  _ hf
      · have c4 : ¬ ((gint (h) a0 1) = (2 : Int32)) := c4
        rw [if_neg c4] at hf
        refine w_iconst (v := (0 : Int32)) rfl (by decide) ?_
        cases hf
        exact w_ireturn rfl (isZ_ret rfl) (Nat.le_refl _) (Nat.le_refl _) hQ
def f_G_cancel (n : Nat) (h : gHp) (a0 : Nat) (x1 : Int32) (x2 : Int32) : Option (Int32 × gHp) := (bif gtin (gtag (h) a0) [9] then ((gref (h) a0 0).bind (fun b1 => (((bif gtis (gtag (h) b1) 7 then f_Tree_find n (h) b1 (x1) else none)).bind (fun q2 => (if q2.1 = none then some ((-1 : Int32), q2.2) else ((f_G_isAsk n (q2.2) (x2)).bind (fun q4 => (if q4.1 = (0 : Int32) then some ((-1 : Int32), q4.2) else ((gInst (q4.2) (q2.1) "GlkPanes$Writing").bind (fun i6 => (if i6 = (0 : Int32) then some ((-2 : Int32), q4.2) else (bif gCas (q4.2) (q2.1) "GlkPanes$Writing" then (q2.1.bind (fun b8 => (bif gtin (gtag (q4.2) b8) [1, 6] then ((gref (q4.2) b8 11).bind (fun b9 => (bif gArr (gtag (q4.2) b9) 21 (x2) then (if (gint (q4.2) b9 (ix (x2))) = (0 : Int32) then some ((-2 : Int32), q4.2) else (q2.1.bind (fun b11 => (bif gtin (gtag (q4.2) b11) [1, 6] then ((gref (q4.2) b11 12).bind (fun b12 => (bif gtin (gtag (q4.2) b12) [2] then (q2.1.bind (fun b13 => (bif gtin (gtag (q4.2) b13) [1, 6] then ((gref (q4.2) b13 11).bind (fun b14 => (bif gArr (gtag (q4.2) b14) 21 (x2) then (if x2 = (1 : Int32) then (q2.1.bind (fun b16 => (((bif gtin (gtag (gsetI (q4.2) b14 (ix (x2)) ((0 : Int32))) b16) [1, 6] then f_Writing_finishLine n (gsetI (q4.2) b14 (ix (x2)) ((0 : Int32))) b16  else none)).bind (fun q17 => some (gint (q4.2) b12 2, q17))))) else some ((1 : Int32), gsetI (q4.2) b14 (ix (x2)) ((0 : Int32)))) else none))) else none))) else none))) else none)))) else none))) else none))) else none)))))))))))) else none)
set_option maxHeartbeats 4000000 in
set_option maxRecDepth 100000 in
theorem t_G_cancel {d n a0 : Nat} {h : gHp} {x1 : Int32} {x2 : Int32} {res : Int32 × gHp} {Q : Option gv → gHp → Prop} (hf : f_G_cancel n h a0 x1 x2 = some res) (hQ : Q (some (.inl res.1)) res.2) : gCall (d + 6) m_G_cancel [.inr (some a0), .inl x1, .inl x2] h Q := by
  unfold f_G_cancel at hf
  refine g_enter (d := d + 5) (Nat.le_of_ble_eq_true rfl) ?_
  show gWP (gCall (d + 5)) m_G_cancel Q 0 [some (.inr (some a0)), some (.inl x1), some (.inl x2), none, none, none] [] h 0 0
  refine w_aload_n rfl rfl ?_
  obtain ⟨hg, hf⟩ := g_guard hf
  refine x_getR hg rfl rfl rfl ?_
  refine w_iload_n rfl rfl ?_
  obtain ⟨b1, ho, hf⟩ := g_bind hf
  refine x_dr1 ho ?_
  obtain ⟨q2, hc, hf⟩ := g_bind hf
  obtain ⟨hg, hc⟩ := g_guard hc
  refine x_virt 7 [_] _ hg rfl rfl rfl rfl (Nat.le_of_ble_eq_true rfl) rfl (Nat.le_of_ble_eq_true rfl) (Nat.le_of_ble_eq_true rfl) (t_Tree_find (d := d + 4) hc ?_)
  refine w_astore_n rfl (Nat.le_of_ble_eq_true rfl) rfl ?_
  refine w_aload_n rfl rfl ?_
  refine w_ifnull (t := 20) rfl (by decide) (fun c3 => ?_) (fun c3 => ?_)
  · have c3 : q2.1 = none := c3
    rw [if_pos c3] at hf
    refine w_iconst (v := (-1 : Int32)) rfl (by decide) ?_
    cases hf
    exact w_ireturn rfl (int_ret _) (Nat.le_refl _) (Nat.le_refl _) hQ
  · have c3 : ¬ (q2.1 = none) := c3
    rw [if_neg c3] at hf
    refine w_iload_n rfl rfl ?_
    obtain ⟨q4, hc, hf⟩ := g_bind hf
    refine w_static [_] _ rfl rfl rfl rfl (Nat.le_of_ble_eq_true rfl) (Nat.le_of_ble_eq_true rfl) (Nat.le_of_ble_eq_true rfl) (t_G_isAsk (d := d + 4) hc ?_)
    refine w_if (t := 22) rfl (by decide) (fun c5 => ?_) (fun c5 => ?_)
    · have c5 : ¬ (q4.1 = (0 : Int32)) := c5
      rw [if_neg c5] at hf
      refine w_aload_n rfl rfl ?_
      obtain ⟨i6, hg, hf⟩ := g_bind hf
      refine x_inst hg rfl rfl ?_
      refine w_if (t := 45) rfl (by decide) (fun c7 => ?_) (fun c7 => ?_)
      · have c7 : i6 = (0 : Int32) := c7
        rw [if_pos c7] at hf
        refine w_bipush (v := (-2 : Int32)) rfl (by decide) ?_
        cases hf
        exact w_ireturn rfl (int_ret _) (Nat.le_refl _) (Nat.le_refl _) hQ
      · have c7 : ¬ (i6 = (0 : Int32)) := c7
        rw [if_neg c7] at hf
        refine w_aload_n rfl rfl ?_
        obtain ⟨hg, hf⟩ := g_guard hf
        refine x_cast hg rfl rfl ?_
        refine w_astore rfl (Nat.le_of_ble_eq_true rfl) rfl ?_
        refine w_aload rfl rfl ?_
        obtain ⟨b8, ho, hf⟩ := g_bind hf
        refine x_dr0 ho ?_
        obtain ⟨hg, hf⟩ := g_guard hf
        refine x_getR hg rfl rfl rfl ?_
        refine w_iload_n rfl rfl ?_
        obtain ⟨b9, ho, hf⟩ := g_bind hf
        refine x_dr1 ho ?_
        obtain ⟨hg, hf⟩ := g_guard hf
        refine x_zld hg rfl ?_
        refine w_if (t := 48) rfl (by decide) (fun c10 => ?_) (fun c10 => ?_)
        · have c10 : ¬ ((gint (q4.2) b9 (ix (x2))) = (0 : Int32)) := c10
          rw [if_neg c10] at hf
          refine w_aload rfl rfl ?_
          obtain ⟨b11, ho, hf⟩ := g_bind hf
          refine x_dr0 ho ?_
          obtain ⟨hg, hf⟩ := g_guard hf
          refine x_getR hg rfl rfl rfl ?_
          obtain ⟨b12, ho, hf⟩ := g_bind hf
          refine x_dr0 ho ?_
          obtain ⟨hg, hf⟩ := g_guard hf
          refine x_getI hg rfl rfl rfl ?_
          refine w_istore rfl (Nat.le_of_ble_eq_true rfl) rfl ?_
          refine w_aload rfl rfl ?_
          obtain ⟨b13, ho, hf⟩ := g_bind hf
          refine x_dr0 ho ?_
          obtain ⟨hg, hf⟩ := g_guard hf
          refine x_getR hg rfl rfl rfl ?_
          refine w_iload_n rfl rfl ?_
          refine w_iconst (v := (0 : Int32)) rfl (by decide) ?_
          obtain ⟨b14, ho, hf⟩ := g_bind hf
          refine x_dr2 ho ?_
          obtain ⟨hg, hf⟩ := g_guard hf
          refine x_zst hg rfl rfl ?_
          refine w_iload_n rfl rfl ?_
          refine w_iconst (v := (1 : Int32)) rfl (by decide) ?_
          refine w_icmp (t := 73) rfl (by decide) (fun c15 => ?_) (fun c15 => ?_)
          · have c15 : x2 = (1 : Int32) := c15
            rw [if_pos c15] at hf
            refine w_aload rfl rfl ?_
            obtain ⟨b16, ho, hf⟩ := g_bind hf
            refine x_dr0 ho ?_
            obtain ⟨q17, hc, hf⟩ := g_bind hf
            obtain ⟨hg, hc⟩ := g_guard hc
            refine x_virtG [1, 6] [] _ hg rfl rfl rfl rfl (Nat.le_of_ble_eq_true rfl) (List.forall_mem_cons.mpr ⟨⟨_, rfl, rfl⟩, List.forall_mem_cons.mpr ⟨⟨_, rfl, rfl⟩, fun _ h => absurd h List.not_mem_nil⟩⟩) (Nat.le_of_ble_eq_true rfl) (Nat.le_of_ble_eq_true rfl) (t_Writing_finishLine (d := d + 0) hc ?_)
            refine w_iload rfl rfl ?_
            cases hf
            exact w_ireturn rfl (int_ret _) (Nat.le_refl _) (Nat.le_refl _) hQ
          · have c15 : ¬ (x2 = (1 : Int32)) := c15
            rw [if_neg c15] at hf
            refine w_iconst (v := (1 : Int32)) rfl (by decide) ?_
            cases hf
            exact w_ireturn rfl (int_ret _) (Nat.le_refl _) (Nat.le_refl _) hQ
        · have c10 : (gint (q4.2) b9 (ix (x2))) = (0 : Int32) := Classical.not_not.mp c10
          rw [if_pos c10] at hf
          refine w_bipush (v := (-2 : Int32)) rfl (by decide) ?_
          cases hf
          exact w_ireturn rfl (int_ret _) (Nat.le_refl _) (Nat.le_refl _) hQ
    · have c5 : q4.1 = (0 : Int32) := Classical.not_not.mp c5
      rw [if_pos c5] at hf
      refine w_iconst (v := (-1 : Int32)) rfl (by decide) ?_
      cases hf
      exact w_ireturn rfl (int_ret _) (Nat.le_refl _) (Nat.le_refl _) hQ
def f_G_sign_B28 (a0 : Nat) (n : Nat) (h : gHp) (x2 : Int32) (x3 : Option Nat) : Option (Int32 × gHp) := ((gInst (h) (x3) "GlkPanes$Writing").bind (fun i1 => (if i1 = (0 : Int32) then some ((-3 : Int32), h) else (bif gCas (h) (x3) "GlkPanes$Writing" then (x3.bind (fun b3 => (bif gtin (gtag (h) b3) [1, 6] then ((gref (h) b3 11).bind (fun b4 => (bif gArr (gtag (h) b4) 21 ((1 : Int32)) then (if (gint (h) b4 (ix ((1 : Int32)))) = (0 : Int32) then (x3.bind (fun b6 => (bif gtin (gtag (h) b6) [1, 6] then (x3.bind (fun b7 => (bif gtin (gtag (h) b7) [1, 6] then ((f_G_cell n (h) (x2) (gint (h) b6 7) (gint (h) b7 8)).bind (fun q8 => (x3.bind (fun b9 => (((bif gtin (gtag (q8.2) b9) [1] then f_Grid_put n (q8.2) b9 (q8.1) else (bif gtin (gtag (q8.2) b9) [6] then f_Text_put n (q8.2) b9 (q8.1) else none))).bind (fun q10 => (x3.bind (fun b11 => (bif gtin (gtag (q10) b11) [1, 6] then (x3.bind (fun b12 => (bif gtin (gtag (q10) b12) [1, 6] then some ((1 : Int32), gsetI (q10) b12 9 ((gint (q10) b11 9) + (1 : Int32))) else none))) else none))))))))) else none))) else none))) else some ((-3 : Int32), h)) else none))) else none))) else none))))
set_option maxHeartbeats 4000000 in
set_option maxRecDepth 100000 in
theorem t_G_sign_B28 {d a0 : Nat} {Q : Option gv → gHp → Prop} {res : Int32 × gHp} (hQ : Q (some (.inl res.1)) res.2) (n : Nat) (h : gHp) (x2 : Int32) (x3 : Option Nat) (u1 : Option gv) (u4 : Option gv) (hf : f_G_sign_B28 a0 n h x2 x3  = some res) : gWP (gCall (d + 4)) m_G_sign Q 28 [some (.inr (some a0)), u1, some (.inl x2), some (.inr x3), u4] [] h 0 0 := by
  unfold f_G_sign_B28 at hf
  refine w_aload_n rfl rfl ?_
  obtain ⟨i1, hg, hf⟩ := g_bind hf
  refine x_inst hg rfl rfl ?_
  refine w_if (t := 51) rfl (by decide) (fun c2 => ?_) (fun c2 => ?_)
  · have c2 : i1 = (0 : Int32) := c2
    rw [if_pos c2] at hf
    refine w_bipush (v := (-3 : Int32)) rfl (by decide) ?_
    cases hf
    exact w_ireturn rfl (int_ret _) (Nat.le_refl _) (Nat.le_refl _) hQ
  · have c2 : ¬ (i1 = (0 : Int32)) := c2
    rw [if_neg c2] at hf
    refine w_aload_n rfl rfl ?_
    obtain ⟨hg, hf⟩ := g_guard hf
    refine x_cast hg rfl rfl ?_
    refine w_astore rfl (Nat.le_of_ble_eq_true rfl) rfl ?_
    refine w_aload rfl rfl ?_
    obtain ⟨b3, ho, hf⟩ := g_bind hf
    refine x_dr0 ho ?_
    obtain ⟨hg, hf⟩ := g_guard hf
    refine x_getR hg rfl rfl rfl ?_
    refine w_iconst (v := (1 : Int32)) rfl (by decide) ?_
    obtain ⟨b4, ho, hf⟩ := g_bind hf
    refine x_dr1 ho ?_
    obtain ⟨hg, hf⟩ := g_guard hf
    refine x_zld hg rfl ?_
    refine w_if (t := 54) rfl (by decide) (fun c5 => ?_) (fun c5 => ?_)
    · have c5 : (gint (h) b4 (ix ((1 : Int32)))) = (0 : Int32) := c5
      rw [if_pos c5] at hf
      refine w_aload rfl rfl ?_
      refine w_iload_n rfl rfl ?_
      refine w_aload rfl rfl ?_
      obtain ⟨b6, ho, hf⟩ := g_bind hf
      refine x_dr0 ho ?_
      obtain ⟨hg, hf⟩ := g_guard hf
      refine x_getI hg rfl rfl rfl ?_
      refine w_aload rfl rfl ?_
      obtain ⟨b7, ho, hf⟩ := g_bind hf
      refine x_dr0 ho ?_
      obtain ⟨hg, hf⟩ := g_guard hf
      refine x_getI hg rfl rfl rfl ?_
      obtain ⟨q8, hc, hf⟩ := g_bind hf
      refine w_static [_, _, _] _ rfl rfl rfl rfl (Nat.le_of_ble_eq_true rfl) (Nat.le_of_ble_eq_true rfl) (Nat.le_of_ble_eq_true rfl) (t_G_cell (d := d + 3) hc ?_)
      obtain ⟨b9, ho, hf⟩ := g_bind hf
      refine x_dr1 ho ?_
      obtain ⟨q10, hc, hf⟩ := g_bind hf
      have hDp : gDisp (gCall (d + 4)) m_G_sign 158 (q8.2) b9 [.inl q8.1] (fun v h' => v = none ∧ h' = q10) := by
        rcases g_cond hc with ⟨hg, hc⟩ | ⟨-, hc⟩
        · exact g_disp [1] hg rfl rfl (List.forall_mem_cons.mpr ⟨⟨_, rfl, rfl, rfl, rfl⟩, fun _ h => absurd h List.not_mem_nil⟩) (t_Grid_put (d := d + 0) hc ⟨rfl, rfl⟩)
        rcases g_cond hc with ⟨hg, hc⟩ | ⟨-, hc⟩
        · exact g_disp [6] hg rfl rfl (List.forall_mem_cons.mpr ⟨⟨_, rfl, rfl, rfl, rfl⟩, fun _ h => absurd h List.not_mem_nil⟩) (t_Text_put (d := d + 1) hc ⟨rfl, rfl⟩)
        cases hc
      refine w_disp [_] _ rfl rfl (Nat.le_of_ble_eq_true rfl) hDp (fun v h' hv => ?_)
      obtain ⟨rfl, rfl⟩ := hv
      refine w_aload rfl rfl ?_
      refine w_dup rfl ?_
      obtain ⟨b11, ho, hf⟩ := g_bind hf
      refine x_dr0 ho ?_
      obtain ⟨hg, hf⟩ := g_guard hf
      refine x_getI hg rfl rfl rfl ?_
      refine w_iconst (v := (1 : Int32)) rfl (by decide) ?_
      refine w_iadd rfl ?_
      obtain ⟨b12, ho, hf⟩ := g_bind hf
      refine x_dr1 ho ?_
      obtain ⟨hg, hf⟩ := g_guard hf
      refine x_putI hg rfl rfl (by decide) ?_
      refine w_iconst (v := (1 : Int32)) rfl (by decide) ?_
      cases hf
      exact w_ireturn rfl (int_ret _) (Nat.le_refl _) (Nat.le_refl _) hQ
    · have c5 : ¬ ((gint (h) b4 (ix ((1 : Int32)))) = (0 : Int32)) := c5
      rw [if_neg c5] at hf
      refine w_bipush (v := (-3 : Int32)) rfl (by decide) ?_
      cases hf
      exact w_ireturn rfl (int_ret _) (Nat.le_refl _) (Nat.le_refl _) hQ
def f_G_sign (n : Nat) (h : gHp) (a0 : Nat) (x1 : Int32) (x2 : Int32) : Option (Int32 × gHp) := (bif gtin (gtag (h) a0) [9] then ((gref (h) a0 0).bind (fun b1 => (((bif gtis (gtag (h) b1) 7 then f_Tree_find n (h) b1 (x1) else none)).bind (fun q2 => (if q2.1 = none then some ((-1 : Int32), q2.2) else (if x2 = (10 : Int32) then f_G_sign_B28 a0  n (q2.2) (x2) (q2.1)  else ((f_G_isPlainSign n (q2.2) (x2)).bind (fun q5 => (if q5.1 = (0 : Int32) then some ((-1 : Int32), q5.2) else f_G_sign_B28 a0  n (q5.2) (x2) (q2.1) ))))))))) else none)
set_option maxHeartbeats 4000000 in
set_option maxRecDepth 100000 in
theorem t_G_sign {d n a0 : Nat} {h : gHp} {x1 : Int32} {x2 : Int32} {res : Int32 × gHp} {Q : Option gv → gHp → Prop} (hf : f_G_sign n h a0 x1 x2 = some res) (hQ : Q (some (.inl res.1)) res.2) : gCall (d + 5) m_G_sign [.inr (some a0), .inl x1, .inl x2] h Q := by
  unfold f_G_sign at hf
  refine g_enter (d := d + 4) (Nat.le_of_ble_eq_true rfl) ?_
  show gWP (gCall (d + 4)) m_G_sign Q 0 [some (.inr (some a0)), some (.inl x1), some (.inl x2), none, none] [] h 0 0
  refine w_aload_n rfl rfl ?_
  obtain ⟨hg, hf⟩ := g_guard hf
  refine x_getR hg rfl rfl rfl ?_
  refine w_iload_n rfl rfl ?_
  obtain ⟨b1, ho, hf⟩ := g_bind hf
  refine x_dr1 ho ?_
  obtain ⟨q2, hc, hf⟩ := g_bind hf
  obtain ⟨hg, hc⟩ := g_guard hc
  refine x_virt 7 [_] _ hg rfl rfl rfl rfl (Nat.le_of_ble_eq_true rfl) rfl (Nat.le_of_ble_eq_true rfl) (Nat.le_of_ble_eq_true rfl) (t_Tree_find (d := d + 3) hc ?_)
  refine w_astore_n rfl (Nat.le_of_ble_eq_true rfl) rfl ?_
  refine w_aload_n rfl rfl ?_
  refine w_ifnull (t := 26) rfl (by decide) (fun c3 => ?_) (fun c3 => ?_)
  · have c3 : q2.1 = none := c3
    rw [if_pos c3] at hf
    refine w_iconst (v := (-1 : Int32)) rfl (by decide) ?_
    cases hf
    exact w_ireturn rfl (int_ret _) (Nat.le_refl _) (Nat.le_refl _) hQ
  · have c3 : ¬ (q2.1 = none) := c3
    rw [if_neg c3] at hf
    refine w_iload_n rfl rfl ?_
    refine w_bipush (v := (10 : Int32)) rfl (by decide) ?_
    refine w_icmp (t := 28) rfl (by decide) (fun c4 => ?_) (fun c4 => ?_)
    · have c4 : x2 = (10 : Int32) := c4
      rw [if_pos c4] at hf
      exact t_G_sign_B28  hQ _ _ (x2) (q2.1)  _ _ hf
    · have c4 : ¬ (x2 = (10 : Int32)) := c4
      rw [if_neg c4] at hf
      refine w_iload_n rfl rfl ?_
      obtain ⟨q5, hc, hf⟩ := g_bind hf
      refine w_static [_] _ rfl rfl rfl rfl (Nat.le_of_ble_eq_true rfl) (Nat.le_of_ble_eq_true rfl) (Nat.le_of_ble_eq_true rfl) (t_G_isPlainSign (d := d + 3) hc ?_)
      refine w_if (t := 28) rfl (by decide) (fun c6 => ?_) (fun c6 => ?_)
      · have c6 : ¬ (q5.1 = (0 : Int32)) := c6
        rw [if_neg c6] at hf
        exact t_G_sign_B28  hQ _ _ (x2) (q2.1)  _ _ hf
      · have c6 : q5.1 = (0 : Int32) := Classical.not_not.mp c6
        rw [if_pos c6] at hf
        refine w_iconst (v := (-1 : Int32)) rfl (by decide) ?_
        cases hf
        exact w_ireturn rfl (int_ret _) (Nat.le_refl _) (Nat.le_refl _) hQ
