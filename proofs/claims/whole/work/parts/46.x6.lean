def f_G_shown (n : Nat) (h : gHp) (a0 : Nat) (x1 : Int32) (x2 : Int32) (x3 : Int32) (x4 : Int32) : Option (Int32 × gHp) := (bif gtin (gtag (h) a0) [9] then ((gref (h) a0 0).bind (fun b1 => (((bif gtis (gtag (h) b1) 7 then f_Tree_find n (h) b1 (x1) else none)).bind (fun q2 => (if q2.1 = none then some ((-1 : Int32), q2.2) else (q2.1.bind (fun b4 => (((bif gtin (gtag (q2.2) b4) [1, 3, 4, 5, 6] then f_Pane_has n (q2.2) b4 (x2) (x3) else none)).bind (fun q5 => (if q5.1 = (0 : Int32) then some ((-1 : Int32), q5.2) else (if x4 < (0 : Int32) then some ((-1 : Int32), q5.2) else (if x4 ≤ (2 : Int32) then ((gInst (q5.2) (q2.1) "GlkPanes$Writing").bind (fun i9 => (if i9 = (0 : Int32) then some ((-3 : Int32), q5.2) else (bif gCas (q5.2) (q2.1) "GlkPanes$Writing" then (q2.1.bind (fun b11 => (((bif gtin (gtag (q5.2) b11) [1] then f_Grid_cellAt n (q5.2) b11 (x2) (x3) else (bif gtin (gtag (q5.2) b11) [6] then f_Text_cellAt n (q5.2) b11 (x2) (x3) else none))).bind (fun q12 => (if x4 = (0 : Int32) then ((f_G_signOf n (q12.2) (q12.1)).bind (fun q14 => some (q14.1, q14.2))) else (if x4 = (1 : Int32) then ((f_G_styleOf n (q12.2) (q12.1)).bind (fun q15 => some (q15.1, q15.2))) else ((f_G_linkOf n (q12.2) (q12.1)).bind (fun q15 => some (q15.1, q15.2))))))))) else none)))) else some ((-1 : Int32), q5.2))))))))))))) else none)
set_option maxHeartbeats 4000000 in
set_option maxRecDepth 100000 in
theorem t_G_shown {d n a0 : Nat} {h : gHp} {x1 : Int32} {x2 : Int32} {x3 : Int32} {x4 : Int32} {res : Int32 × gHp} {Q : Option gv → gHp → Prop} (hf : f_G_shown n h a0 x1 x2 x3 x4 = some res) (hQ : Q (some (.inl res.1)) res.2) : gCall (d + 7) m_G_shown [.inr (some a0), .inl x1, .inl x2, .inl x3, .inl x4] h Q := by
  unfold f_G_shown at hf
  refine g_enter (d := d + 6) (Nat.le_of_ble_eq_true rfl) ?_
  show gWP (gCall (d + 6)) m_G_shown Q 0 [some (.inr (some a0)), some (.inl x1), some (.inl x2), some (.inl x3), some (.inl x4), none, none, none] [] h 0 0
  refine w_aload_n rfl rfl ?_
  obtain ⟨hg, hf⟩ := g_guard hf
  refine x_getR hg rfl rfl rfl ?_
  refine w_iload_n rfl rfl ?_
  obtain ⟨b1, ho, hf⟩ := g_bind hf
  refine x_dr1 ho ?_
  obtain ⟨q2, hc, hf⟩ := g_bind hf
  obtain ⟨hg, hc⟩ := g_guard hc
  refine x_virt 7 [_] _ hg rfl rfl rfl rfl (Nat.le_of_ble_eq_true rfl) rfl (Nat.le_of_ble_eq_true rfl) (Nat.le_of_ble_eq_true rfl) (t_Tree_find (d := d + 5) hc ?_)
  refine w_astore rfl (Nat.le_of_ble_eq_true rfl) rfl ?_
  refine w_aload rfl rfl ?_
  refine w_ifnull (t := 36) rfl (by decide) (fun c3 => ?_) (fun c3 => ?_)
  · have c3 : q2.1 = none := c3
    rw [if_pos c3] at hf
    refine w_iconst (v := (-1 : Int32)) rfl (by decide) ?_
    cases hf
    exact w_ireturn rfl (int_ret _) (Nat.le_refl _) (Nat.le_refl _) hQ
  · have c3 : ¬ (q2.1 = none) := c3
    rw [if_neg c3] at hf
    refine w_aload rfl rfl ?_
    refine w_iload_n rfl rfl ?_
    refine w_iload_n rfl rfl ?_
    obtain ⟨b4, ho, hf⟩ := g_bind hf
    refine x_dr2 ho ?_
    obtain ⟨q5, hc, hf⟩ := g_bind hf
    obtain ⟨hg, hc⟩ := g_guard hc
    refine x_virtG [1, 3, 4, 5, 6] [_, _] _ hg rfl rfl rfl rfl (Nat.le_of_ble_eq_true rfl) (List.forall_mem_cons.mpr ⟨⟨_, rfl, rfl⟩, List.forall_mem_cons.mpr ⟨⟨_, rfl, rfl⟩, List.forall_mem_cons.mpr ⟨⟨_, rfl, rfl⟩, List.forall_mem_cons.mpr ⟨⟨_, rfl, rfl⟩, List.forall_mem_cons.mpr ⟨⟨_, rfl, rfl⟩, fun _ h => absurd h List.not_mem_nil⟩⟩⟩⟩⟩) (Nat.le_of_ble_eq_true rfl) (Nat.le_of_ble_eq_true rfl) (t_Pane_has (d := d + 5) hc ?_)
    refine w_if (t := 36) rfl (by decide) (fun c6 => ?_) (fun c6 => ?_)
    · have c6 : q5.1 = (0 : Int32) := c6
      rw [if_pos c6] at hf
      refine w_iconst (v := (-1 : Int32)) rfl (by decide) ?_
      cases hf
      exact w_ireturn rfl (int_ret _) (Nat.le_refl _) (Nat.le_refl _) hQ
    · have c6 : ¬ (q5.1 = (0 : Int32)) := c6
      rw [if_neg c6] at hf
      refine w_iload rfl rfl ?_
      refine w_if (t := 36) rfl (by decide) (fun c7 => ?_) (fun c7 => ?_)
      · have c7 : x4 < (0 : Int32) := c7
        rw [if_pos c7] at hf
        refine w_iconst (v := (-1 : Int32)) rfl (by decide) ?_
        cases hf
        exact w_ireturn rfl (int_ret _) (Nat.le_refl _) (Nat.le_refl _) hQ
      · have c7 : ¬ (x4 < (0 : Int32)) := c7
        rw [if_neg c7] at hf
        refine w_iload rfl rfl ?_
        refine w_iconst (v := (2 : Int32)) rfl (by decide) ?_
        refine w_icmp (t := 38) rfl (by decide) (fun c8 => ?_) (fun c8 => ?_)
        · have c8 : x4 ≤ (2 : Int32) := c8
          rw [if_pos c8] at hf
          refine w_aload rfl rfl ?_
          obtain ⟨i9, hg, hf⟩ := g_bind hf
          refine x_inst hg rfl rfl ?_
          refine w_if (t := 56) rfl (by decide) (fun c10 => ?_) (fun c10 => ?_)
          · have c10 : i9 = (0 : Int32) := c10
            rw [if_pos c10] at hf
            refine w_bipush (v := (-3 : Int32)) rfl (by decide) ?_
            cases hf
            exact w_ireturn rfl (int_ret _) (Nat.le_refl _) (Nat.le_refl _) hQ
          · have c10 : ¬ (i9 = (0 : Int32)) := c10
            rw [if_neg c10] at hf
            refine w_aload rfl rfl ?_
            obtain ⟨hg, hf⟩ := g_guard hf
            refine x_cast hg rfl rfl ?_
            refine w_astore rfl (Nat.le_of_ble_eq_true rfl) rfl ?_
            refine w_goto (t := 59) rfl (by decide) ?_
            refine w_aload rfl rfl ?_
            refine w_iload_n rfl rfl ?_
            refine w_iload_n rfl rfl ?_
            obtain ⟨b11, ho, hf⟩ := g_bind hf
            refine x_dr2 ho ?_
            obtain ⟨q12, hc, hf⟩ := g_bind hf
            have hDp : gDisp (gCall (d + 6)) m_G_shown 184 (q5.2) b11 [.inl x2, .inl x3] (fun v h' => v = some (.inl q12.1) ∧ h' = q12.2) := by
              rcases g_cond hc with ⟨hg, hc⟩ | ⟨-, hc⟩
              · exact g_disp [1] hg rfl rfl (List.forall_mem_cons.mpr ⟨⟨_, rfl, rfl, rfl, rfl⟩, fun _ h => absurd h List.not_mem_nil⟩) (t_Grid_cellAt (d := d + 3) hc ⟨rfl, rfl⟩)
              rcases g_cond hc with ⟨hg, hc⟩ | ⟨-, hc⟩
              · exact g_disp [6] hg rfl rfl (List.forall_mem_cons.mpr ⟨⟨_, rfl, rfl, rfl, rfl⟩, fun _ h => absurd h List.not_mem_nil⟩) (t_Text_cellAt (d := d + 0) hc ⟨rfl, rfl⟩)
              cases hc
            refine w_disp [_, _] _ rfl rfl (Nat.le_of_ble_eq_true rfl) hDp (fun v h' hv => ?_)
            obtain ⟨rfl, rfl⟩ := hv
            refine w_istore rfl (Nat.le_of_ble_eq_true rfl) rfl ?_
            refine w_iload rfl rfl ?_
            by_cases c13 : x4 = (0 : Int32)
            · rw [if_pos c13] at hf
              refine w_lsw (t := 96) (off := 26) rfl (by decide) (by rw [c13]; decide) (by decide) ?_
              refine w_iload rfl rfl ?_
              obtain ⟨q14, hc, hf⟩ := g_bind hf
              refine w_static [_] _ rfl rfl rfl rfl (Nat.le_of_ble_eq_true rfl) (Nat.le_of_ble_eq_true rfl) (Nat.le_of_ble_eq_true rfl) (t_G_signOf (d := d + 5) hc ?_)
              cases hf
              exact w_ireturn rfl (int_ret _) (Nat.le_refl _) (Nat.le_refl _) hQ
            rw [if_neg c13] at hf
            by_cases c14 : x4 = (1 : Int32)
            · rw [if_pos c14] at hf
              refine w_lsw (t := 102) (off := 32) rfl (by decide) (by rw [c14]; decide) (by decide) ?_
              refine w_iload rfl rfl ?_
              obtain ⟨q15, hc, hf⟩ := g_bind hf
              refine w_static [_] _ rfl rfl rfl rfl (Nat.le_of_ble_eq_true rfl) (Nat.le_of_ble_eq_true rfl) (Nat.le_of_ble_eq_true rfl) (t_G_styleOf (d := d + 5) hc ?_)
              cases hf
              exact w_ireturn rfl (int_ret _) (Nat.le_refl _) (Nat.le_refl _) hQ
            rw [if_neg c14] at hf
            refine w_lsw (t := 108) (off := 38) rfl (by decide) (by rw [lv_osw c13 (by decide)]; rw [lv_osw c14 (by decide)]; rfl) (by decide) ?_
            refine w_iload rfl rfl ?_
            obtain ⟨q15, hc, hf⟩ := g_bind hf
            refine w_static [_] _ rfl rfl rfl rfl (Nat.le_of_ble_eq_true rfl) (Nat.le_of_ble_eq_true rfl) (Nat.le_of_ble_eq_true rfl) (t_G_linkOf (d := d + 5) hc ?_)
            cases hf
            exact w_ireturn rfl (int_ret _) (Nat.le_refl _) (Nat.le_refl _) hQ
        · have c8 : ¬ (x4 ≤ (2 : Int32)) := c8
          rw [if_neg c8] at hf
          refine w_iconst (v := (-1 : Int32)) rfl (by decide) ?_
          cases hf
          exact w_ireturn rfl (int_ret _) (Nat.le_refl _) (Nat.le_refl _) hQ
def f_G_cursor (n : Nat) (h : gHp) (a0 : Nat) (x1 : Int32) (x2 : Int32) (x3 : Int32) : Option (Int32 × gHp) := (bif gtin (gtag (h) a0) [9] then ((gref (h) a0 0).bind (fun b1 => (((bif gtis (gtag (h) b1) 7 then f_Tree_find n (h) b1 (x1) else none)).bind (fun q2 => (if q2.1 = none then some ((-1 : Int32), q2.2) else (if x2 < (0 : Int32) then some ((-1 : Int32), q2.2) else (if (99 : Int32) < x2 then some ((-1 : Int32), q2.2) else (if x3 < (0 : Int32) then some ((-1 : Int32), q2.2) else (if x3 ≤ (99 : Int32) then ((gInst (q2.2) (q2.1) "GlkPanes$Grid").bind (fun i8 => (if i8 = (0 : Int32) then some ((-3 : Int32), q2.2) else (bif gCas (q2.2) (q2.1) "GlkPanes$Grid" then (q2.1.bind (fun b10 => (bif gtin (gtag (q2.2) b10) [1] then ((gref (q2.2) b10 11).bind (fun b11 => (bif gArr (gtag (q2.2) b11) 21 ((1 : Int32)) then (if (gint (q2.2) b11 (ix ((1 : Int32)))) = (0 : Int32) then (q2.1.bind (fun b13 => (bif gtin (gtag (q2.2) b13) [1] then (q2.1.bind (fun b14 => (bif gtin (gtag (gsetI (q2.2) b13 14 (x2)) b14) [1] then (q2.1.bind (fun b15 => (((bif gtis (gtag (gsetI (gsetI (q2.2) b13 14 (x2)) b14 15 (x3)) b15) 1 then f_Pane_has n (gsetI (gsetI (q2.2) b13 14 (x2)) b14 15 (x3)) b15 (x2) (x3) else none)).bind (fun q16 => (if q16.1 = (0 : Int32) then some ((0 : Int32), q16.2) else some ((1 : Int32), q16.2)))))) else none))) else none))) else some ((-3 : Int32), q2.2)) else none))) else none))) else none)))) else some ((-1 : Int32), q2.2)))))))))) else none)
set_option maxHeartbeats 4000000 in
set_option maxRecDepth 100000 in
theorem t_G_cursor {d n a0 : Nat} {h : gHp} {x1 : Int32} {x2 : Int32} {x3 : Int32} {res : Int32 × gHp} {Q : Option gv → gHp → Prop} (hf : f_G_cursor n h a0 x1 x2 x3 = some res) (hQ : Q (some (.inl res.1)) res.2) : gCall (d + 2) m_G_cursor [.inr (some a0), .inl x1, .inl x2, .inl x3] h Q := by
  unfold f_G_cursor at hf
  refine g_enter (d := d + 1) (Nat.le_of_ble_eq_true rfl) ?_
  show gWP (gCall (d + 1)) m_G_cursor Q 0 [some (.inr (some a0)), some (.inl x1), some (.inl x2), some (.inl x3), none, none] [] h 0 0
  refine w_aload_n rfl rfl ?_
  obtain ⟨hg, hf⟩ := g_guard hf
  refine x_getR hg rfl rfl rfl ?_
  refine w_iload_n rfl rfl ?_
  obtain ⟨b1, ho, hf⟩ := g_bind hf
  refine x_dr1 ho ?_
  obtain ⟨q2, hc, hf⟩ := g_bind hf
  obtain ⟨hg, hc⟩ := g_guard hc
  refine x_virt 7 [_] _ hg rfl rfl rfl rfl (Nat.le_of_ble_eq_true rfl) rfl (Nat.le_of_ble_eq_true rfl) (Nat.le_of_ble_eq_true rfl) (t_Tree_find (d := d + 0) hc ?_)
  refine w_astore rfl (Nat.le_of_ble_eq_true rfl) rfl ?_
  refine w_aload rfl rfl ?_
  refine w_ifnull (t := 35) rfl (by decide) (fun c3 => ?_) (fun c3 => ?_)
  · have c3 : q2.1 = none := c3
    rw [if_pos c3] at hf
    refine w_iconst (v := (-1 : Int32)) rfl (by decide) ?_
    cases hf
    exact w_ireturn rfl (int_ret _) (Nat.le_refl _) (Nat.le_refl _) hQ
  · have c3 : ¬ (q2.1 = none) := c3
    rw [if_neg c3] at hf
    refine w_iload_n rfl rfl ?_
    refine w_if (t := 35) rfl (by decide) (fun c4 => ?_) (fun c4 => ?_)
    · have c4 : x2 < (0 : Int32) := c4
      rw [if_pos c4] at hf
      refine w_iconst (v := (-1 : Int32)) rfl (by decide) ?_
      cases hf
      exact w_ireturn rfl (int_ret _) (Nat.le_refl _) (Nat.le_refl _) hQ
    · have c4 : ¬ (x2 < (0 : Int32)) := c4
      rw [if_neg c4] at hf
      refine w_iload_n rfl rfl ?_
      refine w_bipush (v := (99 : Int32)) rfl (by decide) ?_
      refine w_icmp (t := 35) rfl (by decide) (fun c5 => ?_) (fun c5 => ?_)
      · have c5 : (99 : Int32) < x2 := c5
        rw [if_pos c5] at hf
        refine w_iconst (v := (-1 : Int32)) rfl (by decide) ?_
        cases hf
        exact w_ireturn rfl (int_ret _) (Nat.le_refl _) (Nat.le_refl _) hQ
      · have c5 : ¬ ((99 : Int32) < x2) := c5
        rw [if_neg c5] at hf
        refine w_iload_n rfl rfl ?_
        refine w_if (t := 35) rfl (by decide) (fun c6 => ?_) (fun c6 => ?_)
        · have c6 : x3 < (0 : Int32) := c6
          rw [if_pos c6] at hf
          refine w_iconst (v := (-1 : Int32)) rfl (by decide) ?_
          cases hf
          exact w_ireturn rfl (int_ret _) (Nat.le_refl _) (Nat.le_refl _) hQ
        · have c6 : ¬ (x3 < (0 : Int32)) := c6
          rw [if_neg c6] at hf
          refine w_iload_n rfl rfl ?_
          refine w_bipush (v := (99 : Int32)) rfl (by decide) ?_
          refine w_icmp (t := 37) rfl (by decide) (fun c7 => ?_) (fun c7 => ?_)
          · have c7 : x3 ≤ (99 : Int32) := c7
            rw [if_pos c7] at hf
            refine w_aload rfl rfl ?_
            obtain ⟨i8, hg, hf⟩ := g_bind hf
            refine x_inst hg rfl rfl ?_
            refine w_if (t := 62) rfl (by decide) (fun c9 => ?_) (fun c9 => ?_)
            · have c9 : i8 = (0 : Int32) := c9
              rw [if_pos c9] at hf
              refine w_bipush (v := (-3 : Int32)) rfl (by decide) ?_
              cases hf
              exact w_ireturn rfl (int_ret _) (Nat.le_refl _) (Nat.le_refl _) hQ
            · have c9 : ¬ (i8 = (0 : Int32)) := c9
              rw [if_neg c9] at hf
              refine w_aload rfl rfl ?_
              obtain ⟨hg, hf⟩ := g_guard hf
              refine x_cast hg rfl rfl ?_
              refine w_astore rfl (Nat.le_of_ble_eq_true rfl) rfl ?_
              refine w_aload rfl rfl ?_
              obtain ⟨b10, ho, hf⟩ := g_bind hf
              refine x_dr0 ho ?_
              obtain ⟨hg, hf⟩ := g_guard hf
              refine x_getR hg rfl rfl rfl ?_
              refine w_iconst (v := (1 : Int32)) rfl (by decide) ?_
              obtain ⟨b11, ho, hf⟩ := g_bind hf
              refine x_dr1 ho ?_
              obtain ⟨hg, hf⟩ := g_guard hf
              refine x_zld hg rfl ?_
              refine w_if (t := 65) rfl (by decide) (fun c12 => ?_) (fun c12 => ?_)
              · have c12 : (gint (q2.2) b11 (ix ((1 : Int32)))) = (0 : Int32) := c12
                rw [if_pos c12] at hf
                refine w_aload rfl rfl ?_
                refine w_iload_n rfl rfl ?_
                obtain ⟨b13, ho, hf⟩ := g_bind hf
                refine x_dr1 ho ?_
                obtain ⟨hg, hf⟩ := g_guard hf
                refine x_putI hg rfl rfl (by decide) ?_
                refine w_aload rfl rfl ?_
                refine w_iload_n rfl rfl ?_
                obtain ⟨b14, ho, hf⟩ := g_bind hf
                refine x_dr1 ho ?_
                obtain ⟨hg, hf⟩ := g_guard hf
                refine x_putI hg rfl rfl (by decide) ?_
                refine w_aload rfl rfl ?_
                refine w_iload_n rfl rfl ?_
                refine w_iload_n rfl rfl ?_
                obtain ⟨b15, ho, hf⟩ := g_bind hf
                refine x_dr2 ho ?_
                obtain ⟨q16, hc, hf⟩ := g_bind hf
                obtain ⟨hg, hc⟩ := g_guard hc
                refine x_virt 1 [_, _] _ hg rfl rfl rfl rfl (Nat.le_of_ble_eq_true rfl) rfl (Nat.le_of_ble_eq_true rfl) (Nat.le_of_ble_eq_true rfl) (t_Pane_has (d := d + 0) hc ?_)
                refine w_if (t := 91) rfl (by decide) (fun c17 => ?_) (fun c17 => ?_)
                · have c17 : q16.1 = (0 : Int32) := c17
                  rw [if_pos c17] at hf
                  refine w_iconst (v := (0 : Int32)) rfl (by decide) ?_
                  cases hf
                  exact w_ireturn rfl (int_ret _) (Nat.le_refl _) (Nat.le_refl _) hQ
                · have c17 : ¬ (q16.1 = (0 : Int32)) := c17
                  rw [if_neg c17] at hf
                  refine w_iconst (v := (1 : Int32)) rfl (by decide) ?_
                  refine w_goto (t := 92) rfl (by decide) ?_
                  cases hf
                  exact w_ireturn rfl (int_ret _) (Nat.le_refl _) (Nat.le_refl _) hQ
              · have c12 : ¬ ((gint (q2.2) b11 (ix ((1 : Int32)))) = (0 : Int32)) := c12
                rw [if_neg c12] at hf
                refine w_bipush (v := (-3 : Int32)) rfl (by decide) ?_
                cases hf
                exact w_ireturn rfl (int_ret _) (Nat.le_refl _) (Nat.le_refl _) hQ
          · have c7 : ¬ (x3 ≤ (99 : Int32)) := c7
            rw [if_neg c7] at hf
            refine w_iconst (v := (-1 : Int32)) rfl (by decide) ?_
            cases hf
            exact w_ireturn rfl (int_ret _) (Nat.le_refl _) (Nat.le_refl _) hQ
def f_G_pane (n : Nat) (h : gHp) (a0 : Nat) (x1 : Int32) (x2 : Int32) : Option (Int32 × gHp) := (bif gtin (gtag (h) a0) [9] then ((gref (h) a0 0).bind (fun b1 => (((bif gtis (gtag (h) b1) 7 then f_Tree_find n (h) b1 (x1) else none)).bind (fun q2 => (if q2.1 = none then some ((-1 : Int32), q2.2) else (if x2 = (0 : Int32) then (q2.1.bind (fun b5 => (bif gtin (gtag (q2.2) b5) [1, 3, 4, 5, 6] then some (gint (q2.2) b5 1, q2.2) else none))) else (if x2 = (1 : Int32) then (q2.1.bind (fun b6 => (bif gtin (gtag (q2.2) b6) [1, 3, 4, 5, 6] then some (gint (q2.2) b6 5, q2.2) else none))) else (if x2 = (2 : Int32) then (q2.1.bind (fun b7 => (bif gtin (gtag (q2.2) b7) [1, 3, 4, 5, 6] then some (gint (q2.2) b7 6, q2.2) else none))) else (if x2 = (3 : Int32) then (q2.1.bind (fun b8 => (bif gtin (gtag (q2.2) b8) [1, 3, 4, 5, 6] then some (gint (q2.2) b8 3, q2.2) else none))) else (if x2 = (4 : Int32) then (q2.1.bind (fun b9 => (bif gtin (gtag (q2.2) b9) [1, 3, 4, 5, 6] then some (gint (q2.2) b9 4, q2.2) else none))) else (if x2 = (5 : Int32) then (q2.1.bind (fun b10 => (bif gtin (gtag (q2.2) b10) [1, 3, 4, 5, 6] then ((f_G_numberOf n (q2.2) (gref (q2.2) b10 2) ((0 : Int32))).bind (fun q11 => some (q11.1, q11.2))) else none))) else (if x2 = (6 : Int32) then (q2.1.bind (fun b11 => (bif gtin (gtag (q2.2) b11) [1, 3, 4, 5, 6] then some (gint (q2.2) b11 7, q2.2) else none))) else (if x2 = (7 : Int32) then (q2.1.bind (fun b12 => (bif gtin (gtag (q2.2) b12) [1, 3, 4, 5, 6] then some (gint (q2.2) b12 8, q2.2) else none))) else (if x2 = (8 : Int32) then (q2.1.bind (fun b13 => (bif gtin (gtag (q2.2) b13) [1, 3, 4, 5, 6] then some (gint (q2.2) b13 9, q2.2) else none))) else (if x2 = (9 : Int32) then (q2.1.bind (fun b14 => (bif gtin (gtag (q2.2) b14) [1, 3, 4, 5, 6] then (if (gint (q2.2) b14 10) = (0 : Int32) then some ((0 : Int32), q2.2) else some ((1 : Int32), q2.2)) else none))) else some ((-1 : Int32), q2.2)))))))))))))))) else none)
set_option maxHeartbeats 4000000 in
set_option maxRecDepth 100000 in
theorem t_G_pane {d n a0 : Nat} {h : gHp} {x1 : Int32} {x2 : Int32} {res : Int32 × gHp} {Q : Option gv → gHp → Prop} (hf : f_G_pane n h a0 x1 x2 = some res) (hQ : Q (some (.inl res.1)) res.2) : gCall (d + 2) m_G_pane [.inr (some a0), .inl x1, .inl x2] h Q := by
  unfold f_G_pane at hf
  refine g_enter (d := d + 1) (Nat.le_of_ble_eq_true rfl) ?_
  show gWP (gCall (d + 1)) m_G_pane Q 0 [some (.inr (some a0)), some (.inl x1), some (.inl x2), none] [] h 0 0
  refine w_aload_n rfl rfl ?_
  obtain ⟨hg, hf⟩ := g_guard hf
  refine x_getR hg rfl rfl rfl ?_
  refine w_iload_n rfl rfl ?_
  obtain ⟨b1, ho, hf⟩ := g_bind hf
  refine x_dr1 ho ?_
  obtain ⟨q2, hc, hf⟩ := g_bind hf
  obtain ⟨hg, hc⟩ := g_guard hc
  refine x_virt 7 [_] _ hg rfl rfl rfl rfl (Nat.le_of_ble_eq_true rfl) rfl (Nat.le_of_ble_eq_true rfl) (Nat.le_of_ble_eq_true rfl) (t_Tree_find (d := d + 0) hc ?_)
  refine w_astore_n rfl (Nat.le_of_ble_eq_true rfl) rfl ?_
  refine w_aload_n rfl rfl ?_
  refine w_ifnonnull (t := 15) rfl (by decide) (fun c3 => ?_) (fun c3 => ?_)
  · have c3 : ¬ (q2.1 = none) := c3
    rw [if_neg c3] at hf
    refine w_iload_n rfl rfl ?_
    by_cases c4 : x2 = (0 : Int32)
    · rw [if_pos c4] at hf
      refine w_tswIn (t := 72) c4 rfl (by decide) (by decide) rfl (by decide) ?_
      refine w_aload_n rfl rfl ?_
      obtain ⟨b5, ho, hf⟩ := g_bind hf
      refine x_dr0 ho ?_
      obtain ⟨hg, hf⟩ := g_guard hf
      refine x_getI hg rfl rfl rfl ?_
      cases hf
      exact w_ireturn rfl (int_ret _) (Nat.le_refl _) (Nat.le_refl _) hQ
    rw [if_neg c4] at hf
    by_cases c5 : x2 = (1 : Int32)
    · rw [if_pos c5] at hf
      refine w_tswIn (t := 77) c5 rfl (by decide) (by decide) rfl (by decide) ?_
      refine w_aload_n rfl rfl ?_
      obtain ⟨b6, ho, hf⟩ := g_bind hf
      refine x_dr0 ho ?_
      obtain ⟨hg, hf⟩ := g_guard hf
      refine x_getI hg rfl rfl rfl ?_
      cases hf
      exact w_ireturn rfl (int_ret _) (Nat.le_refl _) (Nat.le_refl _) hQ
    rw [if_neg c5] at hf
    by_cases c6 : x2 = (2 : Int32)
    · rw [if_pos c6] at hf
      refine w_tswIn (t := 82) c6 rfl (by decide) (by decide) rfl (by decide) ?_
      refine w_aload_n rfl rfl ?_
      obtain ⟨b7, ho, hf⟩ := g_bind hf
      refine x_dr0 ho ?_
      obtain ⟨hg, hf⟩ := g_guard hf
      refine x_getI hg rfl rfl rfl ?_
      cases hf
      exact w_ireturn rfl (int_ret _) (Nat.le_refl _) (Nat.le_refl _) hQ
    rw [if_neg c6] at hf
    by_cases c7 : x2 = (3 : Int32)
    · rw [if_pos c7] at hf
      refine w_tswIn (t := 87) c7 rfl (by decide) (by decide) rfl (by decide) ?_
      refine w_aload_n rfl rfl ?_
      obtain ⟨b8, ho, hf⟩ := g_bind hf
      refine x_dr0 ho ?_
      obtain ⟨hg, hf⟩ := g_guard hf
      refine x_getI hg rfl rfl rfl ?_
      cases hf
      exact w_ireturn rfl (int_ret _) (Nat.le_refl _) (Nat.le_refl _) hQ
    rw [if_neg c7] at hf
    by_cases c8 : x2 = (4 : Int32)
    · rw [if_pos c8] at hf
      refine w_tswIn (t := 92) c8 rfl (by decide) (by decide) rfl (by decide) ?_
      refine w_aload_n rfl rfl ?_
      obtain ⟨b9, ho, hf⟩ := g_bind hf
      refine x_dr0 ho ?_
      obtain ⟨hg, hf⟩ := g_guard hf
      refine x_getI hg rfl rfl rfl ?_
      cases hf
      exact w_ireturn rfl (int_ret _) (Nat.le_refl _) (Nat.le_refl _) hQ
    rw [if_neg c8] at hf
    by_cases c9 : x2 = (5 : Int32)
    · rw [if_pos c9] at hf
      refine w_tswIn (t := 97) c9 rfl (by decide) (by decide) rfl (by decide) ?_
      refine w_aload_n rfl rfl ?_
      obtain ⟨b10, ho, hf⟩ := g_bind hf
      refine x_dr0 ho ?_
      obtain ⟨hg, hf⟩ := g_guard hf
      refine x_getR hg rfl rfl rfl ?_
      refine w_iconst (v := (0 : Int32)) rfl (by decide) ?_
      obtain ⟨q11, hc, hf⟩ := g_bind hf
      refine w_static [_, _] _ rfl rfl rfl rfl (Nat.le_of_ble_eq_true rfl) (Nat.le_of_ble_eq_true rfl) (Nat.le_of_ble_eq_true rfl) (t_G_numberOf (d := d + 0) hc ?_)
      cases hf
      exact w_ireturn rfl (int_ret _) (Nat.le_refl _) (Nat.le_refl _) hQ
    rw [if_neg c9] at hf
    by_cases c10 : x2 = (6 : Int32)
    · rw [if_pos c10] at hf
      refine w_tswIn (t := 106) c10 rfl (by decide) (by decide) rfl (by decide) ?_
      refine w_aload_n rfl rfl ?_
      obtain ⟨b11, ho, hf⟩ := g_bind hf
      refine x_dr0 ho ?_
      obtain ⟨hg, hf⟩ := g_guard hf
      refine x_getI hg rfl rfl rfl ?_
      cases hf
      exact w_ireturn rfl (int_ret _) (Nat.le_refl _) (Nat.le_refl _) hQ
    rw [if_neg c10] at hf
    by_cases c11 : x2 = (7 : Int32)
    · rw [if_pos c11] at hf
      refine w_tswIn (t := 111) c11 rfl (by decide) (by decide) rfl (by decide) ?_
      refine w_aload_n rfl rfl ?_
      obtain ⟨b12, ho, hf⟩ := g_bind hf
      refine x_dr0 ho ?_
      obtain ⟨hg, hf⟩ := g_guard hf
      refine x_getI hg rfl rfl rfl ?_
      cases hf
      exact w_ireturn rfl (int_ret _) (Nat.le_refl _) (Nat.le_refl _) hQ
    rw [if_neg c11] at hf
    by_cases c12 : x2 = (8 : Int32)
    · rw [if_pos c12] at hf
      refine w_tswIn (t := 116) c12 rfl (by decide) (by decide) rfl (by decide) ?_
      refine w_aload_n rfl rfl ?_
      obtain ⟨b13, ho, hf⟩ := g_bind hf
      refine x_dr0 ho ?_
      obtain ⟨hg, hf⟩ := g_guard hf
      refine x_getI hg rfl rfl rfl ?_
      cases hf
      exact w_ireturn rfl (int_ret _) (Nat.le_refl _) (Nat.le_refl _) hQ
    rw [if_neg c12] at hf
    by_cases c13 : x2 = (9 : Int32)
    · rw [if_pos c13] at hf
      refine w_tswIn (t := 121) c13 rfl (by decide) (by decide) rfl (by decide) ?_
      refine w_aload_n rfl rfl ?_
      obtain ⟨b14, ho, hf⟩ := g_bind hf
      refine x_dr0 ho ?_
      obtain ⟨hg, hf⟩ := g_guard hf
      refine x_getI hg rfl rfl rfl ?_
      refine w_if (t := 132) rfl (by decide) (fun c15 => ?_) (fun c15 => ?_)
      · have c15 : (gint (q2.2) b14 10) = (0 : Int32) := c15
        rw [if_pos c15] at hf
        refine w_iconst (v := (0 : Int32)) rfl (by decide) ?_
        cases hf
        exact w_ireturn rfl (int_ret _) (Nat.le_refl _) (Nat.le_refl _) hQ
      · have c15 : ¬ ((gint (q2.2) b14 10) = (0 : Int32)) := c15
        rw [if_neg c15] at hf
        refine w_iconst (v := (1 : Int32)) rfl (by decide) ?_
        refine w_goto (t := 133) rfl (by decide) ?_
        cases hf
        exact w_ireturn rfl (int_ret _) (Nat.le_refl _) (Nat.le_refl _) hQ
    rw [if_neg c13] at hf
    refine w_tswOut (t := 134) rfl (g_out10 c4 c5 c6 c7 c8 c9 c10 c11 c12 c13) (by decide) ?_
    refine w_iconst (v := (-1 : Int32)) rfl (by decide) ?_
    cases hf
    exact w_ireturn rfl (int_ret _) (Nat.le_refl _) (Nat.le_refl _) hQ
  · have c3 : q2.1 = none := c3
    rw [if_pos c3] at hf
    refine w_iconst (v := (-1 : Int32)) rfl (by decide) ?_
    cases hf
    exact w_ireturn rfl (int_ret _) (Nat.le_refl _) (Nat.le_refl _) hQ
def f_G_ask_B42 (a0 : Nat) (n : Nat) (h : gHp) (x2 : Int32) (x3 : Int32) (x4 : Option Nat) : Option (Int32 × gHp) := ((gInst (h) (x4) "GlkPanes$Writing").bind (fun i1 => (if i1 = (0 : Int32) then some ((-3 : Int32), h) else (bif gCas (h) (x4) "GlkPanes$Writing" then (x4.bind (fun b3 => (((bif gtin (gtag (h) b3) [1, 6] then f_Writing_canBeAsked n (h) b3 (x2) else none)).bind (fun q4 => (if q4.1 = (0 : Int32) then some ((-3 : Int32), q4.2) else (x4.bind (fun b6 => (bif gtin (gtag (q4.2) b6) [1, 6] then ((gref (q4.2) b6 11).bind (fun b7 => (bif gArr (gtag (q4.2) b7) 21 (x2) then (if x2 = (1 : Int32) then (x4.bind (fun b9 => (bif gtin (gtag (gsetI (q4.2) b7 (ix (x2)) ((1 : Int32))) b9) [1, 6] then ((gref (gsetI (q4.2) b7 (ix (x2)) ((1 : Int32))) b9 12).bind (fun b10 => (((bif gtis (gtag (gsetI (q4.2) b7 (ix (x2)) ((1 : Int32))) b10) 2 then f_Line_begin n (gsetI (q4.2) b7 (ix (x2)) ((1 : Int32))) b10 (x3) else none)).bind (fun q11 => some ((1 : Int32), q11))))) else none))) else some ((1 : Int32), gsetI (q4.2) b7 (ix (x2)) ((1 : Int32)))) else none))) else none)))))))) else none))))
set_option maxHeartbeats 4000000 in
set_option maxRecDepth 100000 in
theorem t_G_ask_B42 {d a0 : Nat} {Q : Option gv → gHp → Prop} {res : Int32 × gHp} (hQ : Q (some (.inl res.1)) res.2) (n : Nat) (h : gHp) (x2 : Int32) (x3 : Int32) (x4 : Option Nat) (u1 : Option gv) (u5 : Option gv) (hf : f_G_ask_B42 a0 n h x2 x3 x4  = some res) : gWP (gCall (d + 1)) m_G_ask Q 42 [some (.inr (some a0)), u1, some (.inl x2), some (.inl x3), some (.inr x4), u5] [] h 0 0 := by
  unfold f_G_ask_B42 at hf
  refine w_aload rfl rfl ?_
  obtain ⟨i1, hg, hf⟩ := g_bind hf
  refine x_inst hg rfl rfl ?_
  refine w_if (t := 66) rfl (by decide) (fun c2 => ?_) (fun c2 => ?_)
  · have c2 : i1 = (0 : Int32) := c2
    rw [if_pos c2] at hf
    refine w_bipush (v := (-3 : Int32)) rfl (by decide) ?_
    cases hf
    exact w_ireturn rfl (int_ret _) (Nat.le_refl _) (Nat.le_refl _) hQ
  · have c2 : ¬ (i1 = (0 : Int32)) := c2
    rw [if_neg c2] at hf
    refine w_aload rfl rfl ?_
    obtain ⟨hg, hf⟩ := g_guard hf
    refine x_cast hg rfl rfl ?_
    refine w_astore rfl (Nat.le_of_ble_eq_true rfl) rfl ?_
    refine w_aload rfl rfl ?_
    refine w_iload_n rfl rfl ?_
    obtain ⟨b3, ho, hf⟩ := g_bind hf
    refine x_dr1 ho ?_
    obtain ⟨q4, hc, hf⟩ := g_bind hf
    obtain ⟨hg, hc⟩ := g_guard hc
    refine x_virtG [1, 6] [_] _ hg rfl rfl rfl rfl (Nat.le_of_ble_eq_true rfl) (List.forall_mem_cons.mpr ⟨⟨_, rfl, rfl⟩, List.forall_mem_cons.mpr ⟨⟨_, rfl, rfl⟩, fun _ h => absurd h List.not_mem_nil⟩⟩) (Nat.le_of_ble_eq_true rfl) (Nat.le_of_ble_eq_true rfl) (t_Writing_canBeAsked (d := d + 0) hc ?_)
    refine w_if (t := 69) rfl (by decide) (fun c5 => ?_) (fun c5 => ?_)
    · have c5 : ¬ (q4.1 = (0 : Int32)) := c5
      rw [if_neg c5] at hf
      refine w_aload rfl rfl ?_
      obtain ⟨b6, ho, hf⟩ := g_bind hf
      refine x_dr0 ho ?_
      obtain ⟨hg, hf⟩ := g_guard hf
      refine x_getR hg rfl rfl rfl ?_
      refine w_iload_n rfl rfl ?_
      refine w_iconst (v := (1 : Int32)) rfl (by decide) ?_
      obtain ⟨b7, ho, hf⟩ := g_bind hf
      refine x_dr2 ho ?_
      obtain ⟨hg, hf⟩ := g_guard hf
      refine x_zst hg rfl rfl ?_
      refine w_iload_n rfl rfl ?_
      refine w_iconst (v := (1 : Int32)) rfl (by decide) ?_
      refine w_icmp (t := 91) rfl (by decide) (fun c8 => ?_) (fun c8 => ?_)
      · have c8 : ¬ (x2 = (1 : Int32)) := c8
        rw [if_neg c8] at hf
        refine w_iconst (v := (1 : Int32)) rfl (by decide) ?_
        cases hf
        exact w_ireturn rfl (int_ret _) (Nat.le_refl _) (Nat.le_refl _) hQ
      · have c8 : x2 = (1 : Int32) := Classical.not_not.mp c8
        rw [if_pos c8] at hf
        refine w_aload rfl rfl ?_
        obtain ⟨b9, ho, hf⟩ := g_bind hf
        refine x_dr0 ho ?_
        obtain ⟨hg, hf⟩ := g_guard hf
        refine x_getR hg rfl rfl rfl ?_
        refine w_iload_n rfl rfl ?_
        obtain ⟨b10, ho, hf⟩ := g_bind hf
        refine x_dr1 ho ?_
        obtain ⟨q11, hc, hf⟩ := g_bind hf
        obtain ⟨hg, hc⟩ := g_guard hc
        refine x_virt 2 [_] _ hg rfl rfl rfl rfl (Nat.le_of_ble_eq_true rfl) rfl (Nat.le_of_ble_eq_true rfl) (Nat.le_of_ble_eq_true rfl) (t_Line_begin (d := d + 0) hc ?_)
        refine w_iconst (v := (1 : Int32)) rfl (by decide) ?_
        cases hf
        exact w_ireturn rfl (int_ret _) (Nat.le_refl _) (Nat.le_refl _) hQ
    · have c5 : q4.1 = (0 : Int32) := Classical.not_not.mp c5
      rw [if_pos c5] at hf
      refine w_bipush (v := (-3 : Int32)) rfl (by decide) ?_
      cases hf
      exact w_ireturn rfl (int_ret _) (Nat.le_refl _) (Nat.le_refl _) hQ
def f_G_ask (n : Nat) (h : gHp) (a0 : Nat) (x1 : Int32) (x2 : Int32) (x3 : Int32) : Option (Int32 × gHp) := (bif gtin (gtag (h) a0) [9] then ((gref (h) a0 0).bind (fun b1 => (((bif gtis (gtag (h) b1) 7 then f_Tree_find n (h) b1 (x1) else none)).bind (fun q2 => (if q2.1 = none then some ((-1 : Int32), q2.2) else ((f_G_isAsk n (q2.2) (x2)).bind (fun q4 => (if q4.1 = (0 : Int32) then some ((-1 : Int32), q4.2) else (if x2 = (1 : Int32) then (if x3 < (1 : Int32) then some ((-1 : Int32), q4.2) else (if x3 ≤ (40 : Int32) then f_G_ask_B42 a0  n (q4.2) (x2) (x3) (q2.1)  else some ((-1 : Int32), q4.2))) else f_G_ask_B42 a0  n (q4.2) (x2) (x3) (q2.1) ))))))))) else none)
set_option maxHeartbeats 4000000 in
set_option maxRecDepth 100000 in
theorem t_G_ask {d n a0 : Nat} {h : gHp} {x1 : Int32} {x2 : Int32} {x3 : Int32} {res : Int32 × gHp} {Q : Option gv → gHp → Prop} (hf : f_G_ask n h a0 x1 x2 x3 = some res) (hQ : Q (some (.inl res.1)) res.2) : gCall (d + 2) m_G_ask [.inr (some a0), .inl x1, .inl x2, .inl x3] h Q := by
  unfold f_G_ask at hf
  refine g_enter (d := d + 1) (Nat.le_of_ble_eq_true rfl) ?_
  show gWP (gCall (d + 1)) m_G_ask Q 0 [some (.inr (some a0)), some (.inl x1), some (.inl x2), some (.inl x3), none, none] [] h 0 0
  refine w_aload_n rfl rfl ?_
  obtain ⟨hg, hf⟩ := g_guard hf
  refine x_getR hg rfl rfl rfl ?_
  refine w_iload_n rfl rfl ?_
  obtain ⟨b1, ho, hf⟩ := g_bind hf
  refine x_dr1 ho ?_
  obtain ⟨q2, hc, hf⟩ := g_bind hf
  obtain ⟨hg, hc⟩ := g_guard hc
  refine x_virt 7 [_] _ hg rfl rfl rfl rfl (Nat.le_of_ble_eq_true rfl) rfl (Nat.le_of_ble_eq_true rfl) (Nat.le_of_ble_eq_true rfl) (t_Tree_find (d := d + 0) hc ?_)
  refine w_astore rfl (Nat.le_of_ble_eq_true rfl) rfl ?_
  refine w_aload rfl rfl ?_
  refine w_ifnull (t := 22) rfl (by decide) (fun c3 => ?_) (fun c3 => ?_)
  · have c3 : q2.1 = none := c3
    rw [if_pos c3] at hf
    refine w_iconst (v := (-1 : Int32)) rfl (by decide) ?_
    cases hf
    exact w_ireturn rfl (int_ret _) (Nat.le_refl _) (Nat.le_refl _) hQ
  · have c3 : ¬ (q2.1 = none) := c3
    rw [if_neg c3] at hf
    refine w_iload_n rfl rfl ?_
    obtain ⟨q4, hc, hf⟩ := g_bind hf
    refine w_static [_] _ rfl rfl rfl rfl (Nat.le_of_ble_eq_true rfl) (Nat.le_of_ble_eq_true rfl) (Nat.le_of_ble_eq_true rfl) (t_G_isAsk (d := d + 0) hc ?_)
    refine w_if (t := 24) rfl (by decide) (fun c5 => ?_) (fun c5 => ?_)
    · have c5 : ¬ (q4.1 = (0 : Int32)) := c5
      rw [if_neg c5] at hf
      refine w_iload_n rfl rfl ?_
      refine w_iconst (v := (1 : Int32)) rfl (by decide) ?_
      refine w_icmp (t := 42) rfl (by decide) (fun c6 => ?_) (fun c6 => ?_)
      · have c6 : ¬ (x2 = (1 : Int32)) := c6
        rw [if_neg c6] at hf
        exact t_G_ask_B42  hQ _ _ (x2) (x3) (q2.1)  _ _ hf
      · have c6 : x2 = (1 : Int32) := Classical.not_not.mp c6
        rw [if_pos c6] at hf
        refine w_iload_n rfl rfl ?_
        refine w_iconst (v := (1 : Int32)) rfl (by decide) ?_
        refine w_icmp (t := 40) rfl (by decide) (fun c7 => ?_) (fun c7 => ?_)
        · have c7 : x3 < (1 : Int32) := c7
          rw [if_pos c7] at hf
          refine w_iconst (v := (-1 : Int32)) rfl (by decide) ?_
          cases hf
          exact w_ireturn rfl (int_ret _) (Nat.le_refl _) (Nat.le_refl _) hQ
        · have c7 : ¬ (x3 < (1 : Int32)) := c7
          rw [if_neg c7] at hf
          refine w_iload_n rfl rfl ?_
          refine w_bipush (v := (40 : Int32)) rfl (by decide) ?_
          refine w_icmp (t := 42) rfl (by decide) (fun c8 => ?_) (fun c8 => ?_)
          · have c8 : x3 ≤ (40 : Int32) := c8
            rw [if_pos c8] at hf
            exact t_G_ask_B42  hQ _ _ (x2) (x3) (q2.1)  _ _ hf
          · have c8 : ¬ (x3 ≤ (40 : Int32)) := c8
            rw [if_neg c8] at hf
            refine w_iconst (v := (-1 : Int32)) rfl (by decide) ?_
            cases hf
            exact w_ireturn rfl (int_ret _) (Nat.le_refl _) (Nat.le_refl _) hQ
    · have c5 : q4.1 = (0 : Int32) := Classical.not_not.mp c5
      rw [if_pos c5] at hf
      refine w_iconst (v := (-1 : Int32)) rfl (by decide) ?_
      cases hf
      exact w_ireturn rfl (int_ret _) (Nat.le_refl _) (Nat.le_refl _) hQ
def f_G_type_B34 (a0 : Nat) (n : Nat) (h : gHp) (x2 : Int32) (x3 : Option Nat) : Option (Int32 × gHp) := ((gInst (h) (x3) "GlkPanes$Writing").bind (fun i1 => (if i1 = (0 : Int32) then some ((0 : Int32), h) else (bif gCas (h) (x3) "GlkPanes$Writing" then (x3.bind (fun b3 => (bif gtin (gtag (h) b3) [1, 6] then ((gref (h) b3 11).bind (fun b4 => (bif gArr (gtag (h) b4) 21 ((0 : Int32)) then (if (gint (h) b4 (ix ((0 : Int32)))) = (0 : Int32) then (x3.bind (fun b6 => (bif gtin (gtag (h) b6) [1, 6] then ((gref (h) b6 11).bind (fun b7 => (bif gArr (gtag (h) b7) 21 ((1 : Int32)) then (if (gint (h) b7 (ix ((1 : Int32)))) = (0 : Int32) then some ((0 : Int32), h) else (((bif gtis (gtag (h) a0) 9 then f_G_typeInLine n (h) a0 (x3) (x2) else none)).bind (fun q9 => some (q9.1, q9.2)))) else none))) else none))) else (x3.bind (fun b6 => (bif gtin (gtag (h) b6) [1, 6] then ((gref (h) b6 11).bind (fun b7 => (bif gArr (gtag (h) b7) 21 ((0 : Int32)) then (bif gtin (gtag (gsetI (h) b7 (ix ((0 : Int32))) ((0 : Int32))) a0) [9] then (x3.bind (fun b8 => (bif gtin (gtag (gsetI (h) b7 (ix ((0 : Int32))) ((0 : Int32))) b8) [1, 6] then ((gref (gsetI (h) b7 (ix ((0 : Int32))) ((0 : Int32))) a0 1).bind (fun b9 => (((bif gtis (gtag (gsetI (h) b7 (ix ((0 : Int32))) ((0 : Int32))) b9) 0 then f_Events_add n (gsetI (h) b7 (ix ((0 : Int32))) ((0 : Int32))) b9 ((0 : Int32)) (gint (gsetI (h) b7 (ix ((0 : Int32))) ((0 : Int32))) b8 0) (x2) ((0 : Int32)) else none)).bind (fun q10 => some ((1 : Int32), q10))))) else none))) else none) else none))) else none)))) else none))) else none))) else none))))
set_option maxHeartbeats 4000000 in
set_option maxRecDepth 100000 in
theorem t_G_type_B34 {d a0 : Nat} {Q : Option gv → gHp → Prop} {res : Int32 × gHp} (hQ : Q (some (.inl res.1)) res.2) (n : Nat) (h : gHp) (x2 : Int32) (x3 : Option Nat) (u1 : Option gv) (u4 : Option gv) (hf : f_G_type_B34 a0 n h x2 x3  = some res) : gWP (gCall (d + 6)) m_G_type Q 34 [some (.inr (some a0)), u1, some (.inl x2), some (.inr x3), u4] [] h 0 0 := by
  unfold f_G_type_B34 at hf
  refine w_aload_n rfl rfl ?_
  obtain ⟨i1, hg, hf⟩ := g_bind hf
  refine x_inst hg rfl rfl ?_
  refine w_if (t := 50) rfl (by decide) (fun c2 => ?_) (fun c2 => ?_)
  · have c2 : i1 = (0 : Int32) := c2
    rw [if_pos c2] at hf
    refine w_iconst (v := (0 : Int32)) rfl (by decide) ?_
    cases hf
    exact w_ireturn rfl (int_ret _) (Nat.le_refl _) (Nat.le_refl _) hQ
  · have c2 : ¬ (i1 = (0 : Int32)) := c2
    rw [if_neg c2] at hf
    refine w_aload_n rfl rfl ?_
    obtain ⟨hg, hf⟩ := g_guard hf
    refine x_cast hg rfl rfl ?_
    refine w_astore rfl (Nat.le_of_ble_eq_true rfl) rfl ?_
    refine w_goto (t := 52) rfl (by decide) ?_
    refine w_aload rfl rfl ?_
    obtain ⟨b3, ho, hf⟩ := g_bind hf
    refine x_dr0 ho ?_
    obtain ⟨hg, hf⟩ := g_guard hf
    refine x_getR hg rfl rfl rfl ?_
    refine w_iconst (v := (0 : Int32)) rfl (by decide) ?_
    obtain ⟨b4, ho, hf⟩ := g_bind hf
    refine x_dr1 ho ?_
    obtain ⟨hg, hf⟩ := g_guard hf
    refine x_zld hg rfl ?_
    refine w_if (t := 87) rfl (by decide) (fun c5 => ?_) (fun c5 => ?_)
    · have c5 : (gint (h) b4 (ix ((0 : Int32)))) = (0 : Int32) := c5
      rw [if_pos c5] at hf
      refine w_aload rfl rfl ?_
      obtain ⟨b6, ho, hf⟩ := g_bind hf
      refine x_dr0 ho ?_
      obtain ⟨hg, hf⟩ := g_guard hf
      refine x_getR hg rfl rfl rfl ?_
      refine w_iconst (v := (1 : Int32)) rfl (by decide) ?_
      obtain ⟨b7, ho, hf⟩ := g_bind hf
      refine x_dr1 ho ?_
      obtain ⟨hg, hf⟩ := g_guard hf
      refine x_zld hg rfl ?_
      refine w_if (t := 107) rfl (by decide) (fun c8 => ?_) (fun c8 => ?_)
      · have c8 : (gint (h) b7 (ix ((1 : Int32)))) = (0 : Int32) := c8
        rw [if_pos c8] at hf
        refine w_iconst (v := (0 : Int32)) rfl (by decide) ?_
        cases hf
        exact w_ireturn rfl (int_ret _) (Nat.le_refl _) (Nat.le_refl _) hQ
      · have c8 : ¬ ((gint (h) b7 (ix ((1 : Int32)))) = (0 : Int32)) := c8
        rw [if_neg c8] at hf
        refine w_aload_n rfl rfl ?_
        refine w_aload rfl rfl ?_
        refine w_iload_n rfl rfl ?_
        obtain ⟨q9, hc, hf⟩ := g_bind hf
        obtain ⟨hg, hc⟩ := g_guard hc
        refine x_virt 9 [_, _] _ hg rfl rfl rfl rfl (Nat.le_of_ble_eq_true rfl) rfl (Nat.le_of_ble_eq_true rfl) (Nat.le_of_ble_eq_true rfl) (t_G_typeInLine (d := d + 0) hc ?_)
        refine w_goto (t := 108) rfl (by decide) ?_
        cases hf
        exact w_ireturn rfl (int_ret _) (Nat.le_refl _) (Nat.le_refl _) hQ
    · have c5 : ¬ ((gint (h) b4 (ix ((0 : Int32)))) = (0 : Int32)) := c5
      rw [if_neg c5] at hf
      refine w_aload rfl rfl ?_
      obtain ⟨b6, ho, hf⟩ := g_bind hf
      refine x_dr0 ho ?_
      obtain ⟨hg, hf⟩ := g_guard hf
      refine x_getR hg rfl rfl rfl ?_
      refine w_iconst (v := (0 : Int32)) rfl (by decide) ?_
      refine w_iconst (v := (0 : Int32)) rfl (by decide) ?_
      obtain ⟨b7, ho, hf⟩ := g_bind hf
      refine x_dr2 ho ?_
      obtain ⟨hg, hf⟩ := g_guard hf
      refine x_zst hg rfl rfl ?_
      refine w_aload_n rfl rfl ?_
      obtain ⟨hg, hf⟩ := g_guard hf
      refine x_getR hg rfl rfl rfl ?_
      refine w_iconst (v := (0 : Int32)) rfl (by decide) ?_
      refine w_aload rfl rfl ?_
      obtain ⟨b8, ho, hf⟩ := g_bind hf
      refine x_dr0 ho ?_
      obtain ⟨hg, hf⟩ := g_guard hf
      refine x_getI hg rfl rfl rfl ?_
      refine w_iload_n rfl rfl ?_
      refine w_iconst (v := (0 : Int32)) rfl (by decide) ?_
      obtain ⟨b9, ho, hf⟩ := g_bind hf
      refine x_dr4 ho ?_
      obtain ⟨q10, hc, hf⟩ := g_bind hf
      obtain ⟨hg, hc⟩ := g_guard hc
      refine x_virt 0 [_, _, _, _] _ hg rfl rfl rfl rfl (Nat.le_of_ble_eq_true rfl) rfl (Nat.le_of_ble_eq_true rfl) (Nat.le_of_ble_eq_true rfl) (t_Events_add (d := d + 3) hc ?_)
      refine w_iconst (v := (1 : Int32)) rfl (by decide) ?_
      cases hf
      exact w_ireturn rfl (int_ret _) (Nat.le_refl _) (Nat.le_refl _) hQ
def f_G_type (n : Nat) (h : gHp) (a0 : Nat) (x1 : Int32) (x2 : Int32) : Option (Int32 × gHp) := (bif gtin (gtag (h) a0) [9] then ((gref (h) a0 0).bind (fun b1 => (((bif gtis (gtag (h) b1) 7 then f_Tree_find n (h) b1 (x1) else none)).bind (fun q2 => (if q2.1 = none then some ((-1 : Int32), q2.2) else (if x2 = (8 : Int32) then f_G_type_B34 a0  n (q2.2) (x2) (q2.1)  else (if x2 = (10 : Int32) then f_G_type_B34 a0  n (q2.2) (x2) (q2.1)  else ((f_G_isPlainSign n (q2.2) (x2)).bind (fun q6 => (if q6.1 = (0 : Int32) then some ((-1 : Int32), q6.2) else f_G_type_B34 a0  n (q6.2) (x2) (q2.1) )))))))))) else none)
set_option maxHeartbeats 4000000 in
set_option maxRecDepth 100000 in
theorem t_G_type {d n a0 : Nat} {h : gHp} {x1 : Int32} {x2 : Int32} {res : Int32 × gHp} {Q : Option gv → gHp → Prop} (hf : f_G_type n h a0 x1 x2 = some res) (hQ : Q (some (.inl res.1)) res.2) : gCall (d + 7) m_G_type [.inr (some a0), .inl x1, .inl x2] h Q := by
  unfold f_G_type at hf
  refine g_enter (d := d + 6) (Nat.le_of_ble_eq_true rfl) ?_
  show gWP (gCall (d + 6)) m_G_type Q 0 [some (.inr (some a0)), some (.inl x1), some (.inl x2), none, none] [] h 0 0
  refine w_aload_n rfl rfl ?_
  obtain ⟨hg, hf⟩ := g_guard hf
  refine x_getR hg rfl rfl rfl ?_
  refine w_iload_n rfl rfl ?_
  obtain ⟨b1, ho, hf⟩ := g_bind hf
  refine x_dr1 ho ?_
  obtain ⟨q2, hc, hf⟩ := g_bind hf
  obtain ⟨hg, hc⟩ := g_guard hc
  refine x_virt 7 [_] _ hg rfl rfl rfl rfl (Nat.le_of_ble_eq_true rfl) rfl (Nat.le_of_ble_eq_true rfl) (Nat.le_of_ble_eq_true rfl) (t_Tree_find (d := d + 5) hc ?_)
  refine w_astore_n rfl (Nat.le_of_ble_eq_true rfl) rfl ?_
  refine w_aload_n rfl rfl ?_
  refine w_ifnull (t := 32) rfl (by decide) (fun c3 => ?_) (fun c3 => ?_)
  · have c3 : q2.1 = none := c3
    rw [if_pos c3] at hf
    refine w_iconst (v := (-1 : Int32)) rfl (by decide) ?_
    cases hf
    exact w_ireturn rfl (int_ret _) (Nat.le_refl _) (Nat.le_refl _) hQ
  · have c3 : ¬ (q2.1 = none) := c3
    rw [if_neg c3] at hf
    refine w_iload_n rfl rfl ?_
    refine w_bipush (v := (8 : Int32)) rfl (by decide) ?_
    refine w_icmp (t := 34) rfl (by decide) (fun c4 => ?_) (fun c4 => ?_)
    · have c4 : x2 = (8 : Int32) := c4
      rw [if_pos c4] at hf
      exact t_G_type_B34  hQ _ _ (x2) (q2.1)  _ _ hf
    · have c4 : ¬ (x2 = (8 : Int32)) := c4
      rw [if_neg c4] at hf
      refine w_iload_n rfl rfl ?_
      refine w_bipush (v := (10 : Int32)) rfl (by decide) ?_
      refine w_icmp (t := 34) rfl (by decide) (fun c5 => ?_) (fun c5 => ?_)
      · have c5 : x2 = (10 : Int32) := c5
        rw [if_pos c5] at hf
        exact t_G_type_B34  hQ _ _ (x2) (q2.1)  _ _ hf
      · have c5 : ¬ (x2 = (10 : Int32)) := c5
        rw [if_neg c5] at hf
        refine w_iload_n rfl rfl ?_
        obtain ⟨q6, hc, hf⟩ := g_bind hf
        refine w_static [_] _ rfl rfl rfl rfl (Nat.le_of_ble_eq_true rfl) (Nat.le_of_ble_eq_true rfl) (Nat.le_of_ble_eq_true rfl) (t_G_isPlainSign (d := d + 5) hc ?_)
        refine w_if (t := 34) rfl (by decide) (fun c7 => ?_) (fun c7 => ?_)
        · have c7 : ¬ (q6.1 = (0 : Int32)) := c7
          rw [if_neg c7] at hf
          exact t_G_type_B34  hQ _ _ (x2) (q2.1)  _ _ hf
        · have c7 : q6.1 = (0 : Int32) := Classical.not_not.mp c7
          rw [if_pos c7] at hf
          refine w_iconst (v := (-1 : Int32)) rfl (by decide) ?_
          cases hf
          exact w_ireturn rfl (int_ret _) (Nat.le_refl _) (Nat.le_refl _) hQ
def f_G_arrange_B84 (a0 : Nat) (n : Nat) (h : gHp) (x2 : Int32) (x3 : Int32) (x5 : Option Nat) (x6 : Option Nat) : Option (Int32 × gHp) := ((f_G_isAlongRows n (h) (x2)).bind (fun q1 => (x5.bind (fun b2 => (bif gtin (gtag (q1.2) b2) [3] then ((f_G_isAlongRows n (q1.2) (gint (q1.2) b2 11)).bind (fun q3 => (if q1.1 = q3.1 then ((f_G_isFixed n (q3.2) (x2)).bind (fun q5 => (if q5.1 = (0 : Int32) then (x5.bind (fun b7 => (((bif gtis (gtag (q5.2) b7) 3 then f_Pair_rearrange n (q5.2) b7 (x2) (x3) (x6) else none)).bind (fun q8 => (bif gtin (gtag (q8) a0) [9] then ((gref (q8) a0 0).bind (fun b9 => (((bif gtis (gtag (q8) b9) 7 then f_Tree_layOut n (q8) b9  else none)).bind (fun q10 => some ((1 : Int32), q10.2))))) else none))))) else (if x6 = none then (x5.bind (fun b8 => (((bif gtis (gtag (q5.2) b8) 3 then f_Pair_rearrange n (q5.2) b8 (x2) (x3) (x6) else none)).bind (fun q9 => (bif gtin (gtag (q9) a0) [9] then ((gref (q9) a0 0).bind (fun b10 => (((bif gtis (gtag (q9) b10) 7 then f_Tree_layOut n (q9) b10  else none)).bind (fun q11 => some ((1 : Int32), q11.2))))) else none))))) else (x6.bind (fun b8 => (bif gtin (gtag (q5.2) b8) [1, 3, 4, 5, 6] then (if (gint (q5.2) b8 1) = (0 : Int32) then some ((-3 : Int32), q5.2) else (x5.bind (fun b10 => (((bif gtis (gtag (q5.2) b10) 3 then f_Pair_rearrange n (q5.2) b10 (x2) (x3) (x6) else none)).bind (fun q11 => (bif gtin (gtag (q11) a0) [9] then ((gref (q11) a0 0).bind (fun b12 => (((bif gtis (gtag (q11) b12) 7 then f_Tree_layOut n (q11) b12  else none)).bind (fun q13 => some ((1 : Int32), q13.2))))) else none)))))) else none))))))) else some ((-3 : Int32), q3.2)))) else none)))))
set_option maxHeartbeats 4000000 in
set_option maxRecDepth 100000 in
theorem t_G_arrange_B84 {d a0 : Nat} {Q : Option gv → gHp → Prop} {res : Int32 × gHp} (hQ : Q (some (.inl res.1)) res.2) (n : Nat) (h : gHp) (x2 : Int32) (x3 : Int32) (x5 : Option Nat) (x6 : Option Nat) (u1 : Option gv) (u4 : Option gv) (hf : f_G_arrange_B84 a0 n h x2 x3 x5 x6  = some res) : gWP (gCall (d + 51)) m_G_arrange Q 84 [some (.inr (some a0)), u1, some (.inl x2), some (.inl x3), u4, some (.inr x5), some (.inr x6)] [] h 0 0 := by
  unfold f_G_arrange_B84 at hf
  refine w_iload_n rfl rfl ?_
  obtain ⟨q1, hc, hf⟩ := g_bind hf
  refine w_static [_] _ rfl rfl rfl rfl (Nat.le_of_ble_eq_true rfl) (Nat.le_of_ble_eq_true rfl) (Nat.le_of_ble_eq_true rfl) (t_G_isAlongRows (d := d + 50) hc ?_)
  refine w_aload rfl rfl ?_
  obtain ⟨b2, ho, hf⟩ := g_bind hf
  refine x_dr0 ho ?_
  obtain ⟨hg, hf⟩ := g_guard hf
  refine x_getI hg rfl rfl rfl ?_
  obtain ⟨q3, hc, hf⟩ := g_bind hf
  refine w_static [_] _ rfl rfl rfl rfl (Nat.le_of_ble_eq_true rfl) (Nat.le_of_ble_eq_true rfl) (Nat.le_of_ble_eq_true rfl) (t_G_isAlongRows (d := d + 50) hc ?_)
  refine w_icmp (t := 102) rfl (by decide) (fun c4 => ?_) (fun c4 => ?_)
  · have c4 : q1.1 = q3.1 := c4
    rw [if_pos c4] at hf
    refine w_iload_n rfl rfl ?_
    obtain ⟨q5, hc, hf⟩ := g_bind hf
    refine w_static [_] _ rfl rfl rfl rfl (Nat.le_of_ble_eq_true rfl) (Nat.le_of_ble_eq_true rfl) (Nat.le_of_ble_eq_true rfl) (t_G_isFixed (d := d + 50) hc ?_)
    refine w_if (t := 125) rfl (by decide) (fun c6 => ?_) (fun c6 => ?_)
    · have c6 : q5.1 = (0 : Int32) := c6
      rw [if_pos c6] at hf
      refine w_aload rfl rfl ?_
      refine w_iload_n rfl rfl ?_
      refine w_iload_n rfl rfl ?_
      refine w_aload rfl rfl ?_
      obtain ⟨b7, ho, hf⟩ := g_bind hf
      refine x_dr3 ho ?_
      obtain ⟨q8, hc, hf⟩ := g_bind hf
      obtain ⟨hg, hc⟩ := g_guard hc
      refine x_virt 3 [_, _, _] _ hg rfl rfl rfl rfl (Nat.le_of_ble_eq_true rfl) rfl (Nat.le_of_ble_eq_true rfl) (Nat.le_of_ble_eq_true rfl) (t_Pair_rearrange (d := d + 50) hc ?_)
      refine w_aload_n rfl rfl ?_
      obtain ⟨hg, hf⟩ := g_guard hf
      refine x_getR hg rfl rfl rfl ?_
      obtain ⟨b9, ho, hf⟩ := g_bind hf
      refine x_dr0 ho ?_
      obtain ⟨q10, hc, hf⟩ := g_bind hf
      obtain ⟨hg, hc⟩ := g_guard hc
      refine x_virt 7 [] _ hg rfl rfl rfl rfl (Nat.le_of_ble_eq_true rfl) rfl (Nat.le_of_ble_eq_true rfl) (Nat.le_of_ble_eq_true rfl) (t_Tree_layOut (d := d + 0) hc ?_)
      refine w_pop rfl ?_
      refine w_iconst (v := (1 : Int32)) rfl (by decide) ?_
      cases hf
      exact w_ireturn rfl (int_ret _) (Nat.le_refl _) (Nat.le_refl _) hQ
    · have c6 : ¬ (q5.1 = (0 : Int32)) := c6
      rw [if_neg c6] at hf
      refine w_aload rfl rfl ?_
      refine w_ifnull (t := 125) rfl (by decide) (fun c7 => ?_) (fun c7 => ?_)
      · have c7 : x6 = none := c7
        rw [if_pos c7] at hf
        refine w_aload rfl rfl ?_
        refine w_iload_n rfl rfl ?_
        refine w_iload_n rfl rfl ?_
        refine w_aload rfl rfl ?_
        obtain ⟨b8, ho, hf⟩ := g_bind hf
        refine x_dr3 ho ?_
        obtain ⟨q9, hc, hf⟩ := g_bind hf
        obtain ⟨hg, hc⟩ := g_guard hc
        refine x_virt 3 [_, _, _] _ hg rfl rfl rfl rfl (Nat.le_of_ble_eq_true rfl) rfl (Nat.le_of_ble_eq_true rfl) (Nat.le_of_ble_eq_true rfl) (t_Pair_rearrange (d := d + 50) hc ?_)
        refine w_aload_n rfl rfl ?_
        obtain ⟨hg, hf⟩ := g_guard hf
        refine x_getR hg rfl rfl rfl ?_
        obtain ⟨b10, ho, hf⟩ := g_bind hf
        refine x_dr0 ho ?_
        obtain ⟨q11, hc, hf⟩ := g_bind hf
        obtain ⟨hg, hc⟩ := g_guard hc
        refine x_virt 7 [] _ hg rfl rfl rfl rfl (Nat.le_of_ble_eq_true rfl) rfl (Nat.le_of_ble_eq_true rfl) (Nat.le_of_ble_eq_true rfl) (t_Tree_layOut (d := d + 0) hc ?_)
        refine w_pop rfl ?_
        refine w_iconst (v := (1 : Int32)) rfl (by decide) ?_
        cases hf
        exact w_ireturn rfl (int_ret _) (Nat.le_refl _) (Nat.le_refl _) hQ
      · have c7 : ¬ (x6 = none) := c7
        rw [if_neg c7] at hf
        refine w_aload rfl rfl ?_
        obtain ⟨b8, ho, hf⟩ := g_bind hf
        refine x_dr0 ho ?_
        obtain ⟨hg, hf⟩ := g_guard hf
        refine x_getI hg rfl rfl rfl ?_
        refine w_if (t := 125) rfl (by decide) (fun c9 => ?_) (fun c9 => ?_)
        · have c9 : ¬ ((gint (q5.2) b8 1) = (0 : Int32)) := c9
          rw [if_neg c9] at hf
          refine w_aload rfl rfl ?_
          refine w_iload_n rfl rfl ?_
          refine w_iload_n rfl rfl ?_
          refine w_aload rfl rfl ?_
          obtain ⟨b10, ho, hf⟩ := g_bind hf
          refine x_dr3 ho ?_
          obtain ⟨q11, hc, hf⟩ := g_bind hf
          obtain ⟨hg, hc⟩ := g_guard hc
          refine x_virt 3 [_, _, _] _ hg rfl rfl rfl rfl (Nat.le_of_ble_eq_true rfl) rfl (Nat.le_of_ble_eq_true rfl) (Nat.le_of_ble_eq_true rfl) (t_Pair_rearrange (d := d + 50) hc ?_)
          refine w_aload_n rfl rfl ?_
          obtain ⟨hg, hf⟩ := g_guard hf
          refine x_getR hg rfl rfl rfl ?_
          obtain ⟨b12, ho, hf⟩ := g_bind hf
          refine x_dr0 ho ?_
          obtain ⟨q13, hc, hf⟩ := g_bind hf
          obtain ⟨hg, hc⟩ := g_guard hc
          refine x_virt 7 [] _ hg rfl rfl rfl rfl (Nat.le_of_ble_eq_true rfl) rfl (Nat.le_of_ble_eq_true rfl) (Nat.le_of_ble_eq_true rfl) (t_Tree_layOut (d := d + 0) hc ?_)
          refine w_pop rfl ?_
          refine w_iconst (v := (1 : Int32)) rfl (by decide) ?_
          cases hf
          exact w_ireturn rfl (int_ret _) (Nat.le_refl _) (Nat.le_refl _) hQ
        · have c9 : (gint (q5.2) b8 1) = (0 : Int32) := Classical.not_not.mp c9
          rw [if_pos c9] at hf
          refine w_bipush (v := (-3 : Int32)) rfl (by decide) ?_
          cases hf
          exact w_ireturn rfl (int_ret _) (Nat.le_refl _) (Nat.le_refl _) hQ
  · have c4 : ¬ (q1.1 = q3.1) := c4
    rw [if_neg c4] at hf
    refine w_bipush (v := (-3 : Int32)) rfl (by decide) ?_
    cases hf
    exact w_ireturn rfl (int_ret _) (Nat.le_refl _) (Nat.le_refl _) hQ
def f_G_arrange (n : Nat) (h : gHp) (a0 : Nat) (x1 : Int32) (x2 : Int32) (x3 : Int32) (x4 : Int32) : Option (Int32 × gHp) := (bif gtin (gtag (h) a0) [9] then ((gref (h) a0 0).bind (fun b1 => (((bif gtis (gtag (h) b1) 7 then f_Tree_find n (h) b1 (x1) else none)).bind (fun q2 => ((gInst (q2.2) (q2.1) "GlkPanes$Pair").bind (fun i3 => (if i3 = (0 : Int32) then some ((-1 : Int32), q2.2) else (bif gCas (q2.2) (q2.1) "GlkPanes$Pair" then ((f_G_isMeasure n (q2.2) (x2) (x3)).bind (fun q5 => (if q5.1 = (0 : Int32) then some ((-1 : Int32), q5.2) else (q2.1.bind (fun b7 => (bif gtin (gtag (q5.2) b7) [3] then (if x4 = (0 : Int32) then f_G_arrange_B84 a0  n (q5.2) (x2) (x3) (q2.1) (gref (q5.2) b7 13)  else (bif gtin (gtag (q5.2) a0) [9] then ((gref (q5.2) a0 0).bind (fun b9 => (((bif gtis (gtag (q5.2) b9) 7 then f_Tree_find n (q5.2) b9 (x4) else none)).bind (fun q10 => (if q10.1 = none then some ((-1 : Int32), q10.2) else (q10.1.bind (fun b12 => (bif gtin (gtag (q10.2) b12) [1, 3, 4, 5, 6] then (if (gint (q10.2) b12 1) = (4 : Int32) then some ((-1 : Int32), q10.2) else ((f_G_isBelow n (q10.2) (q10.1) (q2.1)).bind (fun q14 => (if q14.1 = (0 : Int32) then some ((-1 : Int32), q14.2) else f_G_arrange_B84 a0  n (q14.2) (x2) (x3) (q2.1) (q10.1) )))) else none)))))))) else none)) else none)))))) else none)))))))) else none)
set_option maxHeartbeats 4000000 in
set_option maxRecDepth 100000 in
theorem t_G_arrange {d n a0 : Nat} {h : gHp} {x1 : Int32} {x2 : Int32} {x3 : Int32} {x4 : Int32} {res : Int32 × gHp} {Q : Option gv → gHp → Prop} (hf : f_G_arrange n h a0 x1 x2 x3 x4 = some res) (hQ : Q (some (.inl res.1)) res.2) : gCall (d + 52) m_G_arrange [.inr (some a0), .inl x1, .inl x2, .inl x3, .inl x4] h Q := by
  unfold f_G_arrange at hf
  refine g_enter (d := d + 51) (Nat.le_of_ble_eq_true rfl) ?_
  show gWP (gCall (d + 51)) m_G_arrange Q 0 [some (.inr (some a0)), some (.inl x1), some (.inl x2), some (.inl x3), some (.inl x4), none, none] [] h 0 0
  refine w_aload_n rfl rfl ?_
  obtain ⟨hg, hf⟩ := g_guard hf
  refine x_getR hg rfl rfl rfl ?_
  refine w_iload_n rfl rfl ?_
  obtain ⟨b1, ho, hf⟩ := g_bind hf
  refine x_dr1 ho ?_
  obtain ⟨q2, hc, hf⟩ := g_bind hf
  obtain ⟨hg, hc⟩ := g_guard hc
  refine x_virt 7 [_] _ hg rfl rfl rfl rfl (Nat.le_of_ble_eq_true rfl) rfl (Nat.le_of_ble_eq_true rfl) (Nat.le_of_ble_eq_true rfl) (t_Tree_find (d := d + 50) hc ?_)
  refine w_astore rfl (Nat.le_of_ble_eq_true rfl) rfl ?_
  refine w_aload rfl rfl ?_
  obtain ⟨i3, hg, hf⟩ := g_bind hf
  refine x_inst hg rfl rfl ?_
  refine w_if (t := 33) rfl (by decide) (fun c4 => ?_) (fun c4 => ?_)
  · have c4 : i3 = (0 : Int32) := c4
    rw [if_pos c4] at hf
    refine w_iconst (v := (-1 : Int32)) rfl (by decide) ?_
    cases hf
    exact w_ireturn rfl (int_ret _) (Nat.le_refl _) (Nat.le_refl _) hQ
  · have c4 : ¬ (i3 = (0 : Int32)) := c4
    rw [if_neg c4] at hf
    refine w_aload rfl rfl ?_
    obtain ⟨hg, hf⟩ := g_guard hf
    refine x_cast hg rfl rfl ?_
    refine w_astore rfl (Nat.le_of_ble_eq_true rfl) rfl ?_
    refine w_iload_n rfl rfl ?_
    refine w_iload_n rfl rfl ?_
    obtain ⟨q5, hc, hf⟩ := g_bind hf
    refine w_static [_, _] _ rfl rfl rfl rfl (Nat.le_of_ble_eq_true rfl) (Nat.le_of_ble_eq_true rfl) (Nat.le_of_ble_eq_true rfl) (t_G_isMeasure (d := d + 49) hc ?_)
    refine w_if (t := 35) rfl (by decide) (fun c6 => ?_) (fun c6 => ?_)
    · have c6 : ¬ (q5.1 = (0 : Int32)) := c6
      rw [if_neg c6] at hf
      refine w_aload rfl rfl ?_
      obtain ⟨b7, ho, hf⟩ := g_bind hf
      refine x_dr0 ho ?_
      obtain ⟨hg, hf⟩ := g_guard hf
      refine x_getR hg rfl rfl rfl ?_
      refine w_astore rfl (Nat.le_of_ble_eq_true rfl) rfl ?_
      refine w_iload rfl rfl ?_
      refine w_if (t := 84) rfl (by decide) (fun c8 => ?_) (fun c8 => ?_)
      · have c8 : x4 = (0 : Int32) := c8
        rw [if_pos c8] at hf
        exact t_G_arrange_B84  hQ _ _ (x2) (x3) (q2.1) (gref (q5.2) b7 13)  _ _ hf
      · have c8 : ¬ (x4 = (0 : Int32)) := c8
        rw [if_neg c8] at hf
        refine w_aload_n rfl rfl ?_
        obtain ⟨hg, hf⟩ := g_guard hf
        refine x_getR hg rfl rfl rfl ?_
        refine w_iload rfl rfl ?_
        obtain ⟨b9, ho, hf⟩ := g_bind hf
        refine x_dr1 ho ?_
        obtain ⟨q10, hc, hf⟩ := g_bind hf
        obtain ⟨hg, hc⟩ := g_guard hc
        refine x_virt 7 [_] _ hg rfl rfl rfl rfl (Nat.le_of_ble_eq_true rfl) rfl (Nat.le_of_ble_eq_true rfl) (Nat.le_of_ble_eq_true rfl) (t_Tree_find (d := d + 50) hc ?_)
        refine w_astore rfl (Nat.le_of_ble_eq_true rfl) rfl ?_
        refine w_aload rfl rfl ?_
        refine w_ifnull (t := 82) rfl (by decide) (fun c11 => ?_) (fun c11 => ?_)
        · have c11 : q10.1 = none := c11
          rw [if_pos c11] at hf
          refine w_iconst (v := (-1 : Int32)) rfl (by decide) ?_
          cases hf
          exact w_ireturn rfl (int_ret _) (Nat.le_refl _) (Nat.le_refl _) hQ
        · have c11 : ¬ (q10.1 = none) := c11
          rw [if_neg c11] at hf
          refine w_aload rfl rfl ?_
          obtain ⟨b12, ho, hf⟩ := g_bind hf
          refine x_dr0 ho ?_
          obtain ⟨hg, hf⟩ := g_guard hf
          refine x_getI hg rfl rfl rfl ?_
          refine w_iconst (v := (4 : Int32)) rfl (by decide) ?_
          refine w_icmp (t := 82) rfl (by decide) (fun c13 => ?_) (fun c13 => ?_)
          · have c13 : (gint (q10.2) b12 1) = (4 : Int32) := c13
            rw [if_pos c13] at hf
            refine w_iconst (v := (-1 : Int32)) rfl (by decide) ?_
            cases hf
            exact w_ireturn rfl (int_ret _) (Nat.le_refl _) (Nat.le_refl _) hQ
          · have c13 : ¬ ((gint (q10.2) b12 1) = (4 : Int32)) := c13
            rw [if_neg c13] at hf
            refine w_aload rfl rfl ?_
            refine w_aload rfl rfl ?_
            obtain ⟨q14, hc, hf⟩ := g_bind hf
            refine w_static [_, _] _ rfl rfl rfl rfl (Nat.le_of_ble_eq_true rfl) (Nat.le_of_ble_eq_true rfl) (Nat.le_of_ble_eq_true rfl) (t_G_isBelow (d := d + 50) hc ?_)
            refine w_if (t := 84) rfl (by decide) (fun c15 => ?_) (fun c15 => ?_)
            · have c15 : ¬ (q14.1 = (0 : Int32)) := c15
              rw [if_neg c15] at hf
              exact t_G_arrange_B84  hQ _ _ (x2) (x3) (q2.1) (q10.1)  _ _ hf
            · have c15 : q14.1 = (0 : Int32) := Classical.not_not.mp c15
              rw [if_pos c15] at hf
              refine w_iconst (v := (-1 : Int32)) rfl (by decide) ?_
              cases hf
              exact w_ireturn rfl (int_ret _) (Nat.le_refl _) (Nat.le_refl _) hQ
    · have c6 : q5.1 = (0 : Int32) := Classical.not_not.mp c6
      rw [if_pos c6] at hf
      refine w_iconst (v := (-1 : Int32)) rfl (by decide) ?_
      cases hf
      exact w_ireturn rfl (int_ret _) (Nat.le_refl _) (Nat.le_refl _) hQ
def f_G_click_B118 (a0 : Nat) (n : Nat) (h : gHp) (x3 : Option Nat) (s0 : Int32) : Option (Int32 × gHp) := (if s0 = (0 : Int32) then some ((0 : Int32), h) else (x3.bind (fun b2 => (bif gtin (gtag (h) b2) [1, 6] then ((gref (h) b2 11).bind (fun b3 => (bif gArr (gtag (h) b3) 21 ((2 : Int32)) then (bif gtin (gtag (gsetI (h) b3 (ix ((2 : Int32))) ((0 : Int32))) a0) [9] then (x3.bind (fun b4 => (bif gtin (gtag (gsetI (h) b3 (ix ((2 : Int32))) ((0 : Int32))) b4) [1, 6] then ((gref (gsetI (h) b3 (ix ((2 : Int32))) ((0 : Int32))) a0 1).bind (fun b5 => (((bif gtis (gtag (gsetI (h) b3 (ix ((2 : Int32))) ((0 : Int32))) b5) 0 then f_Events_add n (gsetI (h) b3 (ix ((2 : Int32))) ((0 : Int32))) b5 ((2 : Int32)) (gint (gsetI (h) b3 (ix ((2 : Int32))) ((0 : Int32))) b4 0) (s0) ((0 : Int32)) else none)).bind (fun q6 => some ((1 : Int32), q6))))) else none))) else none) else none))) else none))))
set_option maxHeartbeats 4000000 in
set_option maxRecDepth 100000 in
theorem t_G_click_B118 {d a0 : Nat} {Q : Option gv → gHp → Prop} {res : Int32 × gHp} (hQ : Q (some (.inl res.1)) res.2) (n : Nat) (h : gHp) (x3 : Option Nat) (s0 : Int32) (u1 : Option gv) (u2 : Option gv) (u4 : Option gv) (u5 : Option gv) (u6 : Option gv) (hf : f_G_click_B118 a0 n h x3 s0 = some res) : gWP (gCall (d + 6)) m_G_click Q 118 [some (.inr (some a0)), u1, u2, some (.inr x3), u4, u5, u6] [.inl s0] h 0 0 := by
  unfold f_G_click_B118 at hf
  refine w_istore rfl (Nat.le_of_ble_eq_true rfl) rfl ?_
  refine w_iload rfl rfl ?_
  refine w_if (t := 127) rfl (by decide) (fun c1 => ?_) (fun c1 => ?_)
  · have c1 : ¬ (s0 = (0 : Int32)) := c1
    rw [if_neg c1] at hf
    refine w_aload_n rfl rfl ?_
    obtain ⟨b2, ho, hf⟩ := g_bind hf
    refine x_dr0 ho ?_
    obtain ⟨hg, hf⟩ := g_guard hf
    refine x_getR hg rfl rfl rfl ?_
    refine w_iconst (v := (2 : Int32)) rfl (by decide) ?_
    refine w_iconst (v := (0 : Int32)) rfl (by decide) ?_
    obtain ⟨b3, ho, hf⟩ := g_bind hf
    refine x_dr2 ho ?_
    obtain ⟨hg, hf⟩ := g_guard hf
    refine x_zst hg rfl rfl ?_
    refine w_aload_n rfl rfl ?_
    obtain ⟨hg, hf⟩ := g_guard hf
    refine x_getR hg rfl rfl rfl ?_
    refine w_iconst (v := (2 : Int32)) rfl (by decide) ?_
    refine w_aload_n rfl rfl ?_
    obtain ⟨b4, ho, hf⟩ := g_bind hf
    refine x_dr0 ho ?_
    obtain ⟨hg, hf⟩ := g_guard hf
    refine x_getI hg rfl rfl rfl ?_
    refine w_iload rfl rfl ?_
    refine w_iconst (v := (0 : Int32)) rfl (by decide) ?_
    obtain ⟨b5, ho, hf⟩ := g_bind hf
    refine x_dr4 ho ?_
    obtain ⟨q6, hc, hf⟩ := g_bind hf
    obtain ⟨hg, hc⟩ := g_guard hc
    refine x_virt 0 [_, _, _, _] _ hg rfl rfl rfl rfl (Nat.le_of_ble_eq_true rfl) rfl (Nat.le_of_ble_eq_true rfl) (Nat.le_of_ble_eq_true rfl) (t_Events_add (d := d + 3) hc ?_)
    refine w_iconst (v := (1 : Int32)) rfl (by decide) ?_
    cases hf
    exact w_ireturn rfl (int_ret _) (Nat.le_refl _) (Nat.le_refl _) hQ
  · have c1 : s0 = (0 : Int32) := Classical.not_not.mp c1
    rw [if_pos c1] at hf
    refine w_iconst (v := (0 : Int32)) rfl (by decide) ?_
    cases hf
    exact w_ireturn rfl (int_ret _) (Nat.le_refl _) (Nat.le_refl _) hQ
def f_G_click (n : Nat) (h : gHp) (a0 : Nat) (x1 : Int32) (x2 : Int32) : Option (Int32 × gHp) := (bif gtin (gtag (h) a0) [9] then ((gref (h) a0 0).bind (fun b1 => (((bif gtis (gtag (h) b1) 7 then f_Tree_hasPlace n (h) b1 (x1) (x2) else none)).bind (fun q2 => (if q2.1 = (0 : Int32) then some ((-1 : Int32), q2.2) else (bif gtin (gtag (q2.2) a0) [9] then ((gref (q2.2) a0 0).bind (fun b4 => (((bif gtis (gtag (q2.2) b4) 7 then f_Tree_paneAt n (q2.2) b4 (x1) (x2) else none)).bind (fun q5 => ((gInst (q5.2) (q5.1) "GlkPanes$Writing").bind (fun i6 => (if i6 = (0 : Int32) then some ((0 : Int32), q5.2) else (bif gCas (q5.2) (q5.1) "GlkPanes$Writing" then (q5.1.bind (fun b8 => (bif gtin (gtag (q5.2) b8) [1, 6] then (q5.1.bind (fun b9 => (bif gtin (gtag (q5.2) b9) [1, 6] then (q5.1.bind (fun b10 => (bif gtin (gtag (q5.2) b10) [1, 6] then ((gref (q5.2) b10 11).bind (fun b11 => (bif gArr (gtag (q5.2) b11) 21 ((3 : Int32)) then (if (gint (q5.2) b11 (ix ((3 : Int32)))) = (0 : Int32) then (q5.1.bind (fun b13 => (bif gtin (gtag (q5.2) b13) [1, 6] then ((gref (q5.2) b13 11).bind (fun b14 => (bif gArr (gtag (q5.2) b14) 21 ((2 : Int32)) then (if (gint (q5.2) b14 (ix ((2 : Int32)))) = (0 : Int32) then f_G_click_B118 a0  n (q5.2) (q5.1) ((0 : Int32)) else (q5.1.bind (fun b16 => (((bif gtin (gtag (q5.2) b16) [1] then f_Grid_cellAt n (q5.2) b16 (x1 - (gint (q5.2) b8 3)) (x2 - (gint (q5.2) b9 4)) else (bif gtin (gtag (q5.2) b16) [6] then f_Text_cellAt n (q5.2) b16 (x1 - (gint (q5.2) b8 3)) (x2 - (gint (q5.2) b9 4)) else none))).bind (fun q17 => ((f_G_linkOf n (q17.2) (q17.1)).bind (fun q18 => f_G_click_B118 a0  n (q18.2) (q5.1) (q18.1)))))))) else none))) else none))) else (q5.1.bind (fun b13 => (bif gtin (gtag (q5.2) b13) [1, 6] then ((gref (q5.2) b13 11).bind (fun b14 => (bif gArr (gtag (q5.2) b14) 21 ((3 : Int32)) then (bif gtin (gtag (gsetI (q5.2) b14 (ix ((3 : Int32))) ((0 : Int32))) a0) [9] then (q5.1.bind (fun b15 => (bif gtin (gtag (gsetI (q5.2) b14 (ix ((3 : Int32))) ((0 : Int32))) b15) [1, 6] then ((gref (gsetI (q5.2) b14 (ix ((3 : Int32))) ((0 : Int32))) a0 1).bind (fun b16 => (((bif gtis (gtag (gsetI (q5.2) b14 (ix ((3 : Int32))) ((0 : Int32))) b16) 0 then f_Events_add n (gsetI (q5.2) b14 (ix ((3 : Int32))) ((0 : Int32))) b16 ((3 : Int32)) (gint (gsetI (q5.2) b14 (ix ((3 : Int32))) ((0 : Int32))) b15 0) (x1 - (gint (q5.2) b8 3)) (x2 - (gint (q5.2) b9 4)) else none)).bind (fun q17 => some ((1 : Int32), q17))))) else none))) else none) else none))) else none)))) else none))) else none))) else none))) else none))) else none)))))))) else none)))))) else none)
set_option maxHeartbeats 4000000 in
set_option maxRecDepth 100000 in
theorem t_G_click {d n a0 : Nat} {h : gHp} {x1 : Int32} {x2 : Int32} {res : Int32 × gHp} {Q : Option gv → gHp → Prop} (hf : f_G_click n h a0 x1 x2 = some res) (hQ : Q (some (.inl res.1)) res.2) : gCall (d + 7) m_G_click [.inr (some a0), .inl x1, .inl x2] h Q := by
  unfold f_G_click at hf
  refine g_enter (d := d + 6) (Nat.le_of_ble_eq_true rfl) ?_
  show gWP (gCall (d + 6)) m_G_click Q 0 [some (.inr (some a0)), some (.inl x1), some (.inl x2), none, none, none, none] [] h 0 0
  refine w_aload_n rfl rfl ?_
  obtain ⟨hg, hf⟩ := g_guard hf
  refine x_getR hg rfl rfl rfl ?_
  refine w_iload_n rfl rfl ?_
  refine w_iload_n rfl rfl ?_
  obtain ⟨b1, ho, hf⟩ := g_bind hf
  refine x_dr2 ho ?_
  obtain ⟨q2, hc, hf⟩ := g_bind hf
  obtain ⟨hg, hc⟩ := g_guard hc
  refine x_virt 7 [_, _] _ hg rfl rfl rfl rfl (Nat.le_of_ble_eq_true rfl) rfl (Nat.le_of_ble_eq_true rfl) (Nat.le_of_ble_eq_true rfl) (t_Tree_hasPlace (d := d + 5) hc ?_)
  refine w_if (t := 14) rfl (by decide) (fun c3 => ?_) (fun c3 => ?_)
  · have c3 : ¬ (q2.1 = (0 : Int32)) := c3
    rw [if_neg c3] at hf
    refine w_aload_n rfl rfl ?_
    obtain ⟨hg, hf⟩ := g_guard hf
    refine x_getR hg rfl rfl rfl ?_
    refine w_iload_n rfl rfl ?_
    refine w_iload_n rfl rfl ?_
    obtain ⟨b4, ho, hf⟩ := g_bind hf
    refine x_dr2 ho ?_
    obtain ⟨q5, hc, hf⟩ := g_bind hf
    obtain ⟨hg, hc⟩ := g_guard hc
    refine x_virt 7 [_, _] _ hg rfl rfl rfl rfl (Nat.le_of_ble_eq_true rfl) rfl (Nat.le_of_ble_eq_true rfl) (Nat.le_of_ble_eq_true rfl) (t_Tree_paneAt (d := d + 3) hc ?_)
    refine w_astore rfl (Nat.le_of_ble_eq_true rfl) rfl ?_
    refine w_aload rfl rfl ?_
    obtain ⟨i6, hg, hf⟩ := g_bind hf
    refine x_inst hg rfl rfl ?_
    refine w_if (t := 42) rfl (by decide) (fun c7 => ?_) (fun c7 => ?_)
    · have c7 : i6 = (0 : Int32) := c7
      rw [if_pos c7] at hf
      refine w_iconst (v := (0 : Int32)) rfl (by decide) ?_
      cases hf
      exact w_ireturn rfl (int_ret _) (Nat.le_refl _) (Nat.le_refl _) hQ
    · have c7 : ¬ (i6 = (0 : Int32)) := c7
      rw [if_neg c7] at hf
      refine w_aload rfl rfl ?_
      obtain ⟨hg, hf⟩ := g_guard hf
      refine x_cast hg rfl rfl ?_
      refine w_astore_n rfl (Nat.le_of_ble_eq_true rfl) rfl ?_
      refine w_goto (t := 44) rfl (by decide) ?_
      refine w_iload_n rfl rfl ?_
      refine w_aload_n rfl rfl ?_
      obtain ⟨b8, ho, hf⟩ := g_bind hf
      refine x_dr0 ho ?_
      obtain ⟨hg, hf⟩ := g_guard hf
      refine x_getI hg rfl rfl rfl ?_
      refine w_isub rfl ?_
      refine w_istore rfl (Nat.le_of_ble_eq_true rfl) rfl ?_
      refine w_iload_n rfl rfl ?_
      refine w_aload_n rfl rfl ?_
      obtain ⟨b9, ho, hf⟩ := g_bind hf
      refine x_dr0 ho ?_
      obtain ⟨hg, hf⟩ := g_guard hf
      refine x_getI hg rfl rfl rfl ?_
      refine w_isub rfl ?_
      refine w_istore rfl (Nat.le_of_ble_eq_true rfl) rfl ?_
      refine w_aload_n rfl rfl ?_
      obtain ⟨b10, ho, hf⟩ := g_bind hf
      refine x_dr0 ho ?_
      obtain ⟨hg, hf⟩ := g_guard hf
      refine x_getR hg rfl rfl rfl ?_
      refine w_iconst (v := (3 : Int32)) rfl (by decide) ?_
      obtain ⟨b11, ho, hf⟩ := g_bind hf
      refine x_dr1 ho ?_
      obtain ⟨hg, hf⟩ := g_guard hf
      refine x_zld hg rfl ?_
      refine w_if (t := 94) rfl (by decide) (fun c12 => ?_) (fun c12 => ?_)
      · have c12 : (gint (q5.2) b11 (ix ((3 : Int32)))) = (0 : Int32) := c12
        rw [if_pos c12] at hf
        refine w_aload_n rfl rfl ?_
        obtain ⟨b13, ho, hf⟩ := g_bind hf
        refine x_dr0 ho ?_
        obtain ⟨hg, hf⟩ := g_guard hf
        refine x_getR hg rfl rfl rfl ?_
        refine w_iconst (v := (2 : Int32)) rfl (by decide) ?_
        obtain ⟨b14, ho, hf⟩ := g_bind hf
        refine x_dr1 ho ?_
        obtain ⟨hg, hf⟩ := g_guard hf
        refine x_zld hg rfl ?_
        refine w_if (t := 117) rfl (by decide) (fun c15 => ?_) (fun c15 => ?_)
        · have c15 : (gint (q5.2) b14 (ix ((2 : Int32)))) = (0 : Int32) := c15
          rw [if_pos c15] at hf
          refine w_iconst (v := (0 : Int32)) rfl (by decide) ?_
          exact t_G_click_B118  hQ _ _ (q5.1) ((0 : Int32)) _ _ _ _ _ hf
        · have c15 : ¬ ((gint (q5.2) b14 (ix ((2 : Int32)))) = (0 : Int32)) := c15
          rw [if_neg c15] at hf
          refine w_aload_n rfl rfl ?_
          refine w_iload rfl rfl ?_
          refine w_iload rfl rfl ?_
          obtain ⟨b16, ho, hf⟩ := g_bind hf
          refine x_dr2 ho ?_
          obtain ⟨q17, hc, hf⟩ := g_bind hf
          have hDp : gDisp (gCall (d + 6)) m_G_click 184 (q5.2) b16 [.inl (x1 - (gint (q5.2) b8 3)), .inl (x2 - (gint (q5.2) b9 4))] (fun v h' => v = some (.inl q17.1) ∧ h' = q17.2) := by
            rcases g_cond hc with ⟨hg, hc⟩ | ⟨-, hc⟩
            · exact g_disp [1] hg rfl rfl (List.forall_mem_cons.mpr ⟨⟨_, rfl, rfl, rfl, rfl⟩, fun _ h => absurd h List.not_mem_nil⟩) (t_Grid_cellAt (d := d + 3) hc ⟨rfl, rfl⟩)
            rcases g_cond hc with ⟨hg, hc⟩ | ⟨-, hc⟩
            · exact g_disp [6] hg rfl rfl (List.forall_mem_cons.mpr ⟨⟨_, rfl, rfl, rfl, rfl⟩, fun _ h => absurd h List.not_mem_nil⟩) (t_Text_cellAt (d := d + 0) hc ⟨rfl, rfl⟩)
            cases hc
          refine w_disp [_, _] _ rfl rfl (Nat.le_of_ble_eq_true rfl) hDp (fun v h' hv => ?_)
          obtain ⟨rfl, rfl⟩ := hv
          obtain ⟨q18, hc, hf⟩ := g_bind hf
          refine w_static [_] _ rfl rfl rfl rfl (Nat.le_of_ble_eq_true rfl) (Nat.le_of_ble_eq_true rfl) (Nat.le_of_ble_eq_true rfl) (t_G_linkOf (d := d + 5) hc ?_)
          refine w_goto (t := 118) rfl (by decide) ?_
          exact t_G_click_B118  hQ _ _ (q5.1) (q18.1) _ _ _ _ _ hf
      · have c12 : ¬ ((gint (q5.2) b11 (ix ((3 : Int32)))) = (0 : Int32)) := c12
        rw [if_neg c12] at hf
        refine w_aload_n rfl rfl ?_
        obtain ⟨b13, ho, hf⟩ := g_bind hf
        refine x_dr0 ho ?_
        obtain ⟨hg, hf⟩ := g_guard hf
        refine x_getR hg rfl rfl rfl ?_
        refine w_iconst (v := (3 : Int32)) rfl (by decide) ?_
        refine w_iconst (v := (0 : Int32)) rfl (by decide) ?_
        obtain ⟨b14, ho, hf⟩ := g_bind hf
        refine x_dr2 ho ?_
        obtain ⟨hg, hf⟩ := g_guard hf
        refine x_zst hg rfl rfl ?_
        refine w_aload_n rfl rfl ?_
        obtain ⟨hg, hf⟩ := g_guard hf
        refine x_getR hg rfl rfl rfl ?_
        refine w_iconst (v := (3 : Int32)) rfl (by decide) ?_
        refine w_aload_n rfl rfl ?_
        obtain ⟨b15, ho, hf⟩ := g_bind hf
        refine x_dr0 ho ?_
        obtain ⟨hg, hf⟩ := g_guard hf
        refine x_getI hg rfl rfl rfl ?_
        refine w_iload rfl rfl ?_
        refine w_iload rfl rfl ?_
        obtain ⟨b16, ho, hf⟩ := g_bind hf
        refine x_dr4 ho ?_
        obtain ⟨q17, hc, hf⟩ := g_bind hf
        obtain ⟨hg, hc⟩ := g_guard hc
        refine x_virt 0 [_, _, _, _] _ hg rfl rfl rfl rfl (Nat.le_of_ble_eq_true rfl) rfl (Nat.le_of_ble_eq_true rfl) (Nat.le_of_ble_eq_true rfl) (t_Events_add (d := d + 3) hc ?_)
        refine w_iconst (v := (1 : Int32)) rfl (by decide) ?_
        cases hf
        exact w_ireturn rfl (int_ret _) (Nat.le_refl _) (Nat.le_refl _) hQ
  · have c3 : q2.1 = (0 : Int32) := Classical.not_not.mp c3
    rw [if_pos c3] at hf
    refine w_iconst (v := (-1 : Int32)) rfl (by decide) ?_
    cases hf
    exact w_ireturn rfl (int_ret _) (Nat.le_refl _) (Nat.le_refl _) hQ
