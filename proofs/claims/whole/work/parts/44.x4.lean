def f_Tree_paneAt_B8 (a0 : Nat) : Nat → gHp → Int32 → Int32 → Option Nat → Int32 → Option (Option Nat × gHp)
  | 0, _, _, _, _, _ => none
  | n + 1, h, x1, x2, x3, x5 => (if (60 : Int32) ≤ x5 then some (x3, h) else ((gInst (h) (x3) "GlkPanes$Pair").bind (fun i2 => (if i2 = (0 : Int32) then some (x3, h) else (bif gCas (h) (x3) "GlkPanes$Pair" then (x3.bind (fun b4 => (bif gtin (gtag (h) b4) [3] then ((f_Tree_isIn n (h) (gref (h) b4 14) (x1) (x2)).bind (fun q5 => (if q5.1 = (0 : Int32) then (x3.bind (fun b7 => (bif gtin (gtag (q5.2) b7) [3] then ((f_Tree_isIn n (q5.2) (gref (q5.2) b7 15) (x1) (x2)).bind (fun q8 => (if q8.1 = (0 : Int32) then some (x3, q8.2) else (x3.bind (fun b10 => (bif gtin (gtag (q8.2) b10) [3] then f_Tree_paneAt_B8 a0 n (q8.2) (x1) (x2) (gref (q8.2) b10 15) (x5 + (1 : Int32)) else none)))))) else none))) else (x3.bind (fun b7 => (bif gtin (gtag (q5.2) b7) [3] then f_Tree_paneAt_B8 a0 n (q5.2) (x1) (x2) (gref (q5.2) b7 14) (x5 + (1 : Int32)) else none)))))) else none))) else none)))))
set_option maxHeartbeats 4000000 in
set_option maxRecDepth 100000 in
theorem t_Tree_paneAt_B8 {d a0 : Nat} {Q : Option gv → gHp → Prop} {res : Option Nat × gHp} (hQ : Q (some (.inr res.1)) res.2) : ∀ (n : Nat) (h : gHp) (x1 : Int32) (x2 : Int32) (x3 : Option Nat) (x5 : Int32) (u4 : Option gv), f_Tree_paneAt_B8 a0 n h x1 x2 x3 x5  = some res → gWP (gCall (d + 2)) m_Tree_paneAt Q 8 [some (.inr (some a0)), some (.inl x1), some (.inl x2), some (.inr x3), u4, some (.inl x5)] [] h 0 0 := by
  intro n
  induction n with
  | zero =>
    intro h x1 x2 x3 x5  u4 hf
    cases hf
  | succ n ih =>
    intro h x1 x2 x3 x5  u4 hf
    unfold f_Tree_paneAt_B8 at hf
    refine w_iload rfl rfl ?_
    refine w_bipush (v := (60 : Int32)) rfl (by decide) ?_
    refine w_icmp (t := 81) rfl (by decide) (fun c1 => ?_) (fun c1 => ?_)
    · have c1 : (60 : Int32) ≤ x5 := c1
      rw [if_pos c1] at hf
      refine w_aload_n rfl rfl ?_
      cases hf
      exact w_areturn rfl ⟨_, rfl, rfl⟩ (Nat.le_refl _) (Nat.le_refl _) hQ
    · have c1 : ¬ ((60 : Int32) ≤ x5) := c1
      rw [if_neg c1] at hf
      refine w_aload_n rfl rfl ?_
      obtain ⟨i2, hg, hf⟩ := g_bind hf
      refine x_inst hg rfl rfl ?_
      refine w_if (t := 81) rfl (by decide) (fun c3 => ?_) (fun c3 => ?_)
      · have c3 : i2 = (0 : Int32) := c3
        rw [if_pos c3] at hf
        refine w_aload_n rfl rfl ?_
        cases hf
        exact w_areturn rfl ⟨_, rfl, rfl⟩ (Nat.le_refl _) (Nat.le_refl _) hQ
      · have c3 : ¬ (i2 = (0 : Int32)) := c3
        rw [if_neg c3] at hf
        refine w_aload_n rfl rfl ?_
        obtain ⟨hg, hf⟩ := g_guard hf
        refine x_cast hg rfl rfl ?_
        refine w_astore rfl (Nat.le_of_ble_eq_true rfl) rfl ?_
        refine w_aload rfl rfl ?_
        obtain ⟨b4, ho, hf⟩ := g_bind hf
        refine x_dr0 ho ?_
        obtain ⟨hg, hf⟩ := g_guard hf
        refine x_getR hg rfl rfl rfl ?_
        refine w_iload_n rfl rfl ?_
        refine w_iload_n rfl rfl ?_
        obtain ⟨q5, hc, hf⟩ := g_bind hf
        refine w_static [_, _, _] _ rfl rfl rfl rfl (Nat.le_of_ble_eq_true rfl) (Nat.le_of_ble_eq_true rfl) (Nat.le_of_ble_eq_true rfl) (t_Tree_isIn (d := d + 0) hc ?_)
        refine w_if (t := 50) rfl (by decide) (fun c6 => ?_) (fun c6 => ?_)
        · have c6 : q5.1 = (0 : Int32) := c6
          rw [if_pos c6] at hf
          refine w_aload rfl rfl ?_
          obtain ⟨b7, ho, hf⟩ := g_bind hf
          refine x_dr0 ho ?_
          obtain ⟨hg, hf⟩ := g_guard hf
          refine x_getR hg rfl rfl rfl ?_
          refine w_iload_n rfl rfl ?_
          refine w_iload_n rfl rfl ?_
          obtain ⟨q8, hc, hf⟩ := g_bind hf
          refine w_static [_, _, _] _ rfl rfl rfl rfl (Nat.le_of_ble_eq_true rfl) (Nat.le_of_ble_eq_true rfl) (Nat.le_of_ble_eq_true rfl) (t_Tree_isIn (d := d + 0) hc ?_)
          refine w_if (t := 72) rfl (by decide) (fun c9 => ?_) (fun c9 => ?_)
          · have c9 : q8.1 = (0 : Int32) := c9
            rw [if_pos c9] at hf
            refine w_aload rfl rfl ?_
            cases hf
            exact w_areturn rfl ⟨_, rfl, rfl⟩ (Nat.le_refl _) (Nat.le_refl _) hQ
          · have c9 : ¬ (q8.1 = (0 : Int32)) := c9
            rw [if_neg c9] at hf
            refine w_aload rfl rfl ?_
            obtain ⟨b10, ho, hf⟩ := g_bind hf
            refine x_dr0 ho ?_
            obtain ⟨hg, hf⟩ := g_guard hf
            refine x_getR hg rfl rfl rfl ?_
            refine w_astore_n rfl (Nat.le_of_ble_eq_true rfl) rfl ?_
            refine w_goto (t := 75) rfl (by decide) ?_
            refine w_iinc (v := (1 : Int32)) rfl rfl (by decide) rfl ?_
            refine w_goto (t := 8) rfl (by decide) ?_
            exact ih _ (x1) (x2) (gref (q8.2) b10 15) (x5 + (1 : Int32)) _ hf
        · have c6 : ¬ (q5.1 = (0 : Int32)) := c6
          rw [if_neg c6] at hf
          refine w_aload rfl rfl ?_
          obtain ⟨b7, ho, hf⟩ := g_bind hf
          refine x_dr0 ho ?_
          obtain ⟨hg, hf⟩ := g_guard hf
          refine x_getR hg rfl rfl rfl ?_
          refine w_astore_n rfl (Nat.le_of_ble_eq_true rfl) rfl ?_
          refine w_goto (t := 75) rfl (by decide) ?_
          refine w_iinc (v := (1 : Int32)) rfl rfl (by decide) rfl ?_
          refine w_goto (t := 8) rfl (by decide) ?_
          exact ih _ (x1) (x2) (gref (q5.2) b7 14) (x5 + (1 : Int32)) _ hf
def f_Tree_paneAt (n : Nat) (h : gHp) (a0 : Nat) (x1 : Int32) (x2 : Int32) : Option (Option Nat × gHp) := (bif gtin (gtag (h) a0) [7] then f_Tree_paneAt_B8 a0  n (h) (x1) (x2) (gref (h) a0 2) ((0 : Int32))  else none)
set_option maxHeartbeats 4000000 in
set_option maxRecDepth 100000 in
theorem t_Tree_paneAt {d n a0 : Nat} {h : gHp} {x1 : Int32} {x2 : Int32} {res : Option Nat × gHp} {Q : Option gv → gHp → Prop} (hf : f_Tree_paneAt n h a0 x1 x2 = some res) (hQ : Q (some (.inr res.1)) res.2) : gCall (d + 3) m_Tree_paneAt [.inr (some a0), .inl x1, .inl x2] h Q := by
  unfold f_Tree_paneAt at hf
  refine g_enter (d := d + 2) (Nat.le_of_ble_eq_true rfl) ?_
  show gWP (gCall (d + 2)) m_Tree_paneAt Q 0 [some (.inr (some a0)), some (.inl x1), some (.inl x2), none, none, none] [] h 0 0
  refine w_aload_n rfl rfl ?_
  obtain ⟨hg, hf⟩ := g_guard hf
  refine x_getR hg rfl rfl rfl ?_
  refine w_astore_n rfl (Nat.le_of_ble_eq_true rfl) rfl ?_
  refine w_iconst (v := (0 : Int32)) rfl (by decide) ?_
  refine w_istore rfl (Nat.le_of_ble_eq_true rfl) rfl ?_
  exact t_Tree_paneAt_B8  hQ _ _ (x1) (x2) (gref (h) a0 2) ((0 : Int32))  _ hf
def f_G_under (n : Nat) (h : gHp) (a0 : Nat) (x1 : Int32) (x2 : Int32) : Option (Int32 × gHp) := (bif gtin (gtag (h) a0) [9] then ((gref (h) a0 0).bind (fun b1 => (((bif gtis (gtag (h) b1) 7 then f_Tree_hasPlace n (h) b1 (x1) (x2) else none)).bind (fun q2 => (if q2.1 = (0 : Int32) then some ((-1 : Int32), q2.2) else (bif gtin (gtag (q2.2) a0) [9] then ((gref (q2.2) a0 0).bind (fun b4 => (((bif gtis (gtag (q2.2) b4) 7 then f_Tree_paneAt n (q2.2) b4 (x1) (x2) else none)).bind (fun q5 => (if q5.1 = none then some ((-2 : Int32), q5.2) else (q5.1.bind (fun b7 => (bif gtin (gtag (q5.2) b7) [1, 3, 4, 5, 6] then (if (gint (q5.2) b7 1) = (4 : Int32) then some ((-2 : Int32), q5.2) else (q5.1.bind (fun b9 => (bif gtin (gtag (q5.2) b9) [1, 3, 4, 5, 6] then some (gint (q5.2) b9 0, q5.2) else none)))) else none)))))))) else none)))))) else none)
set_option maxHeartbeats 4000000 in
set_option maxRecDepth 100000 in
theorem t_G_under {d n a0 : Nat} {h : gHp} {x1 : Int32} {x2 : Int32} {res : Int32 × gHp} {Q : Option gv → gHp → Prop} (hf : f_G_under n h a0 x1 x2 = some res) (hQ : Q (some (.inl res.1)) res.2) : gCall (d + 4) m_G_under [.inr (some a0), .inl x1, .inl x2] h Q := by
  unfold f_G_under at hf
  refine g_enter (d := d + 3) (Nat.le_of_ble_eq_true rfl) ?_
  show gWP (gCall (d + 3)) m_G_under Q 0 [some (.inr (some a0)), some (.inl x1), some (.inl x2), none] [] h 0 0
  refine w_aload_n rfl rfl ?_
  obtain ⟨hg, hf⟩ := g_guard hf
  refine x_getR hg rfl rfl rfl ?_
  refine w_iload_n rfl rfl ?_
  refine w_iload_n rfl rfl ?_
  obtain ⟨b1, ho, hf⟩ := g_bind hf
  refine x_dr2 ho ?_
  obtain ⟨q2, hc, hf⟩ := g_bind hf
  obtain ⟨hg, hc⟩ := g_guard hc
  refine x_virt 7 [_, _] _ hg rfl rfl rfl rfl (Nat.le_of_ble_eq_true rfl) rfl (Nat.le_of_ble_eq_true rfl) (Nat.le_of_ble_eq_true rfl) (t_Tree_hasPlace (d := d + 2) hc ?_)
  refine w_if (t := 14) rfl (by decide) (fun c3 => ?_) (fun c3 => ?_)
  · have c3 : ¬ (q2.1 = (0 : Int32)) := c3
    rw [if_neg c3] at hf
    refine w_aload_n rfl rfl ?_
    obtain ⟨hg, hf⟩ := g_guard hf
    refine x_getR hg rfl rfl rfl ?_
    refine w_iload_n rfl rfl ?_
    refine w_iload_n rfl rfl ?_
    obtain ⟨b4, ho, hf⟩ := g_bind hf
    refine x_dr2 ho ?_
    obtain ⟨q5, hc, hf⟩ := g_bind hf
    obtain ⟨hg, hc⟩ := g_guard hc
    refine x_virt 7 [_, _] _ hg rfl rfl rfl rfl (Nat.le_of_ble_eq_true rfl) rfl (Nat.le_of_ble_eq_true rfl) (Nat.le_of_ble_eq_true rfl) (t_Tree_paneAt (d := d + 0) hc ?_)
    refine w_astore_n rfl (Nat.le_of_ble_eq_true rfl) rfl ?_
    refine w_aload_n rfl rfl ?_
    refine w_ifnull (t := 36) rfl (by decide) (fun c6 => ?_) (fun c6 => ?_)
    · have c6 : q5.1 = none := c6
      rw [if_pos c6] at hf
      refine w_bipush (v := (-2 : Int32)) rfl (by decide) ?_
      refine w_goto (t := 45) rfl (by decide) ?_
      cases hf
      exact w_ireturn rfl (int_ret _) (Nat.le_refl _) (Nat.le_refl _) hQ
    · have c6 : ¬ (q5.1 = none) := c6
      rw [if_neg c6] at hf
      refine w_aload_n rfl rfl ?_
      obtain ⟨b7, ho, hf⟩ := g_bind hf
      refine x_dr0 ho ?_
      obtain ⟨hg, hf⟩ := g_guard hf
      refine x_getI hg rfl rfl rfl ?_
      refine w_iconst (v := (4 : Int32)) rfl (by decide) ?_
      refine w_icmp (t := 41) rfl (by decide) (fun c8 => ?_) (fun c8 => ?_)
      · have c8 : ¬ ((gint (q5.2) b7 1) = (4 : Int32)) := c8
        rw [if_neg c8] at hf
        refine w_aload_n rfl rfl ?_
        obtain ⟨b9, ho, hf⟩ := g_bind hf
        refine x_dr0 ho ?_
        obtain ⟨hg, hf⟩ := g_guard hf
        refine x_getI hg rfl rfl rfl ?_
        cases hf
        exact w_ireturn rfl (int_ret _) (Nat.le_refl _) (Nat.le_refl _) hQ
      · have c8 : (gint (q5.2) b7 1) = (4 : Int32) := Classical.not_not.mp c8
        rw [if_pos c8] at hf
        refine w_bipush (v := (-2 : Int32)) rfl (by decide) ?_
        refine w_goto (t := 45) rfl (by decide) ?_
        cases hf
        exact w_ireturn rfl (int_ret _) (Nat.le_refl _) (Nat.le_refl _) hQ
  · have c3 : q2.1 = (0 : Int32) := Classical.not_not.mp c3
    rw [if_pos c3] at hf
    refine w_iconst (v := (-1 : Int32)) rfl (by decide) ?_
    cases hf
    exact w_ireturn rfl (int_ret _) (Nat.le_refl _) (Nat.le_refl _) hQ
def f_G_wipe (n : Nat) (h : gHp) (a0 : Nat) (x1 : Int32) : Option (Int32 × gHp) := (bif gtin (gtag (h) a0) [9] then ((gref (h) a0 0).bind (fun b1 => (((bif gtis (gtag (h) b1) 7 then f_Tree_find n (h) b1 (x1) else none)).bind (fun q2 => (if q2.1 = none then some ((-1 : Int32), q2.2) else ((gInst (q2.2) (q2.1) "GlkPanes$Writing").bind (fun i4 => (if i4 = (0 : Int32) then some ((-3 : Int32), q2.2) else (bif gCas (q2.2) (q2.1) "GlkPanes$Writing" then (q2.1.bind (fun b6 => (bif gtin (gtag (q2.2) b6) [1, 6] then ((gref (q2.2) b6 11).bind (fun b7 => (bif gArr (gtag (q2.2) b7) 21 ((1 : Int32)) then (if (gint (q2.2) b7 (ix ((1 : Int32)))) = (0 : Int32) then (q2.1.bind (fun b9 => (((bif gtin (gtag (q2.2) b9) [1] then f_Grid_clear n (q2.2) b9  else (bif gtin (gtag (q2.2) b9) [6] then f_Text_clear n (q2.2) b9  else none))).bind (fun q10 => some ((1 : Int32), q10))))) else some ((-3 : Int32), q2.2)) else none))) else none))) else none))))))))) else none)
set_option maxHeartbeats 4000000 in
set_option maxRecDepth 100000 in
theorem t_G_wipe {d n a0 : Nat} {h : gHp} {x1 : Int32} {res : Int32 × gHp} {Q : Option gv → gHp → Prop} (hf : f_G_wipe n h a0 x1 = some res) (hQ : Q (some (.inl res.1)) res.2) : gCall (d + 3) m_G_wipe [.inr (some a0), .inl x1] h Q := by
  unfold f_G_wipe at hf
  refine g_enter (d := d + 2) (Nat.le_of_ble_eq_true rfl) ?_
  show gWP (gCall (d + 2)) m_G_wipe Q 0 [some (.inr (some a0)), some (.inl x1), none, none] [] h 0 0
  refine w_aload_n rfl rfl ?_
  obtain ⟨hg, hf⟩ := g_guard hf
  refine x_getR hg rfl rfl rfl ?_
  refine w_iload_n rfl rfl ?_
  obtain ⟨b1, ho, hf⟩ := g_bind hf
  refine x_dr1 ho ?_
  obtain ⟨q2, hc, hf⟩ := g_bind hf
  obtain ⟨hg, hc⟩ := g_guard hc
  refine x_virt 7 [_] _ hg rfl rfl rfl rfl (Nat.le_of_ble_eq_true rfl) rfl (Nat.le_of_ble_eq_true rfl) (Nat.le_of_ble_eq_true rfl) (t_Tree_find (d := d + 1) hc ?_)
  refine w_astore_n rfl (Nat.le_of_ble_eq_true rfl) rfl ?_
  refine w_aload_n rfl rfl ?_
  refine w_ifnonnull (t := 15) rfl (by decide) (fun c3 => ?_) (fun c3 => ?_)
  · have c3 : ¬ (q2.1 = none) := c3
    rw [if_neg c3] at hf
    refine w_aload_n rfl rfl ?_
    obtain ⟨i4, hg, hf⟩ := g_bind hf
    refine x_inst hg rfl rfl ?_
    refine w_if (t := 36) rfl (by decide) (fun c5 => ?_) (fun c5 => ?_)
    · have c5 : i4 = (0 : Int32) := c5
      rw [if_pos c5] at hf
      refine w_bipush (v := (-3 : Int32)) rfl (by decide) ?_
      cases hf
      exact w_ireturn rfl (int_ret _) (Nat.le_refl _) (Nat.le_refl _) hQ
    · have c5 : ¬ (i4 = (0 : Int32)) := c5
      rw [if_neg c5] at hf
      refine w_aload_n rfl rfl ?_
      obtain ⟨hg, hf⟩ := g_guard hf
      refine x_cast hg rfl rfl ?_
      refine w_astore_n rfl (Nat.le_of_ble_eq_true rfl) rfl ?_
      refine w_aload_n rfl rfl ?_
      obtain ⟨b6, ho, hf⟩ := g_bind hf
      refine x_dr0 ho ?_
      obtain ⟨hg, hf⟩ := g_guard hf
      refine x_getR hg rfl rfl rfl ?_
      refine w_iconst (v := (1 : Int32)) rfl (by decide) ?_
      obtain ⟨b7, ho, hf⟩ := g_bind hf
      refine x_dr1 ho ?_
      obtain ⟨hg, hf⟩ := g_guard hf
      refine x_zld hg rfl ?_
      refine w_if (t := 39) rfl (by decide) (fun c8 => ?_) (fun c8 => ?_)
      · have c8 : (gint (q2.2) b7 (ix ((1 : Int32)))) = (0 : Int32) := c8
        rw [if_pos c8] at hf
        refine w_aload_n rfl rfl ?_
        obtain ⟨b9, ho, hf⟩ := g_bind hf
        refine x_dr0 ho ?_
        obtain ⟨q10, hc, hf⟩ := g_bind hf
        have hDp : gDisp (gCall (d + 2)) m_G_wipe 175 (q2.2) b9 [] (fun v h' => v = none ∧ h' = q10) := by
          rcases g_cond hc with ⟨hg, hc⟩ | ⟨-, hc⟩
          · exact g_disp [1] hg rfl rfl (List.forall_mem_cons.mpr ⟨⟨_, rfl, rfl, rfl, rfl⟩, fun _ h => absurd h List.not_mem_nil⟩) (t_Grid_clear (d := d + 0) hc ⟨rfl, rfl⟩)
          rcases g_cond hc with ⟨hg, hc⟩ | ⟨-, hc⟩
          · exact g_disp [6] hg rfl rfl (List.forall_mem_cons.mpr ⟨⟨_, rfl, rfl, rfl, rfl⟩, fun _ h => absurd h List.not_mem_nil⟩) (t_Text_clear (d := d + 1) hc ⟨rfl, rfl⟩)
          cases hc
        refine w_disp [] _ rfl rfl (Nat.le_of_ble_eq_true rfl) hDp (fun v h' hv => ?_)
        obtain ⟨rfl, rfl⟩ := hv
        refine w_iconst (v := (1 : Int32)) rfl (by decide) ?_
        cases hf
        exact w_ireturn rfl (int_ret _) (Nat.le_refl _) (Nat.le_refl _) hQ
      · have c8 : ¬ ((gint (q2.2) b7 (ix ((1 : Int32)))) = (0 : Int32)) := c8
        rw [if_neg c8] at hf
        refine w_bipush (v := (-3 : Int32)) rfl (by decide) ?_
        cases hf
        exact w_ireturn rfl (int_ret _) (Nat.le_refl _) (Nat.le_refl _) hQ
  · have c3 : q2.1 = none := c3
    rw [if_pos c3] at hf
    refine w_iconst (v := (-1 : Int32)) rfl (by decide) ?_
    cases hf
    exact w_ireturn rfl (int_ret _) (Nat.le_refl _) (Nat.le_refl _) hQ
def f_Pair_rearrange (n : Nat) (h : gHp) (a0 : Nat) (x1 : Int32) (x2 : Int32) (x3 : Option Nat) : Option (gHp) := (bif gtin (gtag (h) a0) [3] then (if (((gint (h) a0 11) ^^^ x1) &&& (1 : Int32)) = (0 : Int32) then (bif gtin (gtag (h) a0) [3] then (bif gtin (gtag (gsetI (h) a0 11 (x1)) a0) [3] then (bif gtin (gtag (gsetI (gsetI (h) a0 11 (x1)) a0 12 (x2)) a0) [3] then some (gsetR (gsetI (gsetI (h) a0 11 (x1)) a0 12 (x2)) a0 13 (x3)) else none) else none) else none) else (bif gtin (gtag (h) a0) [3] then (bif gtin (gtag (h) a0) [3] then (bif gtin (gtag (h) a0) [3] then (bif gtin (gtag (gsetR (h) a0 14 (gref (h) a0 15)) a0) [3] then (bif gtin (gtag (gsetR (gsetR (h) a0 14 (gref (h) a0 15)) a0 15 (gref (h) a0 14)) a0) [3] then (bif gtin (gtag (gsetI (gsetR (gsetR (h) a0 14 (gref (h) a0 15)) a0 15 (gref (h) a0 14)) a0 11 (x1)) a0) [3] then (bif gtin (gtag (gsetI (gsetI (gsetR (gsetR (h) a0 14 (gref (h) a0 15)) a0 15 (gref (h) a0 14)) a0 11 (x1)) a0 12 (x2)) a0) [3] then some (gsetR (gsetI (gsetI (gsetR (gsetR (h) a0 14 (gref (h) a0 15)) a0 15 (gref (h) a0 14)) a0 11 (x1)) a0 12 (x2)) a0 13 (x3)) else none) else none) else none) else none) else none) else none) else none)) else none)
set_option maxHeartbeats 4000000 in
set_option maxRecDepth 100000 in
theorem t_Pair_rearrange {d n a0 : Nat} {h : gHp} {x1 : Int32} {x2 : Int32} {x3 : Option Nat} {res : gHp} {Q : Option gv → gHp → Prop} (hf : f_Pair_rearrange n h a0 x1 x2 x3 = some res) (hQ : Q (none) res) : gCall (d + 1) m_Pair_rearrange [.inr (some a0), .inl x1, .inl x2, .inr x3] h Q := by
  unfold f_Pair_rearrange at hf
  refine g_enter (d := d + 0) (Nat.le_of_ble_eq_true rfl) ?_
  show gWP (gCall (d + 0)) m_Pair_rearrange Q 0 [some (.inr (some a0)), some (.inl x1), some (.inl x2), some (.inr x3), none] [] h 0 0
  refine w_aload_n rfl rfl ?_
  obtain ⟨hg, hf⟩ := g_guard hf
  refine x_getI hg rfl rfl rfl ?_
  refine w_iload_n rfl rfl ?_
  refine w_ixor rfl ?_
  refine w_iconst (v := (1 : Int32)) rfl (by decide) ?_
  refine w_iand rfl ?_
  refine w_if (t := 31) rfl (by decide) (fun c1 => ?_) (fun c1 => ?_)
  · have c1 : (((gint (h) a0 11) ^^^ x1) &&& (1 : Int32)) = (0 : Int32) := c1
    rw [if_pos c1] at hf
    refine w_aload_n rfl rfl ?_
    refine w_iload_n rfl rfl ?_
    obtain ⟨hg, hf⟩ := g_guard hf
    refine x_putI hg rfl rfl (by decide) ?_
    refine w_aload_n rfl rfl ?_
    refine w_iload_n rfl rfl ?_
    obtain ⟨hg, hf⟩ := g_guard hf
    refine x_putI hg rfl rfl (by decide) ?_
    refine w_aload_n rfl rfl ?_
    refine w_aload_n rfl rfl ?_
    obtain ⟨hg, hf⟩ := g_guard hf
    refine x_putR hg rfl rfl (by decide) ?_
    cases hf
    exact w_return rfl rfl (Nat.le_refl _) (Nat.le_refl _) hQ
  · have c1 : ¬ ((((gint (h) a0 11) ^^^ x1) &&& (1 : Int32)) = (0 : Int32)) := c1
    rw [if_neg c1] at hf
    refine w_aload_n rfl rfl ?_
    obtain ⟨hg, hf⟩ := g_guard hf
    refine x_getR hg rfl rfl rfl ?_
    refine w_astore rfl (Nat.le_of_ble_eq_true rfl) rfl ?_
    refine w_aload_n rfl rfl ?_
    refine w_aload_n rfl rfl ?_
    obtain ⟨hg, hf⟩ := g_guard hf
    refine x_getR hg rfl rfl rfl ?_
    obtain ⟨hg, hf⟩ := g_guard hf
    refine x_putR hg rfl rfl (by decide) ?_
    refine w_aload_n rfl rfl ?_
    refine w_aload rfl rfl ?_
    obtain ⟨hg, hf⟩ := g_guard hf
    refine x_putR hg rfl rfl (by decide) ?_
    refine w_aload_n rfl rfl ?_
    refine w_iload_n rfl rfl ?_
    obtain ⟨hg, hf⟩ := g_guard hf
    refine x_putI hg rfl rfl (by decide) ?_
    refine w_aload_n rfl rfl ?_
    refine w_iload_n rfl rfl ?_
    obtain ⟨hg, hf⟩ := g_guard hf
    refine x_putI hg rfl rfl (by decide) ?_
    refine w_aload_n rfl rfl ?_
    refine w_aload_n rfl rfl ?_
    obtain ⟨hg, hf⟩ := g_guard hf
    refine x_putR hg rfl rfl (by decide) ?_
    cases hf
    exact w_return rfl rfl (Nat.le_refl _) (Nat.le_refl _) hQ
def f_Line_append (n : Nat) (h : gHp) (a0 : Nat) (x1 : Int32) : Option (gHp) := (bif gtin (gtag (h) a0) [2] then (bif gtin (gtag (h) a0) [2] then (if (gint (h) a0 1) ≤ (gint (h) a0 2) then some (h) else (bif gtin (gtag (h) a0) [2] then (bif gtin (gtag (h) a0) [2] then ((gref (h) a0 0).bind (fun b2 => ((gtag (h) b2).bind (fun t3 => (bif (Nat.ble 20 t3.1 && Nat.ble t3.1 24) then (if (Int32.ofNat t3.2) ≤ (gint (h) a0 2) then some (h) else (bif gtin (gtag (h) a0) [2] then (bif gtin (gtag (h) a0) [2] then ((f_G_cell n (h) (x1) ((8 : Int32)) ((0 : Int32))).bind (fun q5 => ((gref (h) a0 0).bind (fun b6 => (bif gArr (gtag (q5.2) b6) 20 (gint (h) a0 2) then (bif gtin (gtag (gsetI (q5.2) b6 (ix (gint (h) a0 2)) (q5.1)) a0) [2] then (bif gtin (gtag (gsetI (q5.2) b6 (ix (gint (h) a0 2)) (q5.1)) a0) [2] then some (gsetI (gsetI (q5.2) b6 (ix (gint (h) a0 2)) (q5.1)) a0 2 ((gint (gsetI (q5.2) b6 (ix (gint (h) a0 2)) (q5.1)) a0 2) + (1 : Int32))) else none) else none) else none))))) else none) else none)) else none))))) else none) else none)) else none) else none)
set_option maxHeartbeats 4000000 in
set_option maxRecDepth 100000 in
theorem t_Line_append {d n a0 : Nat} {h : gHp} {x1 : Int32} {res : gHp} {Q : Option gv → gHp → Prop} (hf : f_Line_append n h a0 x1 = some res) (hQ : Q (none) res) : gCall (d + 2) m_Line_append [.inr (some a0), .inl x1] h Q := by
  unfold f_Line_append at hf
  refine g_enter (d := d + 1) (Nat.le_of_ble_eq_true rfl) ?_
  show gWP (gCall (d + 1)) m_Line_append Q 0 [some (.inr (some a0)), some (.inl x1)] [] h 0 0
  refine w_aload_n rfl rfl ?_
  obtain ⟨hg, hf⟩ := g_guard hf
  refine x_getI hg rfl rfl rfl ?_
  refine w_aload_n rfl rfl ?_
  obtain ⟨hg, hf⟩ := g_guard hf
  refine x_getI hg rfl rfl rfl ?_
  refine w_icmp (t := 49) rfl (by decide) (fun c1 => ?_) (fun c1 => ?_)
  · have c1 : (gint (h) a0 1) ≤ (gint (h) a0 2) := c1
    rw [if_pos c1] at hf
    cases hf
    exact w_return rfl rfl (Nat.le_refl _) (Nat.le_refl _) hQ
  · have c1 : ¬ ((gint (h) a0 1) ≤ (gint (h) a0 2)) := c1
    rw [if_neg c1] at hf
    refine w_aload_n rfl rfl ?_
    obtain ⟨hg, hf⟩ := g_guard hf
    refine x_getI hg rfl rfl rfl ?_
    refine w_aload_n rfl rfl ?_
    obtain ⟨hg, hf⟩ := g_guard hf
    refine x_getR hg rfl rfl rfl ?_
    obtain ⟨b2, ho, hf⟩ := g_bind hf
    refine x_dr0 ho ?_
    obtain ⟨t3, ht, hf⟩ := g_bind hf
    obtain ⟨hg, hf⟩ := g_guard hf
    refine x_len ht hg rfl ?_
    refine w_icmp (t := 49) rfl (by decide) (fun c4 => ?_) (fun c4 => ?_)
    · have c4 : (Int32.ofNat t3.2) ≤ (gint (h) a0 2) := c4
      rw [if_pos c4] at hf
      cases hf
      exact w_return rfl rfl (Nat.le_refl _) (Nat.le_refl _) hQ
    · have c4 : ¬ ((Int32.ofNat t3.2) ≤ (gint (h) a0 2)) := c4
      rw [if_neg c4] at hf
      refine w_aload_n rfl rfl ?_
      obtain ⟨hg, hf⟩ := g_guard hf
      refine x_getR hg rfl rfl rfl ?_
      refine w_aload_n rfl rfl ?_
      obtain ⟨hg, hf⟩ := g_guard hf
      refine x_getI hg rfl rfl rfl ?_
      refine w_iload_n rfl rfl ?_
      refine w_bipush (v := (8 : Int32)) rfl (by decide) ?_
      refine w_iconst (v := (0 : Int32)) rfl (by decide) ?_
      obtain ⟨q5, hc, hf⟩ := g_bind hf
      refine w_static [_, _, _] _ rfl rfl rfl rfl (Nat.le_of_ble_eq_true rfl) (Nat.le_of_ble_eq_true rfl) (Nat.le_of_ble_eq_true rfl) (t_G_cell (d := d + 0) hc ?_)
      obtain ⟨b6, ho, hf⟩ := g_bind hf
      refine x_dr2 ho ?_
      obtain ⟨hg, hf⟩ := g_guard hf
      refine x_st hg rfl ?_
      refine w_aload_n rfl rfl ?_
      refine w_dup rfl ?_
      obtain ⟨hg, hf⟩ := g_guard hf
      refine x_getI hg rfl rfl rfl ?_
      refine w_iconst (v := (1 : Int32)) rfl (by decide) ?_
      refine w_iadd rfl ?_
      obtain ⟨hg, hf⟩ := g_guard hf
      refine x_putI hg rfl rfl (by decide) ?_
      cases hf
      exact w_return rfl rfl (Nat.le_refl _) (Nat.le_refl _) hQ
def f_Grid_put (n : Nat) (h : gHp) (a0 : Nat) (x1 : Int32) : Option (gHp) := ((f_G_signOf n (h) (x1)).bind (fun q1 => (if q1.1 = (10 : Int32) then (((bif gtis (gtag (q1.2) a0) 1 then f_Grid_goToNextRow n (q1.2) a0  else none)).bind (fun q3 => some (q3))) else (bif gtin (gtag (q1.2) a0) [1] then (bif gtin (gtag (q1.2) a0) [1] then (if (gint (q1.2) a0 14) < (gint (q1.2) a0 5) then (bif gtin (gtag (q1.2) a0) [1] then (bif gtin (gtag (q1.2) a0) [1] then (((bif gtis (gtag (q1.2) a0) 1 then f_Grid_write n (q1.2) a0 (gint (q1.2) a0 14) (gint (q1.2) a0 15) (x1) else none)).bind (fun q4 => (bif gtin (gtag (q4) a0) [1] then (bif gtin (gtag (q4) a0) [1] then some (gsetI (q4) a0 14 ((gint (q4) a0 14) + (1 : Int32))) else none) else none))) else none) else none) else (((bif gtis (gtag (q1.2) a0) 1 then f_Grid_goToNextRow n (q1.2) a0  else none)).bind (fun q4 => (bif gtin (gtag (q4) a0) [1] then (bif gtin (gtag (q4) a0) [1] then (((bif gtis (gtag (q4) a0) 1 then f_Grid_write n (q4) a0 (gint (q4) a0 14) (gint (q4) a0 15) (x1) else none)).bind (fun q5 => (bif gtin (gtag (q5) a0) [1] then (bif gtin (gtag (q5) a0) [1] then some (gsetI (q5) a0 14 ((gint (q5) a0 14) + (1 : Int32))) else none) else none))) else none) else none)))) else none) else none))))
set_option maxHeartbeats 4000000 in
set_option maxRecDepth 100000 in
theorem t_Grid_put {d n a0 : Nat} {h : gHp} {x1 : Int32} {res : gHp} {Q : Option gv → gHp → Prop} (hf : f_Grid_put n h a0 x1 = some res) (hQ : Q (none) res) : gCall (d + 4) m_Grid_put [.inr (some a0), .inl x1] h Q := by
  unfold f_Grid_put at hf
  refine g_enter (d := d + 3) (Nat.le_of_ble_eq_true rfl) ?_
  show gWP (gCall (d + 3)) m_Grid_put Q 0 [some (.inr (some a0)), some (.inl x1)] [] h 0 0
  refine w_iload_n rfl rfl ?_
  obtain ⟨q1, hc, hf⟩ := g_bind hf
  refine w_static [_] _ rfl rfl rfl rfl (Nat.le_of_ble_eq_true rfl) (Nat.le_of_ble_eq_true rfl) (Nat.le_of_ble_eq_true rfl) (t_G_signOf (d := d + 2) hc ?_)
  refine w_bipush (v := (10 : Int32)) rfl (by decide) ?_
  refine w_icmp (t := 14) rfl (by decide) (fun c2 => ?_) (fun c2 => ?_)
  · have c2 : ¬ (q1.1 = (10 : Int32)) := c2
    rw [if_neg c2] at hf
    refine w_aload_n rfl rfl ?_
    obtain ⟨hg, hf⟩ := g_guard hf
    refine x_getI hg rfl rfl rfl ?_
    refine w_aload_n rfl rfl ?_
    obtain ⟨hg, hf⟩ := g_guard hf
    refine x_getI hg rfl rfl rfl ?_
    refine w_icmp (t := 29) rfl (by decide) (fun c3 => ?_) (fun c3 => ?_)
    · have c3 : (gint (q1.2) a0 14) < (gint (q1.2) a0 5) := c3
      rw [if_pos c3] at hf
      refine w_aload_n rfl rfl ?_
      refine w_aload_n rfl rfl ?_
      obtain ⟨hg, hf⟩ := g_guard hf
      refine x_getI hg rfl rfl rfl ?_
      refine w_aload_n rfl rfl ?_
      obtain ⟨hg, hf⟩ := g_guard hf
      refine x_getI hg rfl rfl rfl ?_
      refine w_iload_n rfl rfl ?_
      obtain ⟨q4, hc, hf⟩ := g_bind hf
      obtain ⟨hg, hc⟩ := g_guard hc
      refine x_virt 1 [_, _, _] _ hg rfl rfl rfl rfl (Nat.le_of_ble_eq_true rfl) rfl (Nat.le_of_ble_eq_true rfl) (Nat.le_of_ble_eq_true rfl) (t_Grid_write (d := d + 0) hc ?_)
      refine w_aload_n rfl rfl ?_
      refine w_dup rfl ?_
      obtain ⟨hg, hf⟩ := g_guard hf
      refine x_getI hg rfl rfl rfl ?_
      refine w_iconst (v := (1 : Int32)) rfl (by decide) ?_
      refine w_iadd rfl ?_
      obtain ⟨hg, hf⟩ := g_guard hf
      refine x_putI hg rfl rfl (by decide) ?_
      cases hf
      exact w_return rfl rfl (Nat.le_refl _) (Nat.le_refl _) hQ
    · have c3 : ¬ ((gint (q1.2) a0 14) < (gint (q1.2) a0 5)) := c3
      rw [if_neg c3] at hf
      refine w_aload_n rfl rfl ?_
      obtain ⟨q4, hc, hf⟩ := g_bind hf
      obtain ⟨hg, hc⟩ := g_guard hc
      refine x_virt 1 [] _ hg rfl rfl rfl rfl (Nat.le_of_ble_eq_true rfl) rfl (Nat.le_of_ble_eq_true rfl) (Nat.le_of_ble_eq_true rfl) (t_Grid_goToNextRow (d := d + 2) hc ?_)
      refine w_aload_n rfl rfl ?_
      refine w_aload_n rfl rfl ?_
      obtain ⟨hg, hf⟩ := g_guard hf
      refine x_getI hg rfl rfl rfl ?_
      refine w_aload_n rfl rfl ?_
      obtain ⟨hg, hf⟩ := g_guard hf
      refine x_getI hg rfl rfl rfl ?_
      refine w_iload_n rfl rfl ?_
      obtain ⟨q5, hc, hf⟩ := g_bind hf
      obtain ⟨hg, hc⟩ := g_guard hc
      refine x_virt 1 [_, _, _] _ hg rfl rfl rfl rfl (Nat.le_of_ble_eq_true rfl) rfl (Nat.le_of_ble_eq_true rfl) (Nat.le_of_ble_eq_true rfl) (t_Grid_write (d := d + 0) hc ?_)
      refine w_aload_n rfl rfl ?_
      refine w_dup rfl ?_
      obtain ⟨hg, hf⟩ := g_guard hf
      refine x_getI hg rfl rfl rfl ?_
      refine w_iconst (v := (1 : Int32)) rfl (by decide) ?_
      refine w_iadd rfl ?_
      obtain ⟨hg, hf⟩ := g_guard hf
      refine x_putI hg rfl rfl (by decide) ?_
      cases hf
      exact w_return rfl rfl (Nat.le_refl _) (Nat.le_refl _) hQ
  · have c2 : q1.1 = (10 : Int32) := Classical.not_not.mp c2
    rw [if_pos c2] at hf
    refine w_aload_n rfl rfl ?_
    obtain ⟨q3, hc, hf⟩ := g_bind hf
    obtain ⟨hg, hc⟩ := g_guard hc
    refine x_virt 1 [] _ hg rfl rfl rfl rfl (Nat.le_of_ble_eq_true rfl) rfl (Nat.le_of_ble_eq_true rfl) (Nat.le_of_ble_eq_true rfl) (t_Grid_goToNextRow (d := d + 2) hc ?_)
    cases hf
    exact w_return rfl rfl (Nat.le_refl _) (Nat.le_refl _) hQ
def f_G_style (n : Nat) (h : gHp) (a0 : Nat) (x1 : Int32) (x2 : Int32) : Option (Int32 × gHp) := (bif gtin (gtag (h) a0) [9] then ((gref (h) a0 0).bind (fun b1 => (((bif gtis (gtag (h) b1) 7 then f_Tree_find n (h) b1 (x1) else none)).bind (fun q2 => (if q2.1 = none then some ((-1 : Int32), q2.2) else (if x2 < (0 : Int32) then some ((-1 : Int32), q2.2) else (if x2 ≤ (10 : Int32) then (q2.1.bind (fun b6 => (bif gtin (gtag (q2.2) b6) [1, 3, 4, 5, 6] then (if (gint (q2.2) b6 1) = (4 : Int32) then some ((-3 : Int32), q2.2) else (q2.1.bind (fun b8 => (bif gtin (gtag (q2.2) b8) [1, 3, 4, 5, 6] then (q2.1.bind (fun b9 => (bif gtin (gtag (q2.2) b9) [1, 3, 4, 5, 6] then some (gint (q2.2) b8 7, gsetI (q2.2) b9 7 (x2)) else none))) else none)))) else none))) else some ((-1 : Int32), q2.2)))))))) else none)
set_option maxHeartbeats 4000000 in
set_option maxRecDepth 100000 in
theorem t_G_style {d n a0 : Nat} {h : gHp} {x1 : Int32} {x2 : Int32} {res : Int32 × gHp} {Q : Option gv → gHp → Prop} (hf : f_G_style n h a0 x1 x2 = some res) (hQ : Q (some (.inl res.1)) res.2) : gCall (d + 2) m_G_style [.inr (some a0), .inl x1, .inl x2] h Q := by
  unfold f_G_style at hf
  refine g_enter (d := d + 1) (Nat.le_of_ble_eq_true rfl) ?_
  show gWP (gCall (d + 1)) m_G_style Q 0 [some (.inr (some a0)), some (.inl x1), some (.inl x2), none, none] [] h 0 0
  refine w_aload_n rfl rfl ?_
  obtain ⟨hg, hf⟩ := g_guard hf
  refine x_getR hg rfl rfl rfl ?_
  refine w_iload_n rfl rfl ?_
  obtain ⟨b1, ho, hf⟩ := g_bind hf
  refine x_dr1 ho ?_
  obtain ⟨q2, hc, hf⟩ := g_bind hf
  obtain ⟨hg, hc⟩ := g_guard hc
  refine x_virt 7 [_] _ hg rfl rfl rfl rfl (Nat.le_of_ble_eq_true rfl) rfl (Nat.le_of_ble_eq_true rfl) (Nat.le_of_ble_eq_true rfl) (t_Tree_find (d := d + 0) hc ?_)
  refine w_astore_n rfl (Nat.le_of_ble_eq_true rfl) rfl ?_
  refine w_aload_n rfl rfl ?_
  refine w_ifnull (t := 23) rfl (by decide) (fun c3 => ?_) (fun c3 => ?_)
  · have c3 : q2.1 = none := c3
    rw [if_pos c3] at hf
    refine w_iconst (v := (-1 : Int32)) rfl (by decide) ?_
    cases hf
    exact w_ireturn rfl (int_ret _) (Nat.le_refl _) (Nat.le_refl _) hQ
  · have c3 : ¬ (q2.1 = none) := c3
    rw [if_neg c3] at hf
    refine w_iload_n rfl rfl ?_
    refine w_if (t := 23) rfl (by decide) (fun c4 => ?_) (fun c4 => ?_)
    · have c4 : x2 < (0 : Int32) := c4
      rw [if_pos c4] at hf
      refine w_iconst (v := (-1 : Int32)) rfl (by decide) ?_
      cases hf
      exact w_ireturn rfl (int_ret _) (Nat.le_refl _) (Nat.le_refl _) hQ
    · have c4 : ¬ (x2 < (0 : Int32)) := c4
      rw [if_neg c4] at hf
      refine w_iload_n rfl rfl ?_
      refine w_bipush (v := (10 : Int32)) rfl (by decide) ?_
      refine w_icmp (t := 25) rfl (by decide) (fun c5 => ?_) (fun c5 => ?_)
      · have c5 : x2 ≤ (10 : Int32) := c5
        rw [if_pos c5] at hf
        refine w_aload_n rfl rfl ?_
        obtain ⟨b6, ho, hf⟩ := g_bind hf
        refine x_dr0 ho ?_
        obtain ⟨hg, hf⟩ := g_guard hf
        refine x_getI hg rfl rfl rfl ?_
        refine w_iconst (v := (4 : Int32)) rfl (by decide) ?_
        refine w_icmp (t := 36) rfl (by decide) (fun c7 => ?_) (fun c7 => ?_)
        · have c7 : ¬ ((gint (q2.2) b6 1) = (4 : Int32)) := c7
          rw [if_neg c7] at hf
          refine w_aload_n rfl rfl ?_
          obtain ⟨b8, ho, hf⟩ := g_bind hf
          refine x_dr0 ho ?_
          obtain ⟨hg, hf⟩ := g_guard hf
          refine x_getI hg rfl rfl rfl ?_
          refine w_istore rfl (Nat.le_of_ble_eq_true rfl) rfl ?_
          refine w_aload_n rfl rfl ?_
          refine w_iload_n rfl rfl ?_
          obtain ⟨b9, ho, hf⟩ := g_bind hf
          refine x_dr1 ho ?_
          obtain ⟨hg, hf⟩ := g_guard hf
          refine x_putI hg rfl rfl (by decide) ?_
          refine w_iload rfl rfl ?_
          cases hf
          exact w_ireturn rfl (int_ret _) (Nat.le_refl _) (Nat.le_refl _) hQ
        · have c7 : (gint (q2.2) b6 1) = (4 : Int32) := Classical.not_not.mp c7
          rw [if_pos c7] at hf
          refine w_bipush (v := (-3 : Int32)) rfl (by decide) ?_
          cases hf
          exact w_ireturn rfl (int_ret _) (Nat.le_refl _) (Nat.le_refl _) hQ
      · have c5 : ¬ (x2 ≤ (10 : Int32)) := c5
        rw [if_neg c5] at hf
        refine w_iconst (v := (-1 : Int32)) rfl (by decide) ?_
        cases hf
        exact w_ireturn rfl (int_ret _) (Nat.le_refl _) (Nat.le_refl _) hQ
def f_G_link (n : Nat) (h : gHp) (a0 : Nat) (x1 : Int32) (x2 : Int32) : Option (Int32 × gHp) := (bif gtin (gtag (h) a0) [9] then ((gref (h) a0 0).bind (fun b1 => (((bif gtis (gtag (h) b1) 7 then f_Tree_find n (h) b1 (x1) else none)).bind (fun q2 => (if q2.1 = none then some ((-1 : Int32), q2.2) else (if x2 < (0 : Int32) then some ((-1 : Int32), q2.2) else (if x2 ≤ (999 : Int32) then (q2.1.bind (fun b6 => (bif gtin (gtag (q2.2) b6) [1, 3, 4, 5, 6] then (if (gint (q2.2) b6 1) = (4 : Int32) then some ((-3 : Int32), q2.2) else (q2.1.bind (fun b8 => (bif gtin (gtag (q2.2) b8) [1, 3, 4, 5, 6] then (q2.1.bind (fun b9 => (bif gtin (gtag (q2.2) b9) [1, 3, 4, 5, 6] then some (gint (q2.2) b8 8, gsetI (q2.2) b9 8 (x2)) else none))) else none)))) else none))) else some ((-1 : Int32), q2.2)))))))) else none)
set_option maxHeartbeats 4000000 in
set_option maxRecDepth 100000 in
theorem t_G_link {d n a0 : Nat} {h : gHp} {x1 : Int32} {x2 : Int32} {res : Int32 × gHp} {Q : Option gv → gHp → Prop} (hf : f_G_link n h a0 x1 x2 = some res) (hQ : Q (some (.inl res.1)) res.2) : gCall (d + 2) m_G_link [.inr (some a0), .inl x1, .inl x2] h Q := by
  unfold f_G_link at hf
  refine g_enter (d := d + 1) (Nat.le_of_ble_eq_true rfl) ?_
  show gWP (gCall (d + 1)) m_G_link Q 0 [some (.inr (some a0)), some (.inl x1), some (.inl x2), none, none] [] h 0 0
  refine w_aload_n rfl rfl ?_
  obtain ⟨hg, hf⟩ := g_guard hf
  refine x_getR hg rfl rfl rfl ?_
  refine w_iload_n rfl rfl ?_
  obtain ⟨b1, ho, hf⟩ := g_bind hf
  refine x_dr1 ho ?_
  obtain ⟨q2, hc, hf⟩ := g_bind hf
  obtain ⟨hg, hc⟩ := g_guard hc
  refine x_virt 7 [_] _ hg rfl rfl rfl rfl (Nat.le_of_ble_eq_true rfl) rfl (Nat.le_of_ble_eq_true rfl) (Nat.le_of_ble_eq_true rfl) (t_Tree_find (d := d + 0) hc ?_)
  refine w_astore_n rfl (Nat.le_of_ble_eq_true rfl) rfl ?_
  refine w_aload_n rfl rfl ?_
  refine w_ifnull (t := 24) rfl (by decide) (fun c3 => ?_) (fun c3 => ?_)
  · have c3 : q2.1 = none := c3
    rw [if_pos c3] at hf
    refine w_iconst (v := (-1 : Int32)) rfl (by decide) ?_
    cases hf
    exact w_ireturn rfl (int_ret _) (Nat.le_refl _) (Nat.le_refl _) hQ
  · have c3 : ¬ (q2.1 = none) := c3
    rw [if_neg c3] at hf
    refine w_iload_n rfl rfl ?_
    refine w_if (t := 24) rfl (by decide) (fun c4 => ?_) (fun c4 => ?_)
    · have c4 : x2 < (0 : Int32) := c4
      rw [if_pos c4] at hf
      refine w_iconst (v := (-1 : Int32)) rfl (by decide) ?_
      cases hf
      exact w_ireturn rfl (int_ret _) (Nat.le_refl _) (Nat.le_refl _) hQ
    · have c4 : ¬ (x2 < (0 : Int32)) := c4
      rw [if_neg c4] at hf
      refine w_iload_n rfl rfl ?_
      refine w_sipush (v := (999 : Int32)) rfl (by decide) ?_
      refine w_icmp (t := 26) rfl (by decide) (fun c5 => ?_) (fun c5 => ?_)
      · have c5 : x2 ≤ (999 : Int32) := c5
        rw [if_pos c5] at hf
        refine w_aload_n rfl rfl ?_
        obtain ⟨b6, ho, hf⟩ := g_bind hf
        refine x_dr0 ho ?_
        obtain ⟨hg, hf⟩ := g_guard hf
        refine x_getI hg rfl rfl rfl ?_
        refine w_iconst (v := (4 : Int32)) rfl (by decide) ?_
        refine w_icmp (t := 37) rfl (by decide) (fun c7 => ?_) (fun c7 => ?_)
        · have c7 : ¬ ((gint (q2.2) b6 1) = (4 : Int32)) := c7
          rw [if_neg c7] at hf
          refine w_aload_n rfl rfl ?_
          obtain ⟨b8, ho, hf⟩ := g_bind hf
          refine x_dr0 ho ?_
          obtain ⟨hg, hf⟩ := g_guard hf
          refine x_getI hg rfl rfl rfl ?_
          refine w_istore rfl (Nat.le_of_ble_eq_true rfl) rfl ?_
          refine w_aload_n rfl rfl ?_
          refine w_iload_n rfl rfl ?_
          obtain ⟨b9, ho, hf⟩ := g_bind hf
          refine x_dr1 ho ?_
          obtain ⟨hg, hf⟩ := g_guard hf
          refine x_putI hg rfl rfl (by decide) ?_
          refine w_iload rfl rfl ?_
          cases hf
          exact w_ireturn rfl (int_ret _) (Nat.le_refl _) (Nat.le_refl _) hQ
        · have c7 : (gint (q2.2) b6 1) = (4 : Int32) := Classical.not_not.mp c7
          rw [if_pos c7] at hf
          refine w_bipush (v := (-3 : Int32)) rfl (by decide) ?_
          cases hf
          exact w_ireturn rfl (int_ret _) (Nat.le_refl _) (Nat.le_refl _) hQ
      · have c5 : ¬ (x2 ≤ (999 : Int32)) := c5
        rw [if_neg c5] at hf
        refine w_iconst (v := (-1 : Int32)) rfl (by decide) ?_
        cases hf
        exact w_ireturn rfl (int_ret _) (Nat.le_refl _) (Nat.le_refl _) hQ
def f_Wrap_signIndex (n : Nat) (h : gHp) (a0 : Nat) (x1 : Int32) (x2 : Int32) : Option (Int32 × gHp) := (if x1 < (0 : Int32) then some ((-1 : Int32), h) else (bif gtin (gtag (h) a0) [8] then (if (gint (h) a0 2) ≤ x1 then some ((-1 : Int32), h) else (bif gtin (gtag (h) a0) [8] then ((gref (h) a0 0).bind (fun b3 => ((gtag (h) b3).bind (fun t4 => (bif (Nat.ble 20 t4.1 && Nat.ble t4.1 24) then (if x1 < (Int32.ofNat t4.2) then (bif gtin (gtag (h) a0) [8] then ((gref (h) a0 0).bind (fun b6 => (bif gArr (gtag (h) b6) 20 (x1) then (bif gtin (gtag (h) a0) [8] then ((gref (h) a0 1).bind (fun b7 => (bif gArr (gtag (h) b7) 20 (x1) then (if (gint (h) b7 (ix (x1))) ≤ ((gint (h) b6 (ix (x1))) + x2) then some ((-1 : Int32), h) else some ((gint (h) b6 (ix (x1))) + x2, h)) else none))) else none) else none))) else none) else some ((-1 : Int32), h)) else none))))) else none)) else none))
set_option maxHeartbeats 4000000 in
set_option maxRecDepth 100000 in
theorem t_Wrap_signIndex {d n a0 : Nat} {h : gHp} {x1 : Int32} {x2 : Int32} {res : Int32 × gHp} {Q : Option gv → gHp → Prop} (hf : f_Wrap_signIndex n h a0 x1 x2 = some res) (hQ : Q (some (.inl res.1)) res.2) : gCall (d + 1) m_Wrap_signIndex [.inr (some a0), .inl x1, .inl x2] h Q := by
  unfold f_Wrap_signIndex at hf
  refine g_enter (d := d + 0) (Nat.le_of_ble_eq_true rfl) ?_
  show gWP (gCall (d + 0)) m_Wrap_signIndex Q 0 [some (.inr (some a0)), some (.inl x1), some (.inl x2), none] [] h 0 0
  refine w_iload_n rfl rfl ?_
  refine w_if (t := 21) rfl (by decide) (fun c1 => ?_) (fun c1 => ?_)
  · have c1 : x1 < (0 : Int32) := c1
    rw [if_pos c1] at hf
    refine w_iconst (v := (-1 : Int32)) rfl (by decide) ?_
    cases hf
    exact w_ireturn rfl (int_ret _) (Nat.le_refl _) (Nat.le_refl _) hQ
  · have c1 : ¬ (x1 < (0 : Int32)) := c1
    rw [if_neg c1] at hf
    refine w_iload_n rfl rfl ?_
    refine w_aload_n rfl rfl ?_
    obtain ⟨hg, hf⟩ := g_guard hf
    refine x_getI hg rfl rfl rfl ?_
    refine w_icmp (t := 21) rfl (by decide) (fun c2 => ?_) (fun c2 => ?_)
    · have c2 : (gint (h) a0 2) ≤ x1 := c2
      rw [if_pos c2] at hf
      refine w_iconst (v := (-1 : Int32)) rfl (by decide) ?_
      cases hf
      exact w_ireturn rfl (int_ret _) (Nat.le_refl _) (Nat.le_refl _) hQ
    · have c2 : ¬ ((gint (h) a0 2) ≤ x1) := c2
      rw [if_neg c2] at hf
      refine w_iload_n rfl rfl ?_
      refine w_aload_n rfl rfl ?_
      obtain ⟨hg, hf⟩ := g_guard hf
      refine x_getR hg rfl rfl rfl ?_
      obtain ⟨b3, ho, hf⟩ := g_bind hf
      refine x_dr0 ho ?_
      obtain ⟨t4, ht, hf⟩ := g_bind hf
      obtain ⟨hg, hf⟩ := g_guard hf
      refine x_len ht hg rfl ?_
      refine w_icmp (t := 23) rfl (by decide) (fun c5 => ?_) (fun c5 => ?_)
      · have c5 : x1 < (Int32.ofNat t4.2) := c5
        rw [if_pos c5] at hf
        refine w_aload_n rfl rfl ?_
        obtain ⟨hg, hf⟩ := g_guard hf
        refine x_getR hg rfl rfl rfl ?_
        refine w_iload_n rfl rfl ?_
        obtain ⟨b6, ho, hf⟩ := g_bind hf
        refine x_dr1 ho ?_
        obtain ⟨hg, hf⟩ := g_guard hf
        refine x_ld hg rfl ?_
        refine w_iload_n rfl rfl ?_
        refine w_iadd rfl ?_
        refine w_istore_n rfl (Nat.le_of_ble_eq_true rfl) rfl ?_
        refine w_iload_n rfl rfl ?_
        refine w_aload_n rfl rfl ?_
        obtain ⟨hg, hf⟩ := g_guard hf
        refine x_getR hg rfl rfl rfl ?_
        refine w_iload_n rfl rfl ?_
        obtain ⟨b7, ho, hf⟩ := g_bind hf
        refine x_dr1 ho ?_
        obtain ⟨hg, hf⟩ := g_guard hf
        refine x_ld hg rfl ?_
        refine w_icmp (t := 46) rfl (by decide) (fun c8 => ?_) (fun c8 => ?_)
        · have c8 : (gint (h) b7 (ix (x1))) ≤ ((gint (h) b6 (ix (x1))) + x2) := c8
          rw [if_pos c8] at hf
          refine w_iconst (v := (-1 : Int32)) rfl (by decide) ?_
          cases hf
          exact w_ireturn rfl (int_ret _) (Nat.le_refl _) (Nat.le_refl _) hQ
        · have c8 : ¬ ((gint (h) b7 (ix (x1))) ≤ ((gint (h) b6 (ix (x1))) + x2)) := c8
          rw [if_neg c8] at hf
          refine w_iload_n rfl rfl ?_
          refine w_goto (t := 47) rfl (by decide) ?_
          cases hf
          exact w_ireturn rfl (int_ret _) (Nat.le_refl _) (Nat.le_refl _) hQ
      · have c5 : ¬ (x1 < (Int32.ofNat t4.2)) := c5
        rw [if_neg c5] at hf
        refine w_iconst (v := (-1 : Int32)) rfl (by decide) ?_
        cases hf
        exact w_ireturn rfl (int_ret _) (Nat.le_refl _) (Nat.le_refl _) hQ
def f_Text_cellAt (n : Nat) (h : gHp) (a0 : Nat) (x1 : Int32) (x2 : Int32) : Option (Int32 × gHp) := (bif gtin (gtag (h) a0) [6] then (bif gtin (gtag (h) a0) [6] then ((gref (h) a0 15).bind (fun b1 => (((bif gtis (gtag (h) b1) 8 then f_Wrap_fold n (h) b1 (some a0) (gint (h) a0 5) else none)).bind (fun q2 => (bif gtin (gtag (q2) a0) [6] then (bif gtin (gtag (q2) a0) [6] then ((gref (q2) a0 15).bind (fun b3 => (bif gtin (gtag (q2) b3) [8] then (bif gtin (gtag (q2) a0) [6] then ((gref (q2) a0 15).bind (fun b4 => (((bif gtis (gtag (q2) b4) 8 then f_Wrap_signIndex n (q2) b4 (((if (0 : Int32) < ((gint (q2) b3 2) - (gint (q2) a0 6)) then ((gint (q2) b3 2) - (gint (q2) a0 6)) else (0 : Int32))) + x2) (x1) else none)).bind (fun q5 => (if q5.1 < (0 : Int32) then some ((32 : Int32), q5.2) else (((bif gtis (gtag (q5.2) a0) 6 then f_Text_cellOf n (q5.2) a0 (q5.1) else none)).bind (fun q7 => some (q7.1, q7.2)))))))) else none) else none))) else none) else none))))) else none) else none)
set_option maxHeartbeats 4000000 in
set_option maxRecDepth 100000 in
theorem t_Text_cellAt {d n a0 : Nat} {h : gHp} {x1 : Int32} {x2 : Int32} {res : Int32 × gHp} {Q : Option gv → gHp → Prop} (hf : f_Text_cellAt n h a0 x1 x2 = some res) (hQ : Q (some (.inl res.1)) res.2) : gCall (d + 6) m_Text_cellAt [.inr (some a0), .inl x1, .inl x2] h Q := by
  unfold f_Text_cellAt at hf
  refine g_enter (d := d + 5) (Nat.le_of_ble_eq_true rfl) ?_
  show gWP (gCall (d + 5)) m_Text_cellAt Q 0 [some (.inr (some a0)), some (.inl x1), some (.inl x2), none] [] h 0 0
  refine w_aload_n rfl rfl ?_
  obtain ⟨hg, hf⟩ := g_guard hf
  refine x_getR hg rfl rfl rfl ?_
  refine w_aload_n rfl rfl ?_
  refine w_aload_n rfl rfl ?_
  obtain ⟨hg, hf⟩ := g_guard hf
  refine x_getI hg rfl rfl rfl ?_
  obtain ⟨b1, ho, hf⟩ := g_bind hf
  refine x_dr2 ho ?_
  obtain ⟨q2, hc, hf⟩ := g_bind hf
  obtain ⟨hg, hc⟩ := g_guard hc
  refine x_virt 8 [_, _] _ hg rfl rfl rfl rfl (Nat.le_of_ble_eq_true rfl) rfl (Nat.le_of_ble_eq_true rfl) (Nat.le_of_ble_eq_true rfl) (t_Wrap_fold (d := d + 0) hc ?_)
  refine w_aload_n rfl rfl ?_
  obtain ⟨hg, hf⟩ := g_guard hf
  refine x_getR hg rfl rfl rfl ?_
  refine w_iconst (v := (0 : Int32)) rfl (by decide) ?_
  refine w_aload_n rfl rfl ?_
  obtain ⟨hg, hf⟩ := g_guard hf
  refine x_getR hg rfl rfl rfl ?_
  obtain ⟨b3, ho, hf⟩ := g_bind hf
  refine x_dr0 ho ?_
  obtain ⟨hg, hf⟩ := g_guard hf
  refine x_getI hg rfl rfl rfl ?_
  refine w_aload_n rfl rfl ?_
  obtain ⟨hg, hf⟩ := g_guard hf
  refine x_getI hg rfl rfl rfl ?_
  refine w_isub rfl ?_
  refine x_math rfl rfl (Nat.le_of_ble_eq_true rfl) (Nat.le_of_ble_eq_true rfl) (Nat.le_of_ble_eq_true rfl) ?_
  refine w_iload_n rfl rfl ?_
  refine w_iadd rfl ?_
  refine w_iload_n rfl rfl ?_
  obtain ⟨b4, ho, hf⟩ := g_bind hf
  refine x_dr2 ho ?_
  obtain ⟨q5, hc, hf⟩ := g_bind hf
  obtain ⟨hg, hc⟩ := g_guard hc
  refine x_virt 8 [_, _] _ hg rfl rfl rfl rfl (Nat.le_of_ble_eq_true rfl) rfl (Nat.le_of_ble_eq_true rfl) (Nat.le_of_ble_eq_true rfl) (t_Wrap_signIndex (d := d + 4) hc ?_)
  refine w_istore_n rfl (Nat.le_of_ble_eq_true rfl) rfl ?_
  refine w_iload_n rfl rfl ?_
  refine w_if (t := 51) rfl (by decide) (fun c6 => ?_) (fun c6 => ?_)
  · have c6 : q5.1 < (0 : Int32) := c6
    rw [if_pos c6] at hf
    refine w_bipush (v := (32 : Int32)) rfl (by decide) ?_
    cases hf
    exact w_ireturn rfl (int_ret _) (Nat.le_refl _) (Nat.le_refl _) hQ
  · have c6 : ¬ (q5.1 < (0 : Int32)) := c6
    rw [if_neg c6] at hf
    refine w_aload_n rfl rfl ?_
    refine w_iload_n rfl rfl ?_
    obtain ⟨q7, hc, hf⟩ := g_bind hf
    obtain ⟨hg, hc⟩ := g_guard hc
    refine x_virt 6 [_] _ hg rfl rfl rfl rfl (Nat.le_of_ble_eq_true rfl) rfl (Nat.le_of_ble_eq_true rfl) (Nat.le_of_ble_eq_true rfl) (t_Text_cellOf (d := d + 3) hc ?_)
    refine w_goto (t := 53) rfl (by decide) ?_
    cases hf
    exact w_ireturn rfl (int_ret _) (Nat.le_refl _) (Nat.le_refl _) hQ
def f_Grid_cellAt (n : Nat) (h : gHp) (a0 : Nat) (x1 : Int32) (x2 : Int32) : Option (Int32 × gHp) := (bif gtin (gtag (h) a0) [1] then (bif gtin (gtag (h) a0) [1] then (if x2 = (gint (h) a0 15) then (if (x1 - (gint (h) a0 14)) < (0 : Int32) then (((bif gtis (gtag (h) a0) 1 then f_Grid_indexOf n (h) a0 (x1) (x2) else none)).bind (fun q3 => (if q3.1 < (0 : Int32) then some ((32 : Int32), q3.2) else (bif gtin (gtag (q3.2) a0) [1] then ((gref (q3.2) a0 13).bind (fun b5 => (bif gArr (gtag (q3.2) b5) 20 (q3.1) then some (gint (q3.2) b5 (ix (q3.1)), q3.2) else none))) else none)))) else (bif gtin (gtag (h) a0) [1] then ((gref (h) a0 12).bind (fun b3 => (bif gtin (gtag (h) b3) [2] then (if (gint (h) b3 2) ≤ (x1 - (gint (h) a0 14)) then (((bif gtis (gtag (h) a0) 1 then f_Grid_indexOf n (h) a0 (x1) (x2) else none)).bind (fun q5 => (if q5.1 < (0 : Int32) then some ((32 : Int32), q5.2) else (bif gtin (gtag (q5.2) a0) [1] then ((gref (q5.2) a0 13).bind (fun b7 => (bif gArr (gtag (q5.2) b7) 20 (q5.1) then some (gint (q5.2) b7 (ix (q5.1)), q5.2) else none))) else none)))) else (bif gtin (gtag (h) a0) [1] then ((gref (h) a0 12).bind (fun b5 => (((bif gtis (gtag (h) b5) 2 then f_Line_cellOf n (h) b5 (x1 - (gint (h) a0 14)) else none)).bind (fun q6 => some (q6.1, q6.2))))) else none)) else none))) else none)) else (((bif gtis (gtag (h) a0) 1 then f_Grid_indexOf n (h) a0 (x1) (x2) else none)).bind (fun q2 => (if q2.1 < (0 : Int32) then some ((32 : Int32), q2.2) else (bif gtin (gtag (q2.2) a0) [1] then ((gref (q2.2) a0 13).bind (fun b4 => (bif gArr (gtag (q2.2) b4) 20 (q2.1) then some (gint (q2.2) b4 (ix (q2.1)), q2.2) else none))) else none))))) else none) else none)
set_option maxHeartbeats 4000000 in
set_option maxRecDepth 100000 in
theorem t_Grid_cellAt {d n a0 : Nat} {h : gHp} {x1 : Int32} {x2 : Int32} {res : Int32 × gHp} {Q : Option gv → gHp → Prop} (hf : f_Grid_cellAt n h a0 x1 x2 = some res) (hQ : Q (some (.inl res.1)) res.2) : gCall (d + 3) m_Grid_cellAt [.inr (some a0), .inl x1, .inl x2] h Q := by
  unfold f_Grid_cellAt at hf
  refine g_enter (d := d + 2) (Nat.le_of_ble_eq_true rfl) ?_
  show gWP (gCall (d + 2)) m_Grid_cellAt Q 0 [some (.inr (some a0)), some (.inl x1), some (.inl x2), none, none] [] h 0 0
  refine w_iload_n rfl rfl ?_
  refine w_aload_n rfl rfl ?_
  obtain ⟨hg, hf⟩ := g_guard hf
  refine x_getI hg rfl rfl rfl ?_
  refine w_isub rfl ?_
  refine w_istore_n rfl (Nat.le_of_ble_eq_true rfl) rfl ?_
  refine w_iload_n rfl rfl ?_
  refine w_aload_n rfl rfl ?_
  obtain ⟨hg, hf⟩ := g_guard hf
  refine x_getI hg rfl rfl rfl ?_
  refine w_icmp (t := 39) rfl (by decide) (fun c1 => ?_) (fun c1 => ?_)
  · have c1 : ¬ (x2 = (gint (h) a0 15)) := c1
    rw [if_neg c1] at hf
    refine w_aload_n rfl rfl ?_
    refine w_iload_n rfl rfl ?_
    refine w_iload_n rfl rfl ?_
    obtain ⟨q2, hc, hf⟩ := g_bind hf
    obtain ⟨hg, hc⟩ := g_guard hc
    refine x_virt 1 [_, _] _ hg rfl rfl rfl rfl (Nat.le_of_ble_eq_true rfl) rfl (Nat.le_of_ble_eq_true rfl) (Nat.le_of_ble_eq_true rfl) (t_Grid_indexOf (d := d + 0) hc ?_)
    refine w_istore rfl (Nat.le_of_ble_eq_true rfl) rfl ?_
    refine w_iload rfl rfl ?_
    refine w_if (t := 62) rfl (by decide) (fun c3 => ?_) (fun c3 => ?_)
    · have c3 : q2.1 < (0 : Int32) := c3
      rw [if_pos c3] at hf
      refine w_bipush (v := (32 : Int32)) rfl (by decide) ?_
      cases hf
      exact w_ireturn rfl (int_ret _) (Nat.le_refl _) (Nat.le_refl _) hQ
    · have c3 : ¬ (q2.1 < (0 : Int32)) := c3
      rw [if_neg c3] at hf
      refine w_aload_n rfl rfl ?_
      obtain ⟨hg, hf⟩ := g_guard hf
      refine x_getR hg rfl rfl rfl ?_
      refine w_iload rfl rfl ?_
      obtain ⟨b4, ho, hf⟩ := g_bind hf
      refine x_dr1 ho ?_
      obtain ⟨hg, hf⟩ := g_guard hf
      refine x_ld hg rfl ?_
      refine w_goto (t := 64) rfl (by decide) ?_
      cases hf
      exact w_ireturn rfl (int_ret _) (Nat.le_refl _) (Nat.le_refl _) hQ
  · have c1 : x2 = (gint (h) a0 15) := Classical.not_not.mp c1
    rw [if_pos c1] at hf
    refine w_iload_n rfl rfl ?_
    refine w_if (t := 39) rfl (by decide) (fun c2 => ?_) (fun c2 => ?_)
    · have c2 : (x1 - (gint (h) a0 14)) < (0 : Int32) := c2
      rw [if_pos c2] at hf
      refine w_aload_n rfl rfl ?_
      refine w_iload_n rfl rfl ?_
      refine w_iload_n rfl rfl ?_
      obtain ⟨q3, hc, hf⟩ := g_bind hf
      obtain ⟨hg, hc⟩ := g_guard hc
      refine x_virt 1 [_, _] _ hg rfl rfl rfl rfl (Nat.le_of_ble_eq_true rfl) rfl (Nat.le_of_ble_eq_true rfl) (Nat.le_of_ble_eq_true rfl) (t_Grid_indexOf (d := d + 0) hc ?_)
      refine w_istore rfl (Nat.le_of_ble_eq_true rfl) rfl ?_
      refine w_iload rfl rfl ?_
      refine w_if (t := 62) rfl (by decide) (fun c4 => ?_) (fun c4 => ?_)
      · have c4 : q3.1 < (0 : Int32) := c4
        rw [if_pos c4] at hf
        refine w_bipush (v := (32 : Int32)) rfl (by decide) ?_
        cases hf
        exact w_ireturn rfl (int_ret _) (Nat.le_refl _) (Nat.le_refl _) hQ
      · have c4 : ¬ (q3.1 < (0 : Int32)) := c4
        rw [if_neg c4] at hf
        refine w_aload_n rfl rfl ?_
        obtain ⟨hg, hf⟩ := g_guard hf
        refine x_getR hg rfl rfl rfl ?_
        refine w_iload rfl rfl ?_
        obtain ⟨b5, ho, hf⟩ := g_bind hf
        refine x_dr1 ho ?_
        obtain ⟨hg, hf⟩ := g_guard hf
        refine x_ld hg rfl ?_
        refine w_goto (t := 64) rfl (by decide) ?_
        cases hf
        exact w_ireturn rfl (int_ret _) (Nat.le_refl _) (Nat.le_refl _) hQ
    · have c2 : ¬ ((x1 - (gint (h) a0 14)) < (0 : Int32)) := c2
      rw [if_neg c2] at hf
      refine w_iload_n rfl rfl ?_
      refine w_aload_n rfl rfl ?_
      obtain ⟨hg, hf⟩ := g_guard hf
      refine x_getR hg rfl rfl rfl ?_
      obtain ⟨b3, ho, hf⟩ := g_bind hf
      refine x_dr0 ho ?_
      obtain ⟨hg, hf⟩ := g_guard hf
      refine x_getI hg rfl rfl rfl ?_
      refine w_icmp (t := 39) rfl (by decide) (fun c4 => ?_) (fun c4 => ?_)
      · have c4 : (gint (h) b3 2) ≤ (x1 - (gint (h) a0 14)) := c4
        rw [if_pos c4] at hf
        refine w_aload_n rfl rfl ?_
        refine w_iload_n rfl rfl ?_
        refine w_iload_n rfl rfl ?_
        obtain ⟨q5, hc, hf⟩ := g_bind hf
        obtain ⟨hg, hc⟩ := g_guard hc
        refine x_virt 1 [_, _] _ hg rfl rfl rfl rfl (Nat.le_of_ble_eq_true rfl) rfl (Nat.le_of_ble_eq_true rfl) (Nat.le_of_ble_eq_true rfl) (t_Grid_indexOf (d := d + 0) hc ?_)
        refine w_istore rfl (Nat.le_of_ble_eq_true rfl) rfl ?_
        refine w_iload rfl rfl ?_
        refine w_if (t := 62) rfl (by decide) (fun c6 => ?_) (fun c6 => ?_)
        · have c6 : q5.1 < (0 : Int32) := c6
          rw [if_pos c6] at hf
          refine w_bipush (v := (32 : Int32)) rfl (by decide) ?_
          cases hf
          exact w_ireturn rfl (int_ret _) (Nat.le_refl _) (Nat.le_refl _) hQ
        · have c6 : ¬ (q5.1 < (0 : Int32)) := c6
          rw [if_neg c6] at hf
          refine w_aload_n rfl rfl ?_
          obtain ⟨hg, hf⟩ := g_guard hf
          refine x_getR hg rfl rfl rfl ?_
          refine w_iload rfl rfl ?_
          obtain ⟨b7, ho, hf⟩ := g_bind hf
          refine x_dr1 ho ?_
          obtain ⟨hg, hf⟩ := g_guard hf
          refine x_ld hg rfl ?_
          refine w_goto (t := 64) rfl (by decide) ?_
          cases hf
          exact w_ireturn rfl (int_ret _) (Nat.le_refl _) (Nat.le_refl _) hQ
      · have c4 : ¬ ((gint (h) b3 2) ≤ (x1 - (gint (h) a0 14))) := c4
        rw [if_neg c4] at hf
        refine w_aload_n rfl rfl ?_
        obtain ⟨hg, hf⟩ := g_guard hf
        refine x_getR hg rfl rfl rfl ?_
        refine w_iload_n rfl rfl ?_
        obtain ⟨b5, ho, hf⟩ := g_bind hf
        refine x_dr1 ho ?_
        obtain ⟨q6, hc, hf⟩ := g_bind hf
        obtain ⟨hg, hc⟩ := g_guard hc
        refine x_virt 2 [_] _ hg rfl rfl rfl rfl (Nat.le_of_ble_eq_true rfl) rfl (Nat.le_of_ble_eq_true rfl) (Nat.le_of_ble_eq_true rfl) (t_Line_cellOf (d := d + 1) hc ?_)
        cases hf
        exact w_ireturn rfl (int_ret _) (Nat.le_refl _) (Nat.le_refl _) hQ
def f_G_drawn (n : Nat) (h : gHp) (a0 : Nat) (x1 : Int32) (x2 : Int32) : Option (Int32 × gHp) := (bif gtin (gtag (h) a0) [9] then ((gref (h) a0 0).bind (fun b1 => (((bif gtis (gtag (h) b1) 7 then f_Tree_hasPlace n (h) b1 (x1) (x2) else none)).bind (fun q2 => (if q2.1 = (0 : Int32) then some ((-1 : Int32), q2.2) else (bif gtin (gtag (q2.2) a0) [9] then ((gref (q2.2) a0 0).bind (fun b4 => (((bif gtis (gtag (q2.2) b4) 7 then f_Tree_paneAt n (q2.2) b4 (x1) (x2) else none)).bind (fun q5 => (if q5.1 = none then some ((32 : Int32), q5.2) else (q5.1.bind (fun b7 => (bif gtin (gtag (q5.2) b7) [1, 3, 4, 5, 6] then (q5.1.bind (fun b8 => (bif gtin (gtag (q5.2) b8) [1, 3, 4, 5, 6] then (q5.1.bind (fun b9 => (((bif gtin (gtag (q5.2) b9) [1] then f_Grid_cellAt n (q5.2) b9 (x1 - (gint (q5.2) b7 3)) (x2 - (gint (q5.2) b8 4)) else (bif gtin (gtag (q5.2) b9) [3] then f_Pair_cellAt n (q5.2) b9 (x1 - (gint (q5.2) b7 3)) (x2 - (gint (q5.2) b8 4)) else (bif gtin (gtag (q5.2) b9) [4] then f_Pane_cellAt n (q5.2) b9 (x1 - (gint (q5.2) b7 3)) (x2 - (gint (q5.2) b8 4)) else (bif gtin (gtag (q5.2) b9) [5] then f_Picture_cellAt n (q5.2) b9 (x1 - (gint (q5.2) b7 3)) (x2 - (gint (q5.2) b8 4)) else (bif gtin (gtag (q5.2) b9) [6] then f_Text_cellAt n (q5.2) b9 (x1 - (gint (q5.2) b7 3)) (x2 - (gint (q5.2) b8 4)) else none)))))).bind (fun q10 => ((f_G_signOf n (q10.2) (q10.1)).bind (fun q11 => some (q11.1, q11.2))))))) else none))) else none)))))))) else none)))))) else none)
set_option maxHeartbeats 4000000 in
set_option maxRecDepth 100000 in
theorem t_G_drawn {d n a0 : Nat} {h : gHp} {x1 : Int32} {x2 : Int32} {res : Int32 × gHp} {Q : Option gv → gHp → Prop} (hf : f_G_drawn n h a0 x1 x2 = some res) (hQ : Q (some (.inl res.1)) res.2) : gCall (d + 7) m_G_drawn [.inr (some a0), .inl x1, .inl x2] h Q := by
  unfold f_G_drawn at hf
  refine g_enter (d := d + 6) (Nat.le_of_ble_eq_true rfl) ?_
  show gWP (gCall (d + 6)) m_G_drawn Q 0 [some (.inr (some a0)), some (.inl x1), some (.inl x2), none] [] h 0 0
  refine w_aload_n rfl rfl ?_
  obtain ⟨hg, hf⟩ := g_guard hf
  refine x_getR hg rfl rfl rfl ?_
  refine w_iload_n rfl rfl ?_
  refine w_iload_n rfl rfl ?_
  obtain ⟨b1, ho, hf⟩ := g_bind hf
  refine x_dr2 ho ?_
  obtain ⟨q2, hc, hf⟩ := g_bind hf
  obtain ⟨hg, hc⟩ := g_guard hc
  refine x_virt 7 [_, _] _ hg rfl rfl rfl rfl (Nat.le_of_ble_eq_true rfl) rfl (Nat.le_of_ble_eq_true rfl) (Nat.le_of_ble_eq_true rfl) (t_Tree_hasPlace (d := d + 5) hc ?_)
  refine w_if (t := 14) rfl (by decide) (fun c3 => ?_) (fun c3 => ?_)
  · have c3 : ¬ (q2.1 = (0 : Int32)) := c3
    rw [if_neg c3] at hf
    refine w_aload_n rfl rfl ?_
    obtain ⟨hg, hf⟩ := g_guard hf
    refine x_getR hg rfl rfl rfl ?_
    refine w_iload_n rfl rfl ?_
    refine w_iload_n rfl rfl ?_
    obtain ⟨b4, ho, hf⟩ := g_bind hf
    refine x_dr2 ho ?_
    obtain ⟨q5, hc, hf⟩ := g_bind hf
    obtain ⟨hg, hc⟩ := g_guard hc
    refine x_virt 7 [_, _] _ hg rfl rfl rfl rfl (Nat.le_of_ble_eq_true rfl) rfl (Nat.le_of_ble_eq_true rfl) (Nat.le_of_ble_eq_true rfl) (t_Tree_paneAt (d := d + 3) hc ?_)
    refine w_astore_n rfl (Nat.le_of_ble_eq_true rfl) rfl ?_
    refine w_aload_n rfl rfl ?_
    refine w_ifnonnull (t := 33) rfl (by decide) (fun c6 => ?_) (fun c6 => ?_)
    · have c6 : ¬ (q5.1 = none) := c6
      rw [if_neg c6] at hf
      refine w_aload_n rfl rfl ?_
      refine w_iload_n rfl rfl ?_
      refine w_aload_n rfl rfl ?_
      obtain ⟨b7, ho, hf⟩ := g_bind hf
      refine x_dr0 ho ?_
      obtain ⟨hg, hf⟩ := g_guard hf
      refine x_getI hg rfl rfl rfl ?_
      refine w_isub rfl ?_
      refine w_iload_n rfl rfl ?_
      refine w_aload_n rfl rfl ?_
      obtain ⟨b8, ho, hf⟩ := g_bind hf
      refine x_dr0 ho ?_
      obtain ⟨hg, hf⟩ := g_guard hf
      refine x_getI hg rfl rfl rfl ?_
      refine w_isub rfl ?_
      obtain ⟨b9, ho, hf⟩ := g_bind hf
      refine x_dr2 ho ?_
      obtain ⟨q10, hc, hf⟩ := g_bind hf
      have hDp : gDisp (gCall (d + 6)) m_G_drawn 209 (q5.2) b9 [.inl (x1 - (gint (q5.2) b7 3)), .inl (x2 - (gint (q5.2) b8 4))] (fun v h' => v = some (.inl q10.1) ∧ h' = q10.2) := by
        rcases g_cond hc with ⟨hg, hc⟩ | ⟨-, hc⟩
        · exact g_disp [1] hg rfl rfl (List.forall_mem_cons.mpr ⟨⟨_, rfl, rfl, rfl, rfl⟩, fun _ h => absurd h List.not_mem_nil⟩) (t_Grid_cellAt (d := d + 3) hc ⟨rfl, rfl⟩)
        rcases g_cond hc with ⟨hg, hc⟩ | ⟨-, hc⟩
        · exact g_disp [3] hg rfl rfl (List.forall_mem_cons.mpr ⟨⟨_, rfl, rfl, rfl, rfl⟩, fun _ h => absurd h List.not_mem_nil⟩) (t_Pair_cellAt (d := d + 4) hc ⟨rfl, rfl⟩)
        rcases g_cond hc with ⟨hg, hc⟩ | ⟨-, hc⟩
        · exact g_disp [4] hg rfl rfl (List.forall_mem_cons.mpr ⟨⟨_, rfl, rfl, rfl, rfl⟩, fun _ h => absurd h List.not_mem_nil⟩) (t_Pane_cellAt (d := d + 5) hc ⟨rfl, rfl⟩)
        rcases g_cond hc with ⟨hg, hc⟩ | ⟨-, hc⟩
        · exact g_disp [5] hg rfl rfl (List.forall_mem_cons.mpr ⟨⟨_, rfl, rfl, rfl, rfl⟩, fun _ h => absurd h List.not_mem_nil⟩) (t_Picture_cellAt (d := d + 5) hc ⟨rfl, rfl⟩)
        rcases g_cond hc with ⟨hg, hc⟩ | ⟨-, hc⟩
        · exact g_disp [6] hg rfl rfl (List.forall_mem_cons.mpr ⟨⟨_, rfl, rfl, rfl, rfl⟩, fun _ h => absurd h List.not_mem_nil⟩) (t_Text_cellAt (d := d + 0) hc ⟨rfl, rfl⟩)
        cases hc
      refine w_disp [_, _] _ rfl rfl (Nat.le_of_ble_eq_true rfl) hDp (fun v h' hv => ?_)
      obtain ⟨rfl, rfl⟩ := hv
      obtain ⟨q11, hc, hf⟩ := g_bind hf
      refine w_static [_] _ rfl rfl rfl rfl (Nat.le_of_ble_eq_true rfl) (Nat.le_of_ble_eq_true rfl) (Nat.le_of_ble_eq_true rfl) (t_G_signOf (d := d + 5) hc ?_)
      cases hf
      exact w_ireturn rfl (int_ret _) (Nat.le_refl _) (Nat.le_refl _) hQ
    · have c6 : q5.1 = none := c6
      rw [if_pos c6] at hf
      refine w_bipush (v := (32 : Int32)) rfl (by decide) ?_
      refine w_goto (t := 52) rfl (by decide) ?_
      cases hf
      exact w_ireturn rfl (int_ret _) (Nat.le_refl _) (Nat.le_refl _) hQ
  · have c3 : q2.1 = (0 : Int32) := Classical.not_not.mp c3
    rw [if_pos c3] at hf
    refine w_iconst (v := (-1 : Int32)) rfl (by decide) ?_
    cases hf
    exact w_ireturn rfl (int_ret _) (Nat.le_refl _) (Nat.le_refl _) hQ
