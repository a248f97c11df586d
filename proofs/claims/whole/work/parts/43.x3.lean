def f_Tree_remove_B36 (a0 : Nat) (n : Nat) (h : gHp) (x1 : Option Nat) (x2 : Option Nat) (s0 : Option Nat) : Option (gHp) := (if s0 = none then (((bif gtis (gtag (h) a0) 7 then f_Tree_forget n (h) a0 (x2) else none)).bind (fun q2 => (((bif gtis (gtag (q2) a0) 7 then f_Tree_forgetWithAllBelow n (q2) a0 (x1) else none)).bind (fun q3 => (((bif gtis (gtag (q3) a0) 7 then f_Tree_forgetClosedKeys n (q3) a0  else none)).bind (fun q4 => (((bif gtis (gtag (q4) a0) 7 then f_Tree_layOut n (q4) a0  else none)).bind (fun q5 => some (q5.2))))))))) else (((bif gtis (gtag (h) a0) 7 then f_Tree_replace n (h) a0 (x2) (s0) else none)).bind (fun q2 => (((bif gtis (gtag (q2) a0) 7 then f_Tree_forget n (q2) a0 (x2) else none)).bind (fun q3 => (((bif gtis (gtag (q3) a0) 7 then f_Tree_forgetWithAllBelow n (q3) a0 (x1) else none)).bind (fun q4 => (((bif gtis (gtag (q4) a0) 7 then f_Tree_forgetClosedKeys n (q4) a0  else none)).bind (fun q5 => (((bif gtis (gtag (q5) a0) 7 then f_Tree_layOut n (q5) a0  else none)).bind (fun q6 => some (q6.2))))))))))))
set_option maxHeartbeats 4000000 in
set_option maxRecDepth 100000 in
theorem t_Tree_remove_B36 {d a0 : Nat} {Q : Option gv → gHp → Prop} {res : gHp} (hQ : Q (none) res) (n : Nat) (h : gHp) (x1 : Option Nat) (x2 : Option Nat) (s0 : Option Nat) (u3 : Option gv) (hf : f_Tree_remove_B36 a0 n h x1 x2 s0 = some res) : gWP (gCall (d + 51)) m_Tree_remove Q 36 [some (.inr (some a0)), some (.inr x1), some (.inr x2), u3] [.inr s0] h 0 0 := by
  unfold f_Tree_remove_B36 at hf
  refine w_astore_n rfl (Nat.le_of_ble_eq_true rfl) rfl ?_
  refine w_aload_n rfl rfl ?_
  refine w_ifnull (t := 47) rfl (by decide) (fun c1 => ?_) (fun c1 => ?_)
  · have c1 : s0 = none := c1
    rw [if_pos c1] at hf
    refine w_aload_n rfl rfl ?_
    refine w_aload_n rfl rfl ?_
    obtain ⟨q2, hc, hf⟩ := g_bind hf
    obtain ⟨hg, hc⟩ := g_guard hc
    refine x_virt 7 [_] _ hg rfl rfl rfl rfl (Nat.le_of_ble_eq_true rfl) rfl (Nat.le_of_ble_eq_true rfl) (Nat.le_of_ble_eq_true rfl) (t_Tree_forget (d := d + 50) hc ?_)
    refine w_aload_n rfl rfl ?_
    refine w_aload_n rfl rfl ?_
    obtain ⟨q3, hc, hf⟩ := g_bind hf
    obtain ⟨hg, hc⟩ := g_guard hc
    refine x_virt 7 [_] _ hg rfl rfl rfl rfl (Nat.le_of_ble_eq_true rfl) rfl (Nat.le_of_ble_eq_true rfl) (Nat.le_of_ble_eq_true rfl) (t_Tree_forgetWithAllBelow (d := d + 49) hc ?_)
    refine w_aload_n rfl rfl ?_
    obtain ⟨q4, hc, hf⟩ := g_bind hf
    obtain ⟨hg, hc⟩ := g_guard hc
    refine x_virt 7 [] _ hg rfl rfl rfl rfl (Nat.le_of_ble_eq_true rfl) rfl (Nat.le_of_ble_eq_true rfl) (Nat.le_of_ble_eq_true rfl) (t_Tree_forgetClosedKeys (d := d + 49) hc ?_)
    refine w_aload_n rfl rfl ?_
    obtain ⟨q5, hc, hf⟩ := g_bind hf
    obtain ⟨hg, hc⟩ := g_guard hc
    refine x_virt 7 [] _ hg rfl rfl rfl rfl (Nat.le_of_ble_eq_true rfl) rfl (Nat.le_of_ble_eq_true rfl) (Nat.le_of_ble_eq_true rfl) (t_Tree_layOut (d := d + 0) hc ?_)
    refine w_pop rfl ?_
    cases hf
    exact w_return rfl rfl (Nat.le_refl _) (Nat.le_refl _) hQ
  · have c1 : ¬ (s0 = none) := c1
    rw [if_neg c1] at hf
    refine w_aload_n rfl rfl ?_
    refine w_aload_n rfl rfl ?_
    refine w_aload_n rfl rfl ?_
    obtain ⟨q2, hc, hf⟩ := g_bind hf
    obtain ⟨hg, hc⟩ := g_guard hc
    refine x_virt 7 [_, _] _ hg rfl rfl rfl rfl (Nat.le_of_ble_eq_true rfl) rfl (Nat.le_of_ble_eq_true rfl) (Nat.le_of_ble_eq_true rfl) (t_Tree_replace (d := d + 50) hc ?_)
    refine w_aload_n rfl rfl ?_
    refine w_aload_n rfl rfl ?_
    obtain ⟨q3, hc, hf⟩ := g_bind hf
    obtain ⟨hg, hc⟩ := g_guard hc
    refine x_virt 7 [_] _ hg rfl rfl rfl rfl (Nat.le_of_ble_eq_true rfl) rfl (Nat.le_of_ble_eq_true rfl) (Nat.le_of_ble_eq_true rfl) (t_Tree_forget (d := d + 50) hc ?_)
    refine w_aload_n rfl rfl ?_
    refine w_aload_n rfl rfl ?_
    obtain ⟨q4, hc, hf⟩ := g_bind hf
    obtain ⟨hg, hc⟩ := g_guard hc
    refine x_virt 7 [_] _ hg rfl rfl rfl rfl (Nat.le_of_ble_eq_true rfl) rfl (Nat.le_of_ble_eq_true rfl) (Nat.le_of_ble_eq_true rfl) (t_Tree_forgetWithAllBelow (d := d + 49) hc ?_)
    refine w_aload_n rfl rfl ?_
    obtain ⟨q5, hc, hf⟩ := g_bind hf
    obtain ⟨hg, hc⟩ := g_guard hc
    refine x_virt 7 [] _ hg rfl rfl rfl rfl (Nat.le_of_ble_eq_true rfl) rfl (Nat.le_of_ble_eq_true rfl) (Nat.le_of_ble_eq_true rfl) (t_Tree_forgetClosedKeys (d := d + 49) hc ?_)
    refine w_aload_n rfl rfl ?_
    obtain ⟨q6, hc, hf⟩ := g_bind hf
    obtain ⟨hg, hc⟩ := g_guard hc
    refine x_virt 7 [] _ hg rfl rfl rfl rfl (Nat.le_of_ble_eq_true rfl) rfl (Nat.le_of_ble_eq_true rfl) (Nat.le_of_ble_eq_true rfl) (t_Tree_layOut (d := d + 0) hc ?_)
    refine w_pop rfl ?_
    cases hf
    exact w_return rfl rfl (Nat.le_refl _) (Nat.le_refl _) hQ
def f_Tree_remove (n : Nat) (h : gHp) (a0 : Nat) (x1 : Option Nat) : Option (gHp) := (x1.bind (fun b1 => (bif gtin (gtag (h) b1) [1, 3, 4, 5, 6] then (if (gref (h) b1 2) = none then (bif gtin (gtag (h) a0) [7] then (((bif gtis (gtag (gsetR (h) a0 2 (none)) a0) 7 then f_Tree_forgetWithAllBelow n (gsetR (h) a0 2 (none)) a0 (x1) else none)).bind (fun q3 => (((bif gtis (gtag (q3) a0) 7 then f_Tree_forgetClosedKeys n (q3) a0  else none)).bind (fun q4 => (((bif gtis (gtag (q4) a0) 7 then f_Tree_layOut n (q4) a0  else none)).bind (fun q5 => some (q5.2))))))) else none) else ((gref (h) b1 2).bind (fun b3 => (bif gtin (gtag (h) b3) [3] then (if (gref (h) b3 14) = x1 then ((gref (h) b1 2).bind (fun b5 => (bif gtin (gtag (h) b5) [3] then f_Tree_remove_B36 a0  n (h) (x1) (gref (h) b1 2) (gref (h) b5 15) else none))) else ((gref (h) b1 2).bind (fun b5 => (bif gtin (gtag (h) b5) [3] then f_Tree_remove_B36 a0  n (h) (x1) (gref (h) b1 2) (gref (h) b5 14) else none)))) else none)))) else none)))
set_option maxHeartbeats 4000000 in
set_option maxRecDepth 100000 in
theorem t_Tree_remove {d n a0 : Nat} {h : gHp} {x1 : Option Nat} {res : gHp} {Q : Option gv → gHp → Prop} (hf : f_Tree_remove n h a0 x1 = some res) (hQ : Q (none) res) : gCall (d + 52) m_Tree_remove [.inr (some a0), .inr x1] h Q := by
  unfold f_Tree_remove at hf
  refine g_enter (d := d + 51) (Nat.le_of_ble_eq_true rfl) ?_
  show gWP (gCall (d + 51)) m_Tree_remove Q 0 [some (.inr (some a0)), some (.inr x1), none, none] [] h 0 0
  refine w_aload_n rfl rfl ?_
  obtain ⟨b1, ho, hf⟩ := g_bind hf
  refine x_dr0 ho ?_
  obtain ⟨hg, hf⟩ := g_guard hf
  refine x_getR hg rfl rfl rfl ?_
  refine w_astore_n rfl (Nat.le_of_ble_eq_true rfl) rfl ?_
  refine w_aload_n rfl rfl ?_
  refine w_ifnonnull (t := 17) rfl (by decide) (fun c2 => ?_) (fun c2 => ?_)
  · have c2 : ¬ ((gref (h) b1 2) = none) := c2
    rw [if_neg c2] at hf
    refine w_aload_n rfl rfl ?_
    obtain ⟨b3, ho, hf⟩ := g_bind hf
    refine x_dr0 ho ?_
    obtain ⟨hg, hf⟩ := g_guard hf
    refine x_getR hg rfl rfl rfl ?_
    refine w_aload_n rfl rfl ?_
    refine w_acmp_ne (t := 32) rfl (by decide) (fun c4 => ?_) (fun c4 => ?_)
    · have c4 : ¬ ((gref (h) b3 14) = x1) := c4
      rw [if_neg c4] at hf
      refine w_aload_n rfl rfl ?_
      obtain ⟨b5, ho, hf⟩ := g_bind hf
      refine x_dr0 ho ?_
      obtain ⟨hg, hf⟩ := g_guard hf
      refine x_getR hg rfl rfl rfl ?_
      exact t_Tree_remove_B36  hQ _ _ (x1) (gref (h) b1 2) (gref (h) b5 14) _ hf
    · have c4 : (gref (h) b3 14) = x1 := c4
      rw [if_pos c4] at hf
      refine w_aload_n rfl rfl ?_
      obtain ⟨b5, ho, hf⟩ := g_bind hf
      refine x_dr0 ho ?_
      obtain ⟨hg, hf⟩ := g_guard hf
      refine x_getR hg rfl rfl rfl ?_
      refine w_goto (t := 36) rfl (by decide) ?_
      exact t_Tree_remove_B36  hQ _ _ (x1) (gref (h) b1 2) (gref (h) b5 15) _ hf
  · have c2 : (gref (h) b1 2) = none := c2
    rw [if_pos c2] at hf
    refine w_aload_n rfl rfl ?_
    refine w_null rfl ?_
    obtain ⟨hg, hf⟩ := g_guard hf
    refine x_putR hg rfl rfl (by decide) ?_
    refine w_goto (t := 52) rfl (by decide) ?_
    refine w_aload_n rfl rfl ?_
    refine w_aload_n rfl rfl ?_
    obtain ⟨q3, hc, hf⟩ := g_bind hf
    obtain ⟨hg, hc⟩ := g_guard hc
    refine x_virt 7 [_] _ hg rfl rfl rfl rfl (Nat.le_of_ble_eq_true rfl) rfl (Nat.le_of_ble_eq_true rfl) (Nat.le_of_ble_eq_true rfl) (t_Tree_forgetWithAllBelow (d := d + 49) hc ?_)
    refine w_aload_n rfl rfl ?_
    obtain ⟨q4, hc, hf⟩ := g_bind hf
    obtain ⟨hg, hc⟩ := g_guard hc
    refine x_virt 7 [] _ hg rfl rfl rfl rfl (Nat.le_of_ble_eq_true rfl) rfl (Nat.le_of_ble_eq_true rfl) (Nat.le_of_ble_eq_true rfl) (t_Tree_forgetClosedKeys (d := d + 49) hc ?_)
    refine w_aload_n rfl rfl ?_
    obtain ⟨q5, hc, hf⟩ := g_bind hf
    obtain ⟨hg, hc⟩ := g_guard hc
    refine x_virt 7 [] _ hg rfl rfl rfl rfl (Nat.le_of_ble_eq_true rfl) rfl (Nat.le_of_ble_eq_true rfl) (Nat.le_of_ble_eq_true rfl) (t_Tree_layOut (d := d + 0) hc ?_)
    refine w_pop rfl ?_
    cases hf
    exact w_return rfl rfl (Nat.le_refl _) (Nat.le_refl _) hQ
def f_G_close (n : Nat) (h : gHp) (a0 : Nat) (x1 : Int32) : Option (Int32 × gHp) := (bif gtin (gtag (h) a0) [9] then ((gref (h) a0 0).bind (fun b1 => (((bif gtis (gtag (h) b1) 7 then f_Tree_find n (h) b1 (x1) else none)).bind (fun q2 => (if q2.1 = none then some ((-1 : Int32), q2.2) else (bif gtin (gtag (q2.2) a0) [9] then ((gref (q2.2) a0 0).bind (fun b4 => (((bif gtis (gtag (q2.2) b4) 7 then f_Tree_remove n (q2.2) b4 (q2.1) else none)).bind (fun q5 => (q2.1.bind (fun b6 => (bif gtin (gtag (q5) b6) [1, 3, 4, 5, 6] then some (gint (q5) b6 9, q5) else none))))))) else none)))))) else none)
set_option maxHeartbeats 4000000 in
set_option maxRecDepth 100000 in
theorem t_G_close {d n a0 : Nat} {h : gHp} {x1 : Int32} {res : Int32 × gHp} {Q : Option gv → gHp → Prop} (hf : f_G_close n h a0 x1 = some res) (hQ : Q (some (.inl res.1)) res.2) : gCall (d + 53) m_G_close [.inr (some a0), .inl x1] h Q := by
  unfold f_G_close at hf
  refine g_enter (d := d + 52) (Nat.le_of_ble_eq_true rfl) ?_
  show gWP (gCall (d + 52)) m_G_close Q 0 [some (.inr (some a0)), some (.inl x1), none] [] h 0 0
  refine w_aload_n rfl rfl ?_
  obtain ⟨hg, hf⟩ := g_guard hf
  refine x_getR hg rfl rfl rfl ?_
  refine w_iload_n rfl rfl ?_
  obtain ⟨b1, ho, hf⟩ := g_bind hf
  refine x_dr1 ho ?_
  obtain ⟨q2, hc, hf⟩ := g_bind hf
  obtain ⟨hg, hc⟩ := g_guard hc
  refine x_virt 7 [_] _ hg rfl rfl rfl rfl (Nat.le_of_ble_eq_true rfl) rfl (Nat.le_of_ble_eq_true rfl) (Nat.le_of_ble_eq_true rfl) (t_Tree_find (d := d + 51) hc ?_)
  refine w_astore_n rfl (Nat.le_of_ble_eq_true rfl) rfl ?_
  refine w_aload_n rfl rfl ?_
  refine w_ifnonnull (t := 15) rfl (by decide) (fun c3 => ?_) (fun c3 => ?_)
  · have c3 : ¬ (q2.1 = none) := c3
    rw [if_neg c3] at hf
    refine w_aload_n rfl rfl ?_
    obtain ⟨hg, hf⟩ := g_guard hf
    refine x_getR hg rfl rfl rfl ?_
    refine w_aload_n rfl rfl ?_
    obtain ⟨b4, ho, hf⟩ := g_bind hf
    refine x_dr1 ho ?_
    obtain ⟨q5, hc, hf⟩ := g_bind hf
    obtain ⟨hg, hc⟩ := g_guard hc
    refine x_virt 7 [_] _ hg rfl rfl rfl rfl (Nat.le_of_ble_eq_true rfl) rfl (Nat.le_of_ble_eq_true rfl) (Nat.le_of_ble_eq_true rfl) (t_Tree_remove (d := d + 0) hc ?_)
    refine w_aload_n rfl rfl ?_
    obtain ⟨b6, ho, hf⟩ := g_bind hf
    refine x_dr0 ho ?_
    obtain ⟨hg, hf⟩ := g_guard hf
    refine x_getI hg rfl rfl rfl ?_
    cases hf
    exact w_ireturn rfl (int_ret _) (Nat.le_refl _) (Nat.le_refl _) hQ
  · have c3 : q2.1 = none := c3
    rw [if_pos c3] at hf
    refine w_iconst (v := (-1 : Int32)) rfl (by decide) ?_
    cases hf
    exact w_ireturn rfl (int_ret _) (Nat.le_refl _) (Nat.le_refl _) hQ
def f_Tree_hasPlace (n : Nat) (h : gHp) (a0 : Nat) (x1 : Int32) (x2 : Int32) : Option (Int32 × gHp) := (if x1 < (0 : Int32) then some ((0 : Int32), h) else (bif gtin (gtag (h) a0) [7] then (if (gint (h) a0 3) ≤ x1 then some ((0 : Int32), h) else (if x2 < (0 : Int32) then some ((0 : Int32), h) else (bif gtin (gtag (h) a0) [7] then (if (gint (h) a0 4) ≤ x2 then some ((0 : Int32), h) else some ((1 : Int32), h)) else none))) else none))
set_option maxHeartbeats 4000000 in
set_option maxRecDepth 100000 in
theorem t_Tree_hasPlace {d n a0 : Nat} {h : gHp} {x1 : Int32} {x2 : Int32} {res : Int32 × gHp} {Q : Option gv → gHp → Prop} (hf : f_Tree_hasPlace n h a0 x1 x2 = some res) (hQ : Q (some (.inl res.1)) res.2) : gCall (d + 1) m_Tree_hasPlace [.inr (some a0), .inl x1, .inl x2] h Q := by
  unfold f_Tree_hasPlace at hf
  refine g_enter (d := d + 0) (Nat.le_of_ble_eq_true rfl) ?_
  show gWP (gCall (d + 0)) m_Tree_hasPlace Q 0 [some (.inr (some a0)), some (.inl x1), some (.inl x2)] [] h 0 0
  refine w_iload_n rfl rfl ?_
  refine w_if (t := 28) rfl (by decide) (fun c1 => ?_) (fun c1 => ?_)
  · have c1 : x1 < (0 : Int32) := c1
    rw [if_pos c1] at hf
    refine w_iconst (v := (0 : Int32)) rfl (by decide) ?_
    cases hf
    exact w_ireturn rfl (isZ_ret rfl) (Nat.le_refl _) (Nat.le_refl _) hQ
  · have c1 : ¬ (x1 < (0 : Int32)) := c1
    rw [if_neg c1] at hf
    refine w_iload_n rfl rfl ?_
    refine w_aload_n rfl rfl ?_
    obtain ⟨hg, hf⟩ := g_guard hf
    refine x_getI hg rfl rfl rfl ?_
    refine w_icmp (t := 28) rfl (by decide) (fun c2 => ?_) (fun c2 => ?_)
    · have c2 : (gint (h) a0 3) ≤ x1 := c2
      rw [if_pos c2] at hf
      refine w_iconst (v := (0 : Int32)) rfl (by decide) ?_
      cases hf
      exact w_ireturn rfl (isZ_ret rfl) (Nat.le_refl _) (Nat.le_refl _) hQ
    · have c2 : ¬ ((gint (h) a0 3) ≤ x1) := c2
      rw [if_neg c2] at hf
      refine w_iload_n rfl rfl ?_
      refine w_if (t := 28) rfl (by decide) (fun c3 => ?_) (fun c3 => ?_)
      · have c3 : x2 < (0 : Int32) := c3
        rw [if_pos c3] at hf
        refine w_iconst (v := (0 : Int32)) rfl (by decide) ?_
        cases hf
        exact w_ireturn rfl (isZ_ret rfl) (Nat.le_refl _) (Nat.le_refl _) hQ
      · have c3 : ¬ (x2 < (0 : Int32)) := c3
        rw [if_neg c3] at hf
        refine w_iload_n rfl rfl ?_
        refine w_aload_n rfl rfl ?_
        obtain ⟨hg, hf⟩ := g_guard hf
        refine x_getI hg rfl rfl rfl ?_
        refine w_icmp (t := 28) rfl (by decide) (fun c4 => ?_) (fun c4 => ?_)
        · have c4 : (gint (h) a0 4) ≤ x2 := c4
          rw [if_pos c4] at hf
          refine w_iconst (v := (0 : Int32)) rfl (by decide) ?_
          cases hf
          exact w_ireturn rfl (isZ_ret rfl) (Nat.le_refl _) (Nat.le_refl _) hQ
        · have c4 : ¬ ((gint (h) a0 4) ≤ x2) := c4
          rw [if_neg c4] at hf
          refine w_iconst (v := (1 : Int32)) rfl (by decide) ?_
          refine w_goto (t := 29) rfl (by decide) ?_
          cases hf
          exact w_ireturn rfl (isZ_ret rfl) (Nat.le_refl _) (Nat.le_refl _) hQ
def f_Pair_join (n : Nat) (h : gHp) (a0 : Nat) (x1 : Option Nat) (x2 : Option Nat) : Option (gHp) := (((bif gtis (gtag (h) a0) 3 then f_Pair_measuresFirst n (h) a0  else none)).bind (fun q1 => (if q1.1 = (0 : Int32) then (bif gtin (gtag (q1.2) a0) [3] then (((bif gtis (gtag (gsetR (q1.2) a0 14 (x2)) a0) 3 then f_Pair_measuresFirst n (gsetR (q1.2) a0 14 (x2)) a0  else none)).bind (fun q3 => (if q3.1 = (0 : Int32) then (bif gtin (gtag (q3.2) a0) [3] then some (gsetR (q3.2) a0 15 (x1)) else none) else (bif gtin (gtag (q3.2) a0) [3] then some (gsetR (q3.2) a0 15 (x2)) else none)))) else none) else (bif gtin (gtag (q1.2) a0) [3] then (((bif gtis (gtag (gsetR (q1.2) a0 14 (x1)) a0) 3 then f_Pair_measuresFirst n (gsetR (q1.2) a0 14 (x1)) a0  else none)).bind (fun q3 => (if q3.1 = (0 : Int32) then (bif gtin (gtag (q3.2) a0) [3] then some (gsetR (q3.2) a0 15 (x1)) else none) else (bif gtin (gtag (q3.2) a0) [3] then some (gsetR (q3.2) a0 15 (x2)) else none)))) else none))))
set_option maxHeartbeats 4000000 in
set_option maxRecDepth 100000 in
theorem t_Pair_join {d n a0 : Nat} {h : gHp} {x1 : Option Nat} {x2 : Option Nat} {res : gHp} {Q : Option gv → gHp → Prop} (hf : f_Pair_join n h a0 x1 x2 = some res) (hQ : Q (none) res) : gCall (d + 2) m_Pair_join [.inr (some a0), .inr x1, .inr x2] h Q := by
  unfold f_Pair_join at hf
  refine g_enter (d := d + 1) (Nat.le_of_ble_eq_true rfl) ?_
  show gWP (gCall (d + 1)) m_Pair_join Q 0 [some (.inr (some a0)), some (.inr x1), some (.inr x2)] [] h 0 0
  refine w_aload_n rfl rfl ?_
  refine w_aload_n rfl rfl ?_
  obtain ⟨q1, hc, hf⟩ := g_bind hf
  obtain ⟨hg, hc⟩ := g_guard hc
  refine x_virt 3 [] _ hg rfl rfl rfl rfl (Nat.le_of_ble_eq_true rfl) rfl (Nat.le_of_ble_eq_true rfl) (Nat.le_of_ble_eq_true rfl) (t_Pair_measuresFirst (d := d + 0) hc ?_)
  refine w_if (t := 12) rfl (by decide) (fun c2 => ?_) (fun c2 => ?_)
  · have c2 : q1.1 = (0 : Int32) := c2
    rw [if_pos c2] at hf
    refine w_aload_n rfl rfl ?_
    obtain ⟨hg, hf⟩ := g_guard hf
    refine x_putR hg rfl rfl (by decide) ?_
    refine w_aload_n rfl rfl ?_
    refine w_aload_n rfl rfl ?_
    obtain ⟨q3, hc, hf⟩ := g_bind hf
    obtain ⟨hg, hc⟩ := g_guard hc
    refine x_virt 3 [] _ hg rfl rfl rfl rfl (Nat.le_of_ble_eq_true rfl) rfl (Nat.le_of_ble_eq_true rfl) (Nat.le_of_ble_eq_true rfl) (t_Pair_measuresFirst (d := d + 0) hc ?_)
    refine w_if (t := 28) rfl (by decide) (fun c4 => ?_) (fun c4 => ?_)
    · have c4 : q3.1 = (0 : Int32) := c4
      rw [if_pos c4] at hf
      refine w_aload_n rfl rfl ?_
      obtain ⟨hg, hf⟩ := g_guard hf
      refine x_putR hg rfl rfl (by decide) ?_
      cases hf
      exact w_return rfl rfl (Nat.le_refl _) (Nat.le_refl _) hQ
    · have c4 : ¬ (q3.1 = (0 : Int32)) := c4
      rw [if_neg c4] at hf
      refine w_aload_n rfl rfl ?_
      refine w_goto (t := 29) rfl (by decide) ?_
      obtain ⟨hg, hf⟩ := g_guard hf
      refine x_putR hg rfl rfl (by decide) ?_
      cases hf
      exact w_return rfl rfl (Nat.le_refl _) (Nat.le_refl _) hQ
  · have c2 : ¬ (q1.1 = (0 : Int32)) := c2
    rw [if_neg c2] at hf
    refine w_aload_n rfl rfl ?_
    refine w_goto (t := 13) rfl (by decide) ?_
    obtain ⟨hg, hf⟩ := g_guard hf
    refine x_putR hg rfl rfl (by decide) ?_
    refine w_aload_n rfl rfl ?_
    refine w_aload_n rfl rfl ?_
    obtain ⟨q3, hc, hf⟩ := g_bind hf
    obtain ⟨hg, hc⟩ := g_guard hc
    refine x_virt 3 [] _ hg rfl rfl rfl rfl (Nat.le_of_ble_eq_true rfl) rfl (Nat.le_of_ble_eq_true rfl) (Nat.le_of_ble_eq_true rfl) (t_Pair_measuresFirst (d := d + 0) hc ?_)
    refine w_if (t := 28) rfl (by decide) (fun c4 => ?_) (fun c4 => ?_)
    · have c4 : q3.1 = (0 : Int32) := c4
      rw [if_pos c4] at hf
      refine w_aload_n rfl rfl ?_
      obtain ⟨hg, hf⟩ := g_guard hf
      refine x_putR hg rfl rfl (by decide) ?_
      cases hf
      exact w_return rfl rfl (Nat.le_refl _) (Nat.le_refl _) hQ
    · have c4 : ¬ (q3.1 = (0 : Int32)) := c4
      rw [if_neg c4] at hf
      refine w_aload_n rfl rfl ?_
      refine w_goto (t := 29) rfl (by decide) ?_
      obtain ⟨hg, hf⟩ := g_guard hf
      refine x_putR hg rfl rfl (by decide) ?_
      cases hf
      exact w_return rfl rfl (Nat.le_refl _) (Nat.le_refl _) hQ
def f_Tree_isIn (n : Nat) (h : gHp) (x0 : Option Nat) (x1 : Int32) (x2 : Int32) : Option (Int32 × gHp) := (if x0 = none then some ((0 : Int32), h) else (x0.bind (fun b2 => (bif gtin (gtag (h) b2) [1, 3, 4, 5, 6] then (x0.bind (fun b3 => (bif gtin (gtag (h) b3) [1, 3, 4, 5, 6] then (x0.bind (fun b4 => (((bif gtin (gtag (h) b4) [1, 3, 4, 5, 6] then f_Pane_has n (h) b4 (x1 - (gint (h) b2 3)) (x2 - (gint (h) b3 4)) else none)).bind (fun q5 => (if q5.1 = (0 : Int32) then some ((0 : Int32), q5.2) else some ((1 : Int32), q5.2)))))) else none))) else none))))
set_option maxHeartbeats 4000000 in
set_option maxRecDepth 100000 in
theorem t_Tree_isIn {d n : Nat} {h : gHp} {x0 : Option Nat} {x1 : Int32} {x2 : Int32} {res : Int32 × gHp} {Q : Option gv → gHp → Prop} (hf : f_Tree_isIn n h x0 x1 x2 = some res) (hQ : Q (some (.inl res.1)) res.2) : gCall (d + 2) m_Tree_isIn [.inr x0, .inl x1, .inl x2] h Q := by
  unfold f_Tree_isIn at hf
  refine g_enter (d := d + 1) (Nat.le_of_ble_eq_true rfl) ?_
  show gWP (gCall (d + 1)) m_Tree_isIn Q 0 [some (.inr x0), some (.inl x1), some (.inl x2)] [] h 0 0
  refine w_aload_n rfl rfl ?_
  refine w_ifnull (t := 27) rfl (by decide) (fun c1 => ?_) (fun c1 => ?_)
  · have c1 : x0 = none := c1
    rw [if_pos c1] at hf
    refine w_iconst (v := (0 : Int32)) rfl (by decide) ?_
    cases hf
    exact w_ireturn rfl (isZ_ret rfl) (Nat.le_refl _) (Nat.le_refl _) hQ
  · have c1 : ¬ (x0 = none) := c1
    rw [if_neg c1] at hf
    refine w_aload_n rfl rfl ?_
    refine w_iload_n rfl rfl ?_
    refine w_aload_n rfl rfl ?_
    obtain ⟨b2, ho, hf⟩ := g_bind hf
    refine x_dr0 ho ?_
    obtain ⟨hg, hf⟩ := g_guard hf
    refine x_getI hg rfl rfl rfl ?_
    refine w_isub rfl ?_
    refine w_iload_n rfl rfl ?_
    refine w_aload_n rfl rfl ?_
    obtain ⟨b3, ho, hf⟩ := g_bind hf
    refine x_dr0 ho ?_
    obtain ⟨hg, hf⟩ := g_guard hf
    refine x_getI hg rfl rfl rfl ?_
    refine w_isub rfl ?_
    obtain ⟨b4, ho, hf⟩ := g_bind hf
    refine x_dr2 ho ?_
    obtain ⟨q5, hc, hf⟩ := g_bind hf
    obtain ⟨hg, hc⟩ := g_guard hc
    refine x_virtG [1, 3, 4, 5, 6] [_, _] _ hg rfl rfl rfl rfl (Nat.le_of_ble_eq_true rfl) (List.forall_mem_cons.mpr ⟨⟨_, rfl, rfl⟩, List.forall_mem_cons.mpr ⟨⟨_, rfl, rfl⟩, List.forall_mem_cons.mpr ⟨⟨_, rfl, rfl⟩, List.forall_mem_cons.mpr ⟨⟨_, rfl, rfl⟩, List.forall_mem_cons.mpr ⟨⟨_, rfl, rfl⟩, fun _ h => absurd h List.not_mem_nil⟩⟩⟩⟩⟩) (Nat.le_of_ble_eq_true rfl) (Nat.le_of_ble_eq_true rfl) (t_Pane_has (d := d + 0) hc ?_)
    refine w_if (t := 27) rfl (by decide) (fun c6 => ?_) (fun c6 => ?_)
    · have c6 : q5.1 = (0 : Int32) := c6
      rw [if_pos c6] at hf
      refine w_iconst (v := (0 : Int32)) rfl (by decide) ?_
      cases hf
      exact w_ireturn rfl (isZ_ret rfl) (Nat.le_refl _) (Nat.le_refl _) hQ
    · have c6 : ¬ (q5.1 = (0 : Int32)) := c6
      rw [if_neg c6] at hf
      refine w_iconst (v := (1 : Int32)) rfl (by decide) ?_
      refine w_goto (t := 28) rfl (by decide) ?_
      cases hf
      exact w_ireturn rfl (isZ_ret rfl) (Nat.le_refl _) (Nat.le_refl _) hQ
def f_G_resize (n : Nat) (h : gHp) (a0 : Nat) (x1 : Int32) (x2 : Int32) : Option (Int32 × gHp) := (bif gtin (gtag (h) a0) [9] then ((gref (h) a0 0).bind (fun b1 => (((bif gtis (gtag (h) b1) 7 then f_Tree_setScreen n (h) b1 (x1) (x2) else none)).bind (fun q2 => (bif gtin (gtag (q2) a0) [9] then (bif gtin (gtag (q2) a0) [9] then ((gref (q2) a0 0).bind (fun b3 => (bif gtin (gtag (q2) b3) [7] then (bif gtin (gtag (q2) a0) [9] then ((gref (q2) a0 0).bind (fun b4 => (bif gtin (gtag (q2) b4) [7] then ((gref (q2) a0 1).bind (fun b5 => (((bif gtis (gtag (q2) b5) 0 then f_Events_add n (q2) b5 ((4 : Int32)) ((0 : Int32)) (gint (q2) b3 3) (gint (q2) b4 4) else none)).bind (fun q6 => (bif gtin (gtag (q6) a0) [9] then ((gref (q6) a0 0).bind (fun b7 => (((bif gtis (gtag (q6) b7) 7 then f_Tree_layOut n (q6) b7  else none)).bind (fun q8 => some (q8.1, q8.2))))) else none))))) else none))) else none) else none))) else none) else none))))) else none)
set_option maxHeartbeats 4000000 in
set_option maxRecDepth 100000 in
theorem t_G_resize {d n a0 : Nat} {h : gHp} {x1 : Int32} {x2 : Int32} {res : Int32 × gHp} {Q : Option gv → gHp → Prop} (hf : f_G_resize n h a0 x1 x2 = some res) (hQ : Q (some (.inl res.1)) res.2) : gCall (d + 52) m_G_resize [.inr (some a0), .inl x1, .inl x2] h Q := by
  unfold f_G_resize at hf
  refine g_enter (d := d + 51) (Nat.le_of_ble_eq_true rfl) ?_
  show gWP (gCall (d + 51)) m_G_resize Q 0 [some (.inr (some a0)), some (.inl x1), some (.inl x2)] [] h 0 0
  refine w_aload_n rfl rfl ?_
  obtain ⟨hg, hf⟩ := g_guard hf
  refine x_getR hg rfl rfl rfl ?_
  refine w_iload_n rfl rfl ?_
  refine w_iload_n rfl rfl ?_
  obtain ⟨b1, ho, hf⟩ := g_bind hf
  refine x_dr2 ho ?_
  obtain ⟨q2, hc, hf⟩ := g_bind hf
  obtain ⟨hg, hc⟩ := g_guard hc
  refine x_virt 7 [_, _] _ hg rfl rfl rfl rfl (Nat.le_of_ble_eq_true rfl) rfl (Nat.le_of_ble_eq_true rfl) (Nat.le_of_ble_eq_true rfl) (t_Tree_setScreen (d := d + 50) hc ?_)
  refine w_aload_n rfl rfl ?_
  obtain ⟨hg, hf⟩ := g_guard hf
  refine x_getR hg rfl rfl rfl ?_
  refine w_iconst (v := (4 : Int32)) rfl (by decide) ?_
  refine w_iconst (v := (0 : Int32)) rfl (by decide) ?_
  refine w_aload_n rfl rfl ?_
  obtain ⟨hg, hf⟩ := g_guard hf
  refine x_getR hg rfl rfl rfl ?_
  obtain ⟨b3, ho, hf⟩ := g_bind hf
  refine x_dr0 ho ?_
  obtain ⟨hg, hf⟩ := g_guard hf
  refine x_getI hg rfl rfl rfl ?_
  refine w_aload_n rfl rfl ?_
  obtain ⟨hg, hf⟩ := g_guard hf
  refine x_getR hg rfl rfl rfl ?_
  obtain ⟨b4, ho, hf⟩ := g_bind hf
  refine x_dr0 ho ?_
  obtain ⟨hg, hf⟩ := g_guard hf
  refine x_getI hg rfl rfl rfl ?_
  obtain ⟨b5, ho, hf⟩ := g_bind hf
  refine x_dr4 ho ?_
  obtain ⟨q6, hc, hf⟩ := g_bind hf
  obtain ⟨hg, hc⟩ := g_guard hc
  refine x_virt 0 [_, _, _, _] _ hg rfl rfl rfl rfl (Nat.le_of_ble_eq_true rfl) rfl (Nat.le_of_ble_eq_true rfl) (Nat.le_of_ble_eq_true rfl) (t_Events_add (d := d + 48) hc ?_)
  refine w_aload_n rfl rfl ?_
  obtain ⟨hg, hf⟩ := g_guard hf
  refine x_getR hg rfl rfl rfl ?_
  obtain ⟨b7, ho, hf⟩ := g_bind hf
  refine x_dr0 ho ?_
  obtain ⟨q8, hc, hf⟩ := g_bind hf
  obtain ⟨hg, hc⟩ := g_guard hc
  refine x_virt 7 [] _ hg rfl rfl rfl rfl (Nat.le_of_ble_eq_true rfl) rfl (Nat.le_of_ble_eq_true rfl) (Nat.le_of_ble_eq_true rfl) (t_Tree_layOut (d := d + 0) hc ?_)
  cases hf
  exact w_ireturn rfl (int_ret _) (Nat.le_refl _) (Nat.le_refl _) hQ
def f_G_lines (n : Nat) (h : gHp) (a0 : Nat) (x1 : Int32) : Option (Int32 × gHp) := (bif gtin (gtag (h) a0) [9] then ((gref (h) a0 0).bind (fun b1 => (((bif gtis (gtag (h) b1) 7 then f_Tree_find n (h) b1 (x1) else none)).bind (fun q2 => (if q2.1 = none then some ((-1 : Int32), q2.2) else ((gInst (q2.2) (q2.1) "GlkPanes$Text").bind (fun i4 => (if i4 = (0 : Int32) then some ((-3 : Int32), q2.2) else (bif gCas (q2.2) (q2.1) "GlkPanes$Text" then (q2.1.bind (fun b6 => (((bif gtis (gtag (q2.2) b6) 6 then f_Text_countLines n (q2.2) b6  else none)).bind (fun q7 => some (q7.1, q7.2))))) else none))))))))) else none)
set_option maxHeartbeats 4000000 in
set_option maxRecDepth 100000 in
theorem t_G_lines {d n a0 : Nat} {h : gHp} {x1 : Int32} {res : Int32 × gHp} {Q : Option gv → gHp → Prop} (hf : f_G_lines n h a0 x1 = some res) (hQ : Q (some (.inl res.1)) res.2) : gCall (d + 7) m_G_lines [.inr (some a0), .inl x1] h Q := by
  unfold f_G_lines at hf
  refine g_enter (d := d + 6) (Nat.le_of_ble_eq_true rfl) ?_
  show gWP (gCall (d + 6)) m_G_lines Q 0 [some (.inr (some a0)), some (.inl x1), none, none] [] h 0 0
  refine w_aload_n rfl rfl ?_
  obtain ⟨hg, hf⟩ := g_guard hf
  refine x_getR hg rfl rfl rfl ?_
  refine w_iload_n rfl rfl ?_
  obtain ⟨b1, ho, hf⟩ := g_bind hf
  refine x_dr1 ho ?_
  obtain ⟨q2, hc, hf⟩ := g_bind hf
  obtain ⟨hg, hc⟩ := g_guard hc
  refine x_virt 7 [_] _ hg rfl rfl rfl rfl (Nat.le_of_ble_eq_true rfl) rfl (Nat.le_of_ble_eq_true rfl) (Nat.le_of_ble_eq_true rfl) (t_Tree_find (d := d + 5) hc ?_)
  refine w_astore_n rfl (Nat.le_of_ble_eq_true rfl) rfl ?_
  refine w_aload_n rfl rfl ?_
  refine w_ifnonnull (t := 15) rfl (by decide) (fun c3 => ?_) (fun c3 => ?_)
  · have c3 : ¬ (q2.1 = none) := c3
    rw [if_neg c3] at hf
    refine w_aload_n rfl rfl ?_
    obtain ⟨i4, hg, hf⟩ := g_bind hf
    refine x_inst hg rfl rfl ?_
    refine w_if (t := 34) rfl (by decide) (fun c5 => ?_) (fun c5 => ?_)
    · have c5 : i4 = (0 : Int32) := c5
      rw [if_pos c5] at hf
      refine w_bipush (v := (-3 : Int32)) rfl (by decide) ?_
      cases hf
      exact w_ireturn rfl (int_ret _) (Nat.le_refl _) (Nat.le_refl _) hQ
    · have c5 : ¬ (i4 = (0 : Int32)) := c5
      rw [if_neg c5] at hf
      refine w_aload_n rfl rfl ?_
      obtain ⟨hg, hf⟩ := g_guard hf
      refine x_cast hg rfl rfl ?_
      refine w_astore_n rfl (Nat.le_of_ble_eq_true rfl) rfl ?_
      refine w_aload_n rfl rfl ?_
      obtain ⟨b6, ho, hf⟩ := g_bind hf
      refine x_dr0 ho ?_
      obtain ⟨q7, hc, hf⟩ := g_bind hf
      obtain ⟨hg, hc⟩ := g_guard hc
      refine x_virt 6 [] _ hg rfl rfl rfl rfl (Nat.le_of_ble_eq_true rfl) rfl (Nat.le_of_ble_eq_true rfl) (Nat.le_of_ble_eq_true rfl) (t_Text_countLines (d := d + 0) hc ?_)
      refine w_goto (t := 36) rfl (by decide) ?_
      cases hf
      exact w_ireturn rfl (int_ret _) (Nat.le_refl _) (Nat.le_refl _) hQ
  · have c3 : q2.1 = none := c3
    rw [if_pos c3] at hf
    refine w_iconst (v := (-1 : Int32)) rfl (by decide) ?_
    cases hf
    exact w_ireturn rfl (int_ret _) (Nat.le_refl _) (Nat.le_refl _) hQ
def f_Text_dropOldest_B55 (a0 : Nat) : Nat → gHp → Int32 → Int32 → Option (gHp)
  | 0, _, _, _ => none
  | n + 1, h, x1, x2 => (bif gtin (gtag (h) a0) [6] then (if (gint (h) a0 14) ≤ x2 then some (h) else (bif gtin (gtag (h) a0) [6] then (bif gtin (gtag (h) a0) [6] then ((gref (h) a0 13).bind (fun b2 => (bif gArr (gtag (h) b2) 20 (x2 + x1) then ((gref (h) a0 13).bind (fun b3 => (bif gArr (gtag (h) b3) 20 (x2) then f_Text_dropOldest_B55 a0 n (gsetI (h) b3 (ix (x2)) (gint (h) b2 (ix (x2 + x1)))) (x1) (x2 + (1 : Int32)) else none))) else none))) else none) else none)) else none)
set_option maxHeartbeats 4000000 in
set_option maxRecDepth 100000 in
theorem t_Text_dropOldest_B55 {d a0 : Nat} {Q : Option gv → gHp → Prop} {res : gHp} (hQ : Q (none) res) : ∀ (n : Nat) (h : gHp) (x1 : Int32) (x2 : Int32), f_Text_dropOldest_B55 a0 n h x1 x2  = some res → gWP (gCall (d + 1)) m_Text_dropOldest Q 55 [some (.inr (some a0)), some (.inl x1), some (.inl x2)] [] h 0 0 := by
  intro n
  induction n with
  | zero =>
    intro h x1 x2   hf
    cases hf
  | succ n ih =>
    intro h x1 x2   hf
    unfold f_Text_dropOldest_B55 at hf
    refine w_iload_n rfl rfl ?_
    refine w_aload_n rfl rfl ?_
    obtain ⟨hg, hf⟩ := g_guard hf
    refine x_getI hg rfl rfl rfl ?_
    refine w_icmp (t := 83) rfl (by decide) (fun c1 => ?_) (fun c1 => ?_)
    · have c1 : (gint (h) a0 14) ≤ x2 := c1
      rw [if_pos c1] at hf
      cases hf
      exact w_return rfl rfl (Nat.le_refl _) (Nat.le_refl _) hQ
    · have c1 : ¬ ((gint (h) a0 14) ≤ x2) := c1
      rw [if_neg c1] at hf
      refine w_aload_n rfl rfl ?_
      obtain ⟨hg, hf⟩ := g_guard hf
      refine x_getR hg rfl rfl rfl ?_
      refine w_iload_n rfl rfl ?_
      refine w_aload_n rfl rfl ?_
      obtain ⟨hg, hf⟩ := g_guard hf
      refine x_getR hg rfl rfl rfl ?_
      refine w_iload_n rfl rfl ?_
      refine w_iload_n rfl rfl ?_
      refine w_iadd rfl ?_
      obtain ⟨b2, ho, hf⟩ := g_bind hf
      refine x_dr1 ho ?_
      obtain ⟨hg, hf⟩ := g_guard hf
      refine x_ld hg rfl ?_
      obtain ⟨b3, ho, hf⟩ := g_bind hf
      refine x_dr2 ho ?_
      obtain ⟨hg, hf⟩ := g_guard hf
      refine x_st hg rfl ?_
      refine w_iinc (v := (1 : Int32)) rfl rfl (by decide) rfl ?_
      refine w_goto (t := 55) rfl (by decide) ?_
      exact ih _ (x1) (x2 + (1 : Int32))  hf
def f_Text_dropOldest_B39 (a0 : Nat) (n : Nat) (h : gHp) (x1 : Int32) : Option (gHp) := (bif gtin (gtag (h) a0) [6] then (bif gtin (gtag (h) a0) [6] then f_Text_dropOldest_B55 a0  n (gsetI (h) a0 14 ((if (0 : Int32) < ((gint (h) a0 14) - x1) then ((gint (h) a0 14) - x1) else (0 : Int32)))) (x1) ((0 : Int32))  else none) else none)
set_option maxHeartbeats 4000000 in
set_option maxRecDepth 100000 in
theorem t_Text_dropOldest_B39 {d a0 : Nat} {Q : Option gv → gHp → Prop} {res : gHp} (hQ : Q (none) res) (n : Nat) (h : gHp) (x1 : Int32) (u2 : Option gv) (hf : f_Text_dropOldest_B39 a0 n h x1  = some res) : gWP (gCall (d + 1)) m_Text_dropOldest Q 39 [some (.inr (some a0)), some (.inl x1), u2] [] h 0 0 := by
  unfold f_Text_dropOldest_B39 at hf
  refine w_aload_n rfl rfl ?_
  refine w_iconst (v := (0 : Int32)) rfl (by decide) ?_
  refine w_aload_n rfl rfl ?_
  obtain ⟨hg, hf⟩ := g_guard hf
  refine x_getI hg rfl rfl rfl ?_
  refine w_iload_n rfl rfl ?_
  refine w_isub rfl ?_
  refine x_math rfl rfl (Nat.le_of_ble_eq_true rfl) (Nat.le_of_ble_eq_true rfl) (Nat.le_of_ble_eq_true rfl) ?_
  obtain ⟨hg, hf⟩ := g_guard hf
  refine x_putI hg rfl rfl (by decide) ?_
  refine w_iconst (v := (0 : Int32)) rfl (by decide) ?_
  refine w_istore_n rfl (Nat.le_of_ble_eq_true rfl) rfl ?_
  exact t_Text_dropOldest_B55  hQ _ _ (x1) ((0 : Int32))   hf
def f_Text_dropOldest_B4 (a0 : Nat) : Nat → gHp → Int32 → Int32 → Option (gHp)
  | 0, _, _, _ => none
  | n + 1, h, x1, x2 => (bif gtin (gtag (h) a0) [6] then (if (gint (h) a0 14) ≤ x2 then f_Text_dropOldest_B39 a0  n (h) (x1)  else (bif gtin (gtag (h) a0) [6] then ((gref (h) a0 13).bind (fun b2 => (bif gArr (gtag (h) b2) 20 (x2) then ((f_G_signOf n (h) (gint (h) b2 (ix (x2)))).bind (fun q3 => (if q3.1 = (10 : Int32) then f_Text_dropOldest_B39 a0  n (q3.2) (x2 + (1 : Int32))  else f_Text_dropOldest_B4 a0 n (q3.2) (x1) (x2 + (1 : Int32))))) else none))) else none)) else none)
set_option maxHeartbeats 4000000 in
set_option maxRecDepth 100000 in
theorem t_Text_dropOldest_B4 {d a0 : Nat} {Q : Option gv → gHp → Prop} {res : gHp} (hQ : Q (none) res) : ∀ (n : Nat) (h : gHp) (x1 : Int32) (x2 : Int32), f_Text_dropOldest_B4 a0 n h x1 x2  = some res → gWP (gCall (d + 1)) m_Text_dropOldest Q 4 [some (.inr (some a0)), some (.inl x1), some (.inl x2)] [] h 0 0 := by
  intro n
  induction n with
  | zero =>
    intro h x1 x2   hf
    cases hf
  | succ n ih =>
    intro h x1 x2   hf
    unfold f_Text_dropOldest_B4 at hf
    refine w_iload_n rfl rfl ?_
    refine w_aload_n rfl rfl ?_
    obtain ⟨hg, hf⟩ := g_guard hf
    refine x_getI hg rfl rfl rfl ?_
    refine w_icmp (t := 39) rfl (by decide) (fun c1 => ?_) (fun c1 => ?_)
    · have c1 : (gint (h) a0 14) ≤ x2 := c1
      rw [if_pos c1] at hf
      exact t_Text_dropOldest_B39  hQ _ _ (x1)  _ hf
    · have c1 : ¬ ((gint (h) a0 14) ≤ x2) := c1
      rw [if_neg c1] at hf
      refine w_aload_n rfl rfl ?_
      obtain ⟨hg, hf⟩ := g_guard hf
      refine x_getR hg rfl rfl rfl ?_
      refine w_iload_n rfl rfl ?_
      obtain ⟨b2, ho, hf⟩ := g_bind hf
      refine x_dr1 ho ?_
      obtain ⟨hg, hf⟩ := g_guard hf
      refine x_ld hg rfl ?_
      obtain ⟨q3, hc, hf⟩ := g_bind hf
      refine w_static [_] _ rfl rfl rfl rfl (Nat.le_of_ble_eq_true rfl) (Nat.le_of_ble_eq_true rfl) (Nat.le_of_ble_eq_true rfl) (t_G_signOf (d := d + 0) hc ?_)
      refine w_bipush (v := (10 : Int32)) rfl (by decide) ?_
      refine w_icmp (t := 33) rfl (by decide) (fun c4 => ?_) (fun c4 => ?_)
      · have c4 : ¬ (q3.1 = (10 : Int32)) := c4
        rw [if_neg c4] at hf
        refine w_iinc (v := (1 : Int32)) rfl rfl (by decide) rfl ?_
        refine w_goto (t := 4) rfl (by decide) ?_
        exact ih _ (x1) (x2 + (1 : Int32))  hf
      · have c4 : q3.1 = (10 : Int32) := Classical.not_not.mp c4
        rw [if_pos c4] at hf
        refine w_iload_n rfl rfl ?_
        refine w_iconst (v := (1 : Int32)) rfl (by decide) ?_
        refine w_iadd rfl ?_
        refine w_istore_n rfl (Nat.le_of_ble_eq_true rfl) rfl ?_
        refine w_goto (t := 39) rfl (by decide) ?_
        exact t_Text_dropOldest_B39  hQ _ _ (x2 + (1 : Int32))  _ hf
def f_Text_dropOldest (n : Nat) (h : gHp) (a0 : Nat) : Option (gHp) := f_Text_dropOldest_B4 a0  n (h) ((1 : Int32)) ((0 : Int32)) 
set_option maxHeartbeats 4000000 in
set_option maxRecDepth 100000 in
theorem t_Text_dropOldest {d n a0 : Nat} {h : gHp} {res : gHp} {Q : Option gv → gHp → Prop} (hf : f_Text_dropOldest n h a0  = some res) (hQ : Q (none) res) : gCall (d + 2) m_Text_dropOldest [.inr (some a0)] h Q := by
  unfold f_Text_dropOldest at hf
  refine g_enter (d := d + 1) (Nat.le_of_ble_eq_true rfl) ?_
  show gWP (gCall (d + 1)) m_Text_dropOldest Q 0 [some (.inr (some a0)), none, none] [] h 0 0
  refine w_iconst (v := (1 : Int32)) rfl (by decide) ?_
  refine w_istore_n rfl (Nat.le_of_ble_eq_true rfl) rfl ?_
  refine w_iconst (v := (0 : Int32)) rfl (by decide) ?_
  refine w_istore_n rfl (Nat.le_of_ble_eq_true rfl) rfl ?_
  exact t_Text_dropOldest_B4  hQ _ _ ((1 : Int32)) ((0 : Int32))   hf
def f_Text_put_B16 (a0 : Nat) (n : Nat) (h : gHp) (x1 : Int32) : Option (gHp) := (bif gtin (gtag (h) a0) [6] then (bif gtin (gtag (h) a0) [6] then ((gref (h) a0 13).bind (fun b1 => ((gtag (h) b1).bind (fun t2 => (bif (Nat.ble 20 t2.1 && Nat.ble t2.1 24) then (if (Int32.ofNat t2.2) ≤ (gint (h) a0 14) then some (h) else (bif gtin (gtag (h) a0) [6] then (bif gtin (gtag (h) a0) [6] then ((gref (h) a0 13).bind (fun b4 => (bif gArr (gtag (h) b4) 20 (gint (h) a0 14) then (bif gtin (gtag (gsetI (h) b4 (ix (gint (h) a0 14)) (x1)) a0) [6] then (bif gtin (gtag (gsetI (h) b4 (ix (gint (h) a0 14)) (x1)) a0) [6] then some (gsetI (gsetI (h) b4 (ix (gint (h) a0 14)) (x1)) a0 14 ((gint (gsetI (h) b4 (ix (gint (h) a0 14)) (x1)) a0 14) + (1 : Int32))) else none) else none) else none))) else none) else none)) else none))))) else none) else none)
set_option maxHeartbeats 4000000 in
set_option maxRecDepth 100000 in
theorem t_Text_put_B16 {d a0 : Nat} {Q : Option gv → gHp → Prop} {res : gHp} (hQ : Q (none) res) (n : Nat) (h : gHp) (x1 : Int32) (hf : f_Text_put_B16 a0 n h x1  = some res) : gWP (gCall (d + 2)) m_Text_put Q 16 [some (.inr (some a0)), some (.inl x1)] [] h 0 0 := by
  unfold f_Text_put_B16 at hf
  refine w_aload_n rfl rfl ?_
  obtain ⟨hg, hf⟩ := g_guard hf
  refine x_getI hg rfl rfl rfl ?_
  refine w_aload_n rfl rfl ?_
  obtain ⟨hg, hf⟩ := g_guard hf
  refine x_getR hg rfl rfl rfl ?_
  obtain ⟨b1, ho, hf⟩ := g_bind hf
  refine x_dr0 ho ?_
  obtain ⟨t2, ht, hf⟩ := g_bind hf
  obtain ⟨hg, hf⟩ := g_guard hf
  refine x_len ht hg rfl ?_
  refine w_icmp (t := 48) rfl (by decide) (fun c3 => ?_) (fun c3 => ?_)
  · have c3 : (Int32.ofNat t2.2) ≤ (gint (h) a0 14) := c3
    rw [if_pos c3] at hf
    cases hf
    exact w_return rfl rfl (Nat.le_refl _) (Nat.le_refl _) hQ
  · have c3 : ¬ ((Int32.ofNat t2.2) ≤ (gint (h) a0 14)) := c3
    rw [if_neg c3] at hf
    refine w_aload_n rfl rfl ?_
    obtain ⟨hg, hf⟩ := g_guard hf
    refine x_getR hg rfl rfl rfl ?_
    refine w_aload_n rfl rfl ?_
    obtain ⟨hg, hf⟩ := g_guard hf
    refine x_getI hg rfl rfl rfl ?_
    refine w_iload_n rfl rfl ?_
    obtain ⟨b4, ho, hf⟩ := g_bind hf
    refine x_dr2 ho ?_
    obtain ⟨hg, hf⟩ := g_guard hf
    refine x_st hg rfl ?_
    refine w_aload_n rfl rfl ?_
    refine w_dup rfl ?_
    obtain ⟨hg, hf⟩ := g_guard hf
    refine x_getI hg rfl rfl rfl ?_
    refine w_iconst (v := (1 : Int32)) rfl (by decide) ?_
    refine w_iadd rfl ?_
    obtain ⟨hg, hf⟩ := g_guard hf
    refine x_putI hg rfl rfl (by decide) ?_
    cases hf
    exact w_return rfl rfl (Nat.le_refl _) (Nat.le_refl _) hQ
def f_Text_put (n : Nat) (h : gHp) (a0 : Nat) (x1 : Int32) : Option (gHp) := (bif gtin (gtag (h) a0) [6] then (bif gtin (gtag (h) a0) [6] then ((gref (h) a0 13).bind (fun b1 => ((gtag (h) b1).bind (fun t2 => (bif (Nat.ble 20 t2.1 && Nat.ble t2.1 24) then (if (gint (h) a0 14) < (Int32.ofNat t2.2) then f_Text_put_B16 a0  n (h) (x1)  else (((bif gtis (gtag (h) a0) 6 then f_Text_dropOldest n (h) a0  else none)).bind (fun q4 => f_Text_put_B16 a0  n (q4) (x1) ))) else none))))) else none) else none)
set_option maxHeartbeats 4000000 in
set_option maxRecDepth 100000 in
theorem t_Text_put {d n a0 : Nat} {h : gHp} {x1 : Int32} {res : gHp} {Q : Option gv → gHp → Prop} (hf : f_Text_put n h a0 x1 = some res) (hQ : Q (none) res) : gCall (d + 3) m_Text_put [.inr (some a0), .inl x1] h Q := by
  unfold f_Text_put at hf
  refine g_enter (d := d + 2) (Nat.le_of_ble_eq_true rfl) ?_
  show gWP (gCall (d + 2)) m_Text_put Q 0 [some (.inr (some a0)), some (.inl x1)] [] h 0 0
  refine w_aload_n rfl rfl ?_
  obtain ⟨hg, hf⟩ := g_guard hf
  refine x_getI hg rfl rfl rfl ?_
  refine w_aload_n rfl rfl ?_
  obtain ⟨hg, hf⟩ := g_guard hf
  refine x_getR hg rfl rfl rfl ?_
  obtain ⟨b1, ho, hf⟩ := g_bind hf
  refine x_dr0 ho ?_
  obtain ⟨t2, ht, hf⟩ := g_bind hf
  obtain ⟨hg, hf⟩ := g_guard hf
  refine x_len ht hg rfl ?_
  refine w_icmp (t := 16) rfl (by decide) (fun c3 => ?_) (fun c3 => ?_)
  · have c3 : (gint (h) a0 14) < (Int32.ofNat t2.2) := c3
    rw [if_pos c3] at hf
    exact t_Text_put_B16  hQ _ _ (x1)   hf
  · have c3 : ¬ ((gint (h) a0 14) < (Int32.ofNat t2.2)) := c3
    rw [if_neg c3] at hf
    refine w_aload_n rfl rfl ?_
    obtain ⟨q4, hc, hf⟩ := g_bind hf
    obtain ⟨hg, hc⟩ := g_guard hc
    refine x_virt 6 [] _ hg rfl rfl rfl rfl (Nat.le_of_ble_eq_true rfl) rfl (Nat.le_of_ble_eq_true rfl) (Nat.le_of_ble_eq_true rfl) (t_Text_dropOldest (d := d + 0) hc ?_)
    exact t_Text_put_B16  hQ _ _ (x1)   hf
def f_Text_putLine_B2 (a0 : Nat) : Nat → gHp → Int32 → Option (gHp)
  | 0, _, _ => none
  | n + 1, h, x1 => (bif gtin (gtag (h) a0) [6] then ((gref (h) a0 12).bind (fun b1 => (bif gtin (gtag (h) b1) [2] then (if (gint (h) b1 2) ≤ x1 then ((f_G_cell n (h) ((10 : Int32)) ((8 : Int32)) ((0 : Int32))).bind (fun q3 => (((bif gtis (gtag (q3.2) a0) 6 then f_Text_put n (q3.2) a0 (q3.1) else none)).bind (fun q4 => some (q4))))) else (bif gtin (gtag (h) a0) [6] then ((gref (h) a0 12).bind (fun b3 => (((bif gtis (gtag (h) b3) 2 then f_Line_cellOf n (h) b3 (x1) else none)).bind (fun q4 => (((bif gtis (gtag (q4.2) a0) 6 then f_Text_put n (q4.2) a0 (q4.1) else none)).bind (fun q5 => f_Text_putLine_B2 a0 n (q5) (x1 + (1 : Int32)))))))) else none)) else none))) else none)
set_option maxHeartbeats 4000000 in
set_option maxRecDepth 100000 in
theorem t_Text_putLine_B2 {d a0 : Nat} {Q : Option gv → gHp → Prop} {res : gHp} (hQ : Q (none) res) : ∀ (n : Nat) (h : gHp) (x1 : Int32), f_Text_putLine_B2 a0 n h x1  = some res → gWP (gCall (d + 3)) m_Text_putLine Q 2 [some (.inr (some a0)), some (.inl x1)] [] h 0 0 := by
  intro n
  induction n with
  | zero =>
    intro h x1   hf
    cases hf
  | succ n ih =>
    intro h x1   hf
    unfold f_Text_putLine_B2 at hf
    refine w_iload_n rfl rfl ?_
    refine w_aload_n rfl rfl ?_
    obtain ⟨hg, hf⟩ := g_guard hf
    refine x_getR hg rfl rfl rfl ?_
    obtain ⟨b1, ho, hf⟩ := g_bind hf
    refine x_dr0 ho ?_
    obtain ⟨hg, hf⟩ := g_guard hf
    refine x_getI hg rfl rfl rfl ?_
    refine w_icmp (t := 31) rfl (by decide) (fun c2 => ?_) (fun c2 => ?_)
    · have c2 : (gint (h) b1 2) ≤ x1 := c2
      rw [if_pos c2] at hf
      refine w_aload_n rfl rfl ?_
      refine w_bipush (v := (10 : Int32)) rfl (by decide) ?_
      refine w_bipush (v := (8 : Int32)) rfl (by decide) ?_
      refine w_iconst (v := (0 : Int32)) rfl (by decide) ?_
      obtain ⟨q3, hc, hf⟩ := g_bind hf
      refine w_static [_, _, _] _ rfl rfl rfl rfl (Nat.le_of_ble_eq_true rfl) (Nat.le_of_ble_eq_true rfl) (Nat.le_of_ble_eq_true rfl) (t_G_cell (d := d + 2) hc ?_)
      obtain ⟨q4, hc, hf⟩ := g_bind hf
      obtain ⟨hg, hc⟩ := g_guard hc
      refine x_virt 6 [_] _ hg rfl rfl rfl rfl (Nat.le_of_ble_eq_true rfl) rfl (Nat.le_of_ble_eq_true rfl) (Nat.le_of_ble_eq_true rfl) (t_Text_put (d := d + 0) hc ?_)
      cases hf
      exact w_return rfl rfl (Nat.le_refl _) (Nat.le_refl _) hQ
    · have c2 : ¬ ((gint (h) b1 2) ≤ x1) := c2
      rw [if_neg c2] at hf
      refine w_aload_n rfl rfl ?_
      refine w_aload_n rfl rfl ?_
      obtain ⟨hg, hf⟩ := g_guard hf
      refine x_getR hg rfl rfl rfl ?_
      refine w_iload_n rfl rfl ?_
      obtain ⟨b3, ho, hf⟩ := g_bind hf
      refine x_dr1 ho ?_
      obtain ⟨q4, hc, hf⟩ := g_bind hf
      obtain ⟨hg, hc⟩ := g_guard hc
      refine x_virt 2 [_] _ hg rfl rfl rfl rfl (Nat.le_of_ble_eq_true rfl) rfl (Nat.le_of_ble_eq_true rfl) (Nat.le_of_ble_eq_true rfl) (t_Line_cellOf (d := d + 2) hc ?_)
      obtain ⟨q5, hc, hf⟩ := g_bind hf
      obtain ⟨hg, hc⟩ := g_guard hc
      refine x_virt 6 [_] _ hg rfl rfl rfl rfl (Nat.le_of_ble_eq_true rfl) rfl (Nat.le_of_ble_eq_true rfl) (Nat.le_of_ble_eq_true rfl) (t_Text_put (d := d + 0) hc ?_)
      refine w_iinc (v := (1 : Int32)) rfl rfl (by decide) rfl ?_
      refine w_goto (t := 2) rfl (by decide) ?_
      exact ih _ (x1 + (1 : Int32))  hf
def f_Text_putLine (n : Nat) (h : gHp) (a0 : Nat) : Option (gHp) := f_Text_putLine_B2 a0  n (h) ((0 : Int32)) 
set_option maxHeartbeats 4000000 in
set_option maxRecDepth 100000 in
theorem t_Text_putLine {d n a0 : Nat} {h : gHp} {res : gHp} {Q : Option gv → gHp → Prop} (hf : f_Text_putLine n h a0  = some res) (hQ : Q (none) res) : gCall (d + 4) m_Text_putLine [.inr (some a0)] h Q := by
  unfold f_Text_putLine at hf
  refine g_enter (d := d + 3) (Nat.le_of_ble_eq_true rfl) ?_
  show gWP (gCall (d + 3)) m_Text_putLine Q 0 [some (.inr (some a0)), none] [] h 0 0
  refine w_iconst (v := (0 : Int32)) rfl (by decide) ?_
  refine w_istore_n rfl (Nat.le_of_ble_eq_true rfl) rfl ?_
  exact t_Text_putLine_B2  hQ _ _ ((0 : Int32))   hf
def f_Grid_putLine_B2 (a0 : Nat) : Nat → gHp → Int32 → Option (gHp)
  | 0, _, _ => none
  | n + 1, h, x1 => (bif gtin (gtag (h) a0) [1] then ((gref (h) a0 12).bind (fun b1 => (bif gtin (gtag (h) b1) [2] then (if (gint (h) b1 2) ≤ x1 then (((bif gtis (gtag (h) a0) 1 then f_Grid_goToNextRow n (h) a0  else none)).bind (fun q3 => some (q3))) else (bif gtin (gtag (h) a0) [1] then (bif gtin (gtag (h) a0) [1] then (bif gtin (gtag (h) a0) [1] then ((gref (h) a0 12).bind (fun b3 => (((bif gtis (gtag (h) b3) 2 then f_Line_cellOf n (h) b3 (x1) else none)).bind (fun q4 => (((bif gtis (gtag (q4.2) a0) 1 then f_Grid_write n (q4.2) a0 ((gint (h) a0 14) + x1) (gint (h) a0 15) (q4.1) else none)).bind (fun q5 => f_Grid_putLine_B2 a0 n (q5) (x1 + (1 : Int32)))))))) else none) else none) else none)) else none))) else none)
set_option maxHeartbeats 4000000 in
set_option maxRecDepth 100000 in
theorem t_Grid_putLine_B2 {d a0 : Nat} {Q : Option gv → gHp → Prop} {res : gHp} (hQ : Q (none) res) : ∀ (n : Nat) (h : gHp) (x1 : Int32), f_Grid_putLine_B2 a0 n h x1  = some res → gWP (gCall (d + 3)) m_Grid_putLine Q 2 [some (.inr (some a0)), some (.inl x1)] [] h 0 0 := by
  intro n
  induction n with
  | zero =>
    intro h x1   hf
    cases hf
  | succ n ih =>
    intro h x1   hf
    unfold f_Grid_putLine_B2 at hf
    refine w_iload_n rfl rfl ?_
    refine w_aload_n rfl rfl ?_
    obtain ⟨hg, hf⟩ := g_guard hf
    refine x_getR hg rfl rfl rfl ?_
    obtain ⟨b1, ho, hf⟩ := g_bind hf
    refine x_dr0 ho ?_
    obtain ⟨hg, hf⟩ := g_guard hf
    refine x_getI hg rfl rfl rfl ?_
    refine w_icmp (t := 41) rfl (by decide) (fun c2 => ?_) (fun c2 => ?_)
    · have c2 : (gint (h) b1 2) ≤ x1 := c2
      rw [if_pos c2] at hf
      refine w_aload_n rfl rfl ?_
      obtain ⟨q3, hc, hf⟩ := g_bind hf
      obtain ⟨hg, hc⟩ := g_guard hc
      refine x_virt 1 [] _ hg rfl rfl rfl rfl (Nat.le_of_ble_eq_true rfl) rfl (Nat.le_of_ble_eq_true rfl) (Nat.le_of_ble_eq_true rfl) (t_Grid_goToNextRow (d := d + 2) hc ?_)
      cases hf
      exact w_return rfl rfl (Nat.le_refl _) (Nat.le_refl _) hQ
    · have c2 : ¬ ((gint (h) b1 2) ≤ x1) := c2
      rw [if_neg c2] at hf
      refine w_aload_n rfl rfl ?_
      refine w_aload_n rfl rfl ?_
      obtain ⟨hg, hf⟩ := g_guard hf
      refine x_getI hg rfl rfl rfl ?_
      refine w_iload_n rfl rfl ?_
      refine w_iadd rfl ?_
      refine w_aload_n rfl rfl ?_
      obtain ⟨hg, hf⟩ := g_guard hf
      refine x_getI hg rfl rfl rfl ?_
      refine w_aload_n rfl rfl ?_
      obtain ⟨hg, hf⟩ := g_guard hf
      refine x_getR hg rfl rfl rfl ?_
      refine w_iload_n rfl rfl ?_
      obtain ⟨b3, ho, hf⟩ := g_bind hf
      refine x_dr1 ho ?_
      obtain ⟨q4, hc, hf⟩ := g_bind hf
      obtain ⟨hg, hc⟩ := g_guard hc
      refine x_virt 2 [_] _ hg rfl rfl rfl rfl (Nat.le_of_ble_eq_true rfl) rfl (Nat.le_of_ble_eq_true rfl) (Nat.le_of_ble_eq_true rfl) (t_Line_cellOf (d := d + 2) hc ?_)
      obtain ⟨q5, hc, hf⟩ := g_bind hf
      obtain ⟨hg, hc⟩ := g_guard hc
      refine x_virt 1 [_, _, _] _ hg rfl rfl rfl rfl (Nat.le_of_ble_eq_true rfl) rfl (Nat.le_of_ble_eq_true rfl) (Nat.le_of_ble_eq_true rfl) (t_Grid_write (d := d + 0) hc ?_)
      refine w_iinc (v := (1 : Int32)) rfl rfl (by decide) rfl ?_
      refine w_goto (t := 2) rfl (by decide) ?_
      exact ih _ (x1 + (1 : Int32))  hf
def f_Grid_putLine (n : Nat) (h : gHp) (a0 : Nat) : Option (gHp) := f_Grid_putLine_B2 a0  n (h) ((0 : Int32)) 
set_option maxHeartbeats 4000000 in
set_option maxRecDepth 100000 in
theorem t_Grid_putLine {d n a0 : Nat} {h : gHp} {res : gHp} {Q : Option gv → gHp → Prop} (hf : f_Grid_putLine n h a0  = some res) (hQ : Q (none) res) : gCall (d + 4) m_Grid_putLine [.inr (some a0)] h Q := by
  unfold f_Grid_putLine at hf
  refine g_enter (d := d + 3) (Nat.le_of_ble_eq_true rfl) ?_
  show gWP (gCall (d + 3)) m_Grid_putLine Q 0 [some (.inr (some a0)), none] [] h 0 0
  refine w_iconst (v := (0 : Int32)) rfl (by decide) ?_
  refine w_istore_n rfl (Nat.le_of_ble_eq_true rfl) rfl ?_
  exact t_Grid_putLine_B2  hQ _ _ ((0 : Int32))   hf
def f_Writing_finishLine (n : Nat) (h : gHp) (a0 : Nat) : Option (gHp) := (bif gtin (gtag (h) a0) [1, 6] then (if (gint (h) a0 10) = (0 : Int32) then (bif gtin (gtag (h) a0) [1, 6] then ((gref (h) a0 12).bind (fun b2 => (((bif gtis (gtag (h) b2) 2 then f_Line_begin n (h) b2 ((0 : Int32)) else none)).bind (fun q3 => some (q3))))) else none) else (((bif gtin (gtag (h) a0) [1] then f_Grid_putLine n (h) a0  else (bif gtin (gtag (h) a0) [6] then f_Text_putLine n (h) a0  else none))).bind (fun q2 => (bif gtin (gtag (q2) a0) [1, 6] then (bif gtin (gtag (q2) a0) [1, 6] then ((gref (q2) a0 12).bind (fun b3 => (bif gtin (gtag (q2) b3) [2] then (bif gtin (gtag (q2) a0) [1, 6] then (bif gtin (gtag (gsetI (q2) a0 9 ((gint (q2) a0 9) + ((gint (q2) b3 2) + (1 : Int32)))) a0) [1, 6] then ((gref (gsetI (q2) a0 9 ((gint (q2) a0 9) + ((gint (q2) b3 2) + (1 : Int32)))) a0 12).bind (fun b4 => (((bif gtis (gtag (gsetI (q2) a0 9 ((gint (q2) a0 9) + ((gint (q2) b3 2) + (1 : Int32)))) b4) 2 then f_Line_begin n (gsetI (q2) a0 9 ((gint (q2) a0 9) + ((gint (q2) b3 2) + (1 : Int32)))) b4 ((0 : Int32)) else none)).bind (fun q5 => some (q5))))) else none) else none) else none))) else none) else none)))) else none)
set_option maxHeartbeats 4000000 in
set_option maxRecDepth 100000 in
theorem t_Writing_finishLine {d n a0 : Nat} {h : gHp} {res : gHp} {Q : Option gv → gHp → Prop} (hf : f_Writing_finishLine n h a0  = some res) (hQ : Q (none) res) : gCall (d + 5) m_Writing_finishLine [.inr (some a0)] h Q := by
  unfold f_Writing_finishLine at hf
  refine g_enter (d := d + 4) (Nat.le_of_ble_eq_true rfl) ?_
  show gWP (gCall (d + 4)) m_Writing_finishLine Q 0 [some (.inr (some a0))] [] h 0 0
  refine w_aload_n rfl rfl ?_
  obtain ⟨hg, hf⟩ := g_guard hf
  refine x_getI hg rfl rfl rfl ?_
  refine w_if (t := 29) rfl (by decide) (fun c1 => ?_) (fun c1 => ?_)
  · have c1 : (gint (h) a0 10) = (0 : Int32) := c1
    rw [if_pos c1] at hf
    refine w_aload_n rfl rfl ?_
    obtain ⟨hg, hf⟩ := g_guard hf
    refine x_getR hg rfl rfl rfl ?_
    refine w_iconst (v := (0 : Int32)) rfl (by decide) ?_
    obtain ⟨b2, ho, hf⟩ := g_bind hf
    refine x_dr1 ho ?_
    obtain ⟨q3, hc, hf⟩ := g_bind hf
    obtain ⟨hg, hc⟩ := g_guard hc
    refine x_virt 2 [_] _ hg rfl rfl rfl rfl (Nat.le_of_ble_eq_true rfl) rfl (Nat.le_of_ble_eq_true rfl) (Nat.le_of_ble_eq_true rfl) (t_Line_begin (d := d + 3) hc ?_)
    cases hf
    exact w_return rfl rfl (Nat.le_refl _) (Nat.le_refl _) hQ
  · have c1 : ¬ ((gint (h) a0 10) = (0 : Int32)) := c1
    rw [if_neg c1] at hf
    refine w_aload_n rfl rfl ?_
    obtain ⟨q2, hc, hf⟩ := g_bind hf
    have hDp : gDisp (gCall (d + 4)) m_Writing_finishLine 32 (h) a0 [] (fun v h' => v = none ∧ h' = q2) := by
      rcases g_cond hc with ⟨hg, hc⟩ | ⟨-, hc⟩
      · exact g_disp [1] hg rfl rfl (List.forall_mem_cons.mpr ⟨⟨_, rfl, rfl, rfl, rfl⟩, fun _ h => absurd h List.not_mem_nil⟩) (t_Grid_putLine (d := d + 0) hc ⟨rfl, rfl⟩)
      rcases g_cond hc with ⟨hg, hc⟩ | ⟨-, hc⟩
      · exact g_disp [6] hg rfl rfl (List.forall_mem_cons.mpr ⟨⟨_, rfl, rfl, rfl, rfl⟩, fun _ h => absurd h List.not_mem_nil⟩) (t_Text_putLine (d := d + 0) hc ⟨rfl, rfl⟩)
      cases hc
    refine w_disp [] _ rfl rfl (Nat.le_of_ble_eq_true rfl) hDp (fun v h' hv => ?_)
    obtain ⟨rfl, rfl⟩ := hv
    refine w_aload_n rfl rfl ?_
    refine w_dup rfl ?_
    obtain ⟨hg, hf⟩ := g_guard hf
    refine x_getI hg rfl rfl rfl ?_
    refine w_aload_n rfl rfl ?_
    obtain ⟨hg, hf⟩ := g_guard hf
    refine x_getR hg rfl rfl rfl ?_
    obtain ⟨b3, ho, hf⟩ := g_bind hf
    refine x_dr0 ho ?_
    obtain ⟨hg, hf⟩ := g_guard hf
    refine x_getI hg rfl rfl rfl ?_
    refine w_iconst (v := (1 : Int32)) rfl (by decide) ?_
    refine w_iadd rfl ?_
    refine w_iadd rfl ?_
    obtain ⟨hg, hf⟩ := g_guard hf
    refine x_putI hg rfl rfl (by decide) ?_
    refine w_aload_n rfl rfl ?_
    obtain ⟨hg, hf⟩ := g_guard hf
    refine x_getR hg rfl rfl rfl ?_
    refine w_iconst (v := (0 : Int32)) rfl (by decide) ?_
    obtain ⟨b4, ho, hf⟩ := g_bind hf
    refine x_dr1 ho ?_
    obtain ⟨q5, hc, hf⟩ := g_bind hf
    obtain ⟨hg, hc⟩ := g_guard hc
    refine x_virt 2 [_] _ hg rfl rfl rfl rfl (Nat.le_of_ble_eq_true rfl) rfl (Nat.le_of_ble_eq_true rfl) (Nat.le_of_ble_eq_true rfl) (t_Line_begin (d := d + 3) hc ?_)
    cases hf
    exact w_return rfl rfl (Nat.le_refl _) (Nat.le_refl _) hQ
def f_Tree_enter (n : Nat) (h : gHp) (a0 : Nat) (x1 : Option Nat) : Option (gHp) := (x1.bind (fun b1 => (bif gtin (gtag (h) b1) [1, 3, 4, 5, 6] then (if (gint (h) b1 0) < (1 : Int32) then some (h) else (x1.bind (fun b3 => (bif gtin (gtag (h) b3) [1, 3, 4, 5, 6] then (bif gtin (gtag (h) a0) [7] then ((gref (h) a0 0).bind (fun b4 => ((gtag (h) b4).bind (fun t5 => (bif (Nat.ble 20 t5.1 && Nat.ble t5.1 24) then (if (Int32.ofNat t5.2) ≤ (gint (h) b3 0) then some (h) else (bif gtin (gtag (h) a0) [7] then (x1.bind (fun b7 => (bif gtin (gtag (h) b7) [1, 3, 4, 5, 6] then ((gref (h) a0 0).bind (fun b8 => (bif gArr (gtag (h) b8) 22 (gint (h) b7 0) then (bif gPnk (h) (x1) then (x1.bind (fun b9 => (bif gtin (gtag (gsetR (h) b8 (ix (gint (h) b7 0)) (x1)) b9) [1, 3, 4, 5, 6] then (bif gtin (gtag (gsetR (h) b8 (ix (gint (h) b7 0)) (x1)) a0) [7] then some (gsetI (gsetR (h) b8 (ix (gint (h) b7 0)) (x1)) a0 1 (gint (gsetR (h) b8 (ix (gint (h) b7 0)) (x1)) b9 0)) else none) else none))) else none) else none))) else none))) else none)) else none))))) else none) else none)))) else none)))
set_option maxHeartbeats 4000000 in
set_option maxRecDepth 100000 in
theorem t_Tree_enter {d n a0 : Nat} {h : gHp} {x1 : Option Nat} {res : gHp} {Q : Option gv → gHp → Prop} (hf : f_Tree_enter n h a0 x1 = some res) (hQ : Q (none) res) : gCall (d + 1) m_Tree_enter [.inr (some a0), .inr x1] h Q := by
  unfold f_Tree_enter at hf
  refine g_enter (d := d + 0) (Nat.le_of_ble_eq_true rfl) ?_
  show gWP (gCall (d + 0)) m_Tree_enter Q 0 [some (.inr (some a0)), some (.inr x1)] [] h 0 0
  refine w_aload_n rfl rfl ?_
  obtain ⟨b1, ho, hf⟩ := g_bind hf
  refine x_dr0 ho ?_
  obtain ⟨hg, hf⟩ := g_guard hf
  refine x_getI hg rfl rfl rfl ?_
  refine w_iconst (v := (1 : Int32)) rfl (by decide) ?_
  refine w_icmp (t := 38) rfl (by decide) (fun c2 => ?_) (fun c2 => ?_)
  · have c2 : (gint (h) b1 0) < (1 : Int32) := c2
    rw [if_pos c2] at hf
    cases hf
    exact w_return rfl rfl (Nat.le_refl _) (Nat.le_refl _) hQ
  · have c2 : ¬ ((gint (h) b1 0) < (1 : Int32)) := c2
    rw [if_neg c2] at hf
    refine w_aload_n rfl rfl ?_
    obtain ⟨b3, ho, hf⟩ := g_bind hf
    refine x_dr0 ho ?_
    obtain ⟨hg, hf⟩ := g_guard hf
    refine x_getI hg rfl rfl rfl ?_
    refine w_aload_n rfl rfl ?_
    obtain ⟨hg, hf⟩ := g_guard hf
    refine x_getR hg rfl rfl rfl ?_
    obtain ⟨b4, ho, hf⟩ := g_bind hf
    refine x_dr0 ho ?_
    obtain ⟨t5, ht, hf⟩ := g_bind hf
    obtain ⟨hg, hf⟩ := g_guard hf
    refine x_len ht hg rfl ?_
    refine w_icmp (t := 38) rfl (by decide) (fun c6 => ?_) (fun c6 => ?_)
    · have c6 : (Int32.ofNat t5.2) ≤ (gint (h) b3 0) := c6
      rw [if_pos c6] at hf
      cases hf
      exact w_return rfl rfl (Nat.le_refl _) (Nat.le_refl _) hQ
    · have c6 : ¬ ((Int32.ofNat t5.2) ≤ (gint (h) b3 0)) := c6
      rw [if_neg c6] at hf
      refine w_aload_n rfl rfl ?_
      obtain ⟨hg, hf⟩ := g_guard hf
      refine x_getR hg rfl rfl rfl ?_
      refine w_aload_n rfl rfl ?_
      obtain ⟨b7, ho, hf⟩ := g_bind hf
      refine x_dr0 ho ?_
      obtain ⟨hg, hf⟩ := g_guard hf
      refine x_getI hg rfl rfl rfl ?_
      refine w_aload_n rfl rfl ?_
      obtain ⟨b8, ho, hf⟩ := g_bind hf
      refine x_dr2 ho ?_
      obtain ⟨hg, hf⟩ := g_guard hf
      obtain ⟨hp, hf⟩ := g_guard hf
      refine x_ast hg hp rfl ?_
      refine w_aload_n rfl rfl ?_
      refine w_aload_n rfl rfl ?_
      obtain ⟨b9, ho, hf⟩ := g_bind hf
      refine x_dr0 ho ?_
      obtain ⟨hg, hf⟩ := g_guard hf
      refine x_getI hg rfl rfl rfl ?_
      obtain ⟨hg, hf⟩ := g_guard hf
      refine x_putI hg rfl rfl (by decide) ?_
      cases hf
      exact w_return rfl rfl (Nat.le_refl _) (Nat.le_refl _) hQ
def f_G_isMeasure (n : Nat) (h : gHp) (x0 : Int32) (x1 : Int32) : Option (Int32 × gHp) := (if x0 < (0 : Int32) then some ((0 : Int32), h) else (if x0 ≤ (15 : Int32) then (if x1 < (0 : Int32) then some ((0 : Int32), h) else ((f_G_isFixed n (h) (x0)).bind (fun q4 => (if q4.1 = (0 : Int32) then (if (100 : Int32) < x1 then some ((0 : Int32), q4.2) else some ((1 : Int32), q4.2)) else (if (999 : Int32) < x1 then some ((0 : Int32), q4.2) else some ((1 : Int32), q4.2)))))) else some ((0 : Int32), h)))
set_option maxHeartbeats 4000000 in
set_option maxRecDepth 100000 in
theorem t_G_isMeasure {d n : Nat} {h : gHp} {x0 : Int32} {x1 : Int32} {res : Int32 × gHp} {Q : Option gv → gHp → Prop} (hf : f_G_isMeasure n h x0 x1 = some res) (hQ : Q (some (.inl res.1)) res.2) : gCall (d + 2) m_G_isMeasure [.inl x0, .inl x1] h Q := by
  unfold f_G_isMeasure at hf
  refine g_enter (d := d + 1) (Nat.le_of_ble_eq_true rfl) ?_
  show gWP (gCall (d + 1)) m_G_isMeasure Q 0 [some (.inl x0), some (.inl x1)] [] h 0 0
  refine w_iload_n rfl rfl ?_
  refine w_if (t := 10) rfl (by decide) (fun c1 => ?_) (fun c1 => ?_)
  · have c1 : x0 < (0 : Int32) := c1
    rw [if_pos c1] at hf
    refine w_iconst (v := (0 : Int32)) rfl (by decide) ?_
    cases hf
    exact w_ireturn rfl (isZ_ret rfl) (Nat.le_refl _) (Nat.le_refl _) hQ
  · have c1 : ¬ (x0 < (0 : Int32)) := c1
    rw [if_neg c1] at hf
    refine w_iload_n rfl rfl ?_
    refine w_bipush (v := (15 : Int32)) rfl (by decide) ?_
    refine w_icmp (t := 12) rfl (by decide) (fun c2 => ?_) (fun c2 => ?_)
    · have c2 : x0 ≤ (15 : Int32) := c2
      rw [if_pos c2] at hf
      refine w_iload_n rfl rfl ?_
      refine w_if (t := 39) rfl (by decide) (fun c3 => ?_) (fun c3 => ?_)
      · have c3 : x1 < (0 : Int32) := c3
        rw [if_pos c3] at hf
        refine w_iconst (v := (0 : Int32)) rfl (by decide) ?_
        cases hf
        exact w_ireturn rfl (isZ_ret rfl) (Nat.le_refl _) (Nat.le_refl _) hQ
      · have c3 : ¬ (x1 < (0 : Int32)) := c3
        rw [if_neg c3] at hf
        refine w_iload_n rfl rfl ?_
        refine w_iload_n rfl rfl ?_
        obtain ⟨q4, hc, hf⟩ := g_bind hf
        refine w_static [_] _ rfl rfl rfl rfl (Nat.le_of_ble_eq_true rfl) (Nat.le_of_ble_eq_true rfl) (Nat.le_of_ble_eq_true rfl) (t_G_isFixed (d := d + 0) hc ?_)
        refine w_if (t := 30) rfl (by decide) (fun c5 => ?_) (fun c5 => ?_)
        · have c5 : q4.1 = (0 : Int32) := c5
          rw [if_pos c5] at hf
          refine w_bipush (v := (100 : Int32)) rfl (by decide) ?_
          refine w_icmp (t := 39) rfl (by decide) (fun c6 => ?_) (fun c6 => ?_)
          · have c6 : (100 : Int32) < x1 := c6
            rw [if_pos c6] at hf
            refine w_iconst (v := (0 : Int32)) rfl (by decide) ?_
            cases hf
            exact w_ireturn rfl (isZ_ret rfl) (Nat.le_refl _) (Nat.le_refl _) hQ
          · have c6 : ¬ ((100 : Int32) < x1) := c6
            rw [if_neg c6] at hf
            refine w_iconst (v := (1 : Int32)) rfl (by decide) ?_
            refine w_goto (t := 40) rfl (by decide) ?_
            cases hf
            exact w_ireturn rfl (isZ_ret rfl) (Nat.le_refl _) (Nat.le_refl _) hQ
        · have c5 : ¬ (q4.1 = (0 : Int32)) := c5
          rw [if_neg c5] at hf
          refine w_sipush (v := (999 : Int32)) rfl (by decide) ?_
          refine w_goto (t := 32) rfl (by decide) ?_
          refine w_icmp (t := 39) rfl (by decide) (fun c6 => ?_) (fun c6 => ?_)
          · have c6 : (999 : Int32) < x1 := c6
            rw [if_pos c6] at hf
            refine w_iconst (v := (0 : Int32)) rfl (by decide) ?_
            cases hf
            exact w_ireturn rfl (isZ_ret rfl) (Nat.le_refl _) (Nat.le_refl _) hQ
          · have c6 : ¬ ((999 : Int32) < x1) := c6
            rw [if_neg c6] at hf
            refine w_iconst (v := (1 : Int32)) rfl (by decide) ?_
            refine w_goto (t := 40) rfl (by decide) ?_
            cases hf
            exact w_ireturn rfl (isZ_ret rfl) (Nat.le_refl _) (Nat.le_refl _) hQ
    · have c2 : ¬ (x0 ≤ (15 : Int32)) := c2
      rw [if_neg c2] at hf
      refine w_iconst (v := (0 : Int32)) rfl (by decide) ?_
      cases hf
      exact w_ireturn rfl (isZ_ret rfl) (Nat.le_refl _) (Nat.le_refl _) hQ
