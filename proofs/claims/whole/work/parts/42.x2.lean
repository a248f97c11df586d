def f_Tree_layOutFrom_B54 (recS : gHp → Option Nat → Int32 → Option (Int32 × gHp)) (n : Nat) (h : gHp) (x0 : Option Nat) (x5 : Int32) (s0 : Int32) : Option (Int32 × gHp) := ((gInst (h) (x0) "GlkPanes$Pair").bind (fun i1 => (if i1 = (0 : Int32) then (if s0 = (0 : Int32) then some ((0 : Int32), h) else some ((0 : Int32) + (1 : Int32), h)) else (bif gCas (h) (x0) "GlkPanes$Pair" then ((recS (h) (x0) (x5 + (1 : Int32))).bind (fun q3 => (if s0 = (0 : Int32) then some (q3.1, q3.2) else some (q3.1 + (1 : Int32), q3.2)))) else none))))
set_option maxHeartbeats 4000000 in
set_option maxRecDepth 100000 in
theorem t_Tree_layOutFrom_B54 {D0 D : Nat} {recS : gHp → Option Nat → Int32 → Option (Int32 × gHp)} {Q : Option gv → gHp → Prop} {res : Int32 × gHp} (hD : D = D0 + 10) (hS : ∀ {h : gHp} {z0 : Option Nat} {z1 : Int32} {res : Int32 × gHp} {Q : Option gv → gHp → Prop}, recS h z0 z1 = some res → Q (some (.inl res.1)) res.2 → gCall D m_Tree_layOutSides [.inr z0, .inl z1] h Q) (hQ : Q (some (.inl res.1)) res.2) (n : Nat) (h : gHp) (x0 : Option Nat) (x5 : Int32) (s0 : Int32) (u1 : Option gv) (u2 : Option gv) (u3 : Option gv) (u4 : Option gv) (u6 : Option gv) (u7 : Option gv) (u8 : Option gv) (u9 : Option gv) (hf : f_Tree_layOutFrom_B54 recS n h x0 x5 s0 = some res) : gWP (gCall D) m_Tree_layOutFrom Q 54 [some (.inr x0), u1, u2, u3, u4, some (.inl x5), u6, u7, u8, u9] [.inl s0] h 0 0 := by
  unfold f_Tree_layOutFrom_B54 at hf
  have hD9 := hD
  subst hD9
  refine w_istore rfl (Nat.le_of_ble_eq_true rfl) rfl ?_
  refine w_aload_n rfl rfl ?_
  obtain ⟨i1, hg, hf⟩ := g_bind hf
  refine x_inst hg rfl rfl ?_
  refine w_if (t := 81) rfl (by decide) (fun c2 => ?_) (fun c2 => ?_)
  · have c2 : i1 = (0 : Int32) := c2
    rw [if_pos c2] at hf
    refine w_iconst (v := (0 : Int32)) rfl (by decide) ?_
    refine w_istore rfl (Nat.le_of_ble_eq_true rfl) rfl ?_
    refine w_iload rfl rfl ?_
    refine w_if (t := 96) rfl (by decide) (fun c3 => ?_) (fun c3 => ?_)
    · have c3 : s0 = (0 : Int32) := c3
      rw [if_pos c3] at hf
      refine w_iload rfl rfl ?_
      cases hf
      exact w_ireturn rfl (int_ret _) (Nat.le_refl _) (Nat.le_refl _) hQ
    · have c3 : ¬ (s0 = (0 : Int32)) := c3
      rw [if_neg c3] at hf
      refine w_iload rfl rfl ?_
      refine w_iconst (v := (1 : Int32)) rfl (by decide) ?_
      refine w_iadd rfl ?_
      refine w_goto (t := 98) rfl (by decide) ?_
      cases hf
      exact w_ireturn rfl (int_ret _) (Nat.le_refl _) (Nat.le_refl _) hQ
  · have c2 : ¬ (i1 = (0 : Int32)) := c2
    rw [if_neg c2] at hf
    refine w_aload_n rfl rfl ?_
    obtain ⟨hg, hf⟩ := g_guard hf
    refine x_cast hg rfl rfl ?_
    refine w_astore rfl (Nat.le_of_ble_eq_true rfl) rfl ?_
    refine w_aload rfl rfl ?_
    refine w_iload rfl rfl ?_
    refine w_iconst (v := (1 : Int32)) rfl (by decide) ?_
    refine w_iadd rfl ?_
    obtain ⟨q3, hc, hf⟩ := g_bind hf
    refine w_static [_, _] _ rfl rfl rfl rfl (Nat.le_of_ble_eq_true rfl) (Nat.le_of_ble_eq_true rfl) (Nat.le_of_ble_eq_true rfl) (hS hc ?_)
    refine w_goto (t := 82) rfl (by decide) ?_
    refine w_istore rfl (Nat.le_of_ble_eq_true rfl) rfl ?_
    refine w_iload rfl rfl ?_
    refine w_if (t := 96) rfl (by decide) (fun c4 => ?_) (fun c4 => ?_)
    · have c4 : s0 = (0 : Int32) := c4
      rw [if_pos c4] at hf
      refine w_iload rfl rfl ?_
      cases hf
      exact w_ireturn rfl (int_ret _) (Nat.le_refl _) (Nat.le_refl _) hQ
    · have c4 : ¬ (s0 = (0 : Int32)) := c4
      rw [if_neg c4] at hf
      refine w_iload rfl rfl ?_
      refine w_iconst (v := (1 : Int32)) rfl (by decide) ?_
      refine w_iadd rfl ?_
      refine w_goto (t := 98) rfl (by decide) ?_
      cases hf
      exact w_ireturn rfl (int_ret _) (Nat.le_refl _) (Nat.le_refl _) hQ
def f_Tree_layOutFrom_B27 (recS : gHp → Option Nat → Int32 → Option (Int32 × gHp)) (n : Nat) (h : gHp) (x0 : Option Nat) (x1 : Int32) (x2 : Int32) (x3 : Int32) (x4 : Int32) (x5 : Int32) (s0 : Int32) : Option (Int32 × gHp) := (if s0 = (0 : Int32) then (x0.bind (fun b2 => (((bif gtin (gtag (h) b2) [1, 3, 4, 5, 6] then f_Pane_moveTo n (h) b2 ((0 : Int32)) ((0 : Int32)) ((0 : Int32)) ((0 : Int32)) else none)).bind (fun q3 => f_Tree_layOutFrom_B54 recS  n (q3.2) (x0) (x5) (q3.1))))) else (x0.bind (fun b2 => (((bif gtin (gtag (h) b2) [1, 3, 4, 5, 6] then f_Pane_moveTo n (h) b2 (x1) (x2) (x3) (x4) else none)).bind (fun q3 => f_Tree_layOutFrom_B54 recS  n (q3.2) (x0) (x5) (q3.1))))))
set_option maxHeartbeats 4000000 in
set_option maxRecDepth 100000 in
theorem t_Tree_layOutFrom_B27 {D0 D : Nat} {recS : gHp → Option Nat → Int32 → Option (Int32 × gHp)} {Q : Option gv → gHp → Prop} {res : Int32 × gHp} (hD : D = D0 + 10) (hS : ∀ {h : gHp} {z0 : Option Nat} {z1 : Int32} {res : Int32 × gHp} {Q : Option gv → gHp → Prop}, recS h z0 z1 = some res → Q (some (.inl res.1)) res.2 → gCall D m_Tree_layOutSides [.inr z0, .inl z1] h Q) (hQ : Q (some (.inl res.1)) res.2) (n : Nat) (h : gHp) (x0 : Option Nat) (x1 : Int32) (x2 : Int32) (x3 : Int32) (x4 : Int32) (x5 : Int32) (s0 : Int32) (u6 : Option gv) (u7 : Option gv) (u8 : Option gv) (u9 : Option gv) (hf : f_Tree_layOutFrom_B27 recS n h x0 x1 x2 x3 x4 x5 s0 = some res) : gWP (gCall D) m_Tree_layOutFrom Q 27 [some (.inr x0), some (.inl x1), some (.inl x2), some (.inl x3), some (.inl x4), some (.inl x5), u6, u7, u8, u9] [.inl s0] h 0 0 := by
  unfold f_Tree_layOutFrom_B27 at hf
  have hD9 := hD
  subst hD9
  refine w_istore rfl (Nat.le_of_ble_eq_true rfl) rfl ?_
  refine w_iload rfl rfl ?_
  refine w_if (t := 46) rfl (by decide) (fun c1 => ?_) (fun c1 => ?_)
  · have c1 : s0 = (0 : Int32) := c1
    rw [if_pos c1] at hf
    refine w_aload_n rfl rfl ?_
    refine w_iconst (v := (0 : Int32)) rfl (by decide) ?_
    refine w_iconst (v := (0 : Int32)) rfl (by decide) ?_
    refine w_iconst (v := (0 : Int32)) rfl (by decide) ?_
    refine w_iconst (v := (0 : Int32)) rfl (by decide) ?_
    obtain ⟨b2, ho, hf⟩ := g_bind hf
    refine x_dr4 ho ?_
    obtain ⟨q3, hc, hf⟩ := g_bind hf
    obtain ⟨hg, hc⟩ := g_guard hc
    refine x_virtG [1, 3, 4, 5, 6] [_, _, _, _] _ hg rfl rfl rfl rfl (Nat.le_of_ble_eq_true rfl) (List.forall_mem_cons.mpr ⟨⟨_, rfl, rfl⟩, List.forall_mem_cons.mpr ⟨⟨_, rfl, rfl⟩, List.forall_mem_cons.mpr ⟨⟨_, rfl, rfl⟩, List.forall_mem_cons.mpr ⟨⟨_, rfl, rfl⟩, List.forall_mem_cons.mpr ⟨⟨_, rfl, rfl⟩, fun _ h => absurd h List.not_mem_nil⟩⟩⟩⟩⟩) (Nat.le_of_ble_eq_true rfl) (Nat.le_of_ble_eq_true rfl) (t_Pane_moveTo (d := D0 + 6) hc ?_)
    exact t_Tree_layOutFrom_B54 hD hS  hQ _ _ (x0) (x5) (q3.1) _ _ _ _ _ _ _ _ hf
  · have c1 : ¬ (s0 = (0 : Int32)) := c1
    rw [if_neg c1] at hf
    refine w_aload_n rfl rfl ?_
    refine w_iload_n rfl rfl ?_
    refine w_iload_n rfl rfl ?_
    refine w_iload_n rfl rfl ?_
    refine w_iload rfl rfl ?_
    obtain ⟨b2, ho, hf⟩ := g_bind hf
    refine x_dr4 ho ?_
    obtain ⟨q3, hc, hf⟩ := g_bind hf
    obtain ⟨hg, hc⟩ := g_guard hc
    refine x_virtG [1, 3, 4, 5, 6] [_, _, _, _] _ hg rfl rfl rfl rfl (Nat.le_of_ble_eq_true rfl) (List.forall_mem_cons.mpr ⟨⟨_, rfl, rfl⟩, List.forall_mem_cons.mpr ⟨⟨_, rfl, rfl⟩, List.forall_mem_cons.mpr ⟨⟨_, rfl, rfl⟩, List.forall_mem_cons.mpr ⟨⟨_, rfl, rfl⟩, List.forall_mem_cons.mpr ⟨⟨_, rfl, rfl⟩, fun _ h => absurd h List.not_mem_nil⟩⟩⟩⟩⟩) (Nat.le_of_ble_eq_true rfl) (Nat.le_of_ble_eq_true rfl) (t_Pane_moveTo (d := D0 + 6) hc ?_)
    refine w_goto (t := 54) rfl (by decide) ?_
    exact t_Tree_layOutFrom_B54 hD hS  hQ _ _ (x0) (x5) (q3.1) _ _ _ _ _ _ _ _ hf
def f_Tree_layOutFrom_B26 (recS : gHp → Option Nat → Int32 → Option (Int32 × gHp)) (n : Nat) (h : gHp) (x0 : Option Nat) (x1 : Int32) (x2 : Int32) (x3 : Int32) (x4 : Int32) (x5 : Int32) : Option (Int32 × gHp) := f_Tree_layOutFrom_B27 recS  n (h) (x0) (x1) (x2) (x3) (x4) (x5) ((0 : Int32))
set_option maxHeartbeats 4000000 in
set_option maxRecDepth 100000 in
theorem t_Tree_layOutFrom_B26 {D0 D : Nat} {recS : gHp → Option Nat → Int32 → Option (Int32 × gHp)} {Q : Option gv → gHp → Prop} {res : Int32 × gHp} (hD : D = D0 + 10) (hS : ∀ {h : gHp} {z0 : Option Nat} {z1 : Int32} {res : Int32 × gHp} {Q : Option gv → gHp → Prop}, recS h z0 z1 = some res → Q (some (.inl res.1)) res.2 → gCall D m_Tree_layOutSides [.inr z0, .inl z1] h Q) (hQ : Q (some (.inl res.1)) res.2) (n : Nat) (h : gHp) (x0 : Option Nat) (x1 : Int32) (x2 : Int32) (x3 : Int32) (x4 : Int32) (x5 : Int32) (u6 : Option gv) (u7 : Option gv) (u8 : Option gv) (u9 : Option gv) (hf : f_Tree_layOutFrom_B26 recS n h x0 x1 x2 x3 x4 x5  = some res) : gWP (gCall D) m_Tree_layOutFrom Q 26 [some (.inr x0), some (.inl x1), some (.inl x2), some (.inl x3), some (.inl x4), some (.inl x5), u6, u7, u8, u9] [] h 0 0 := by
  unfold f_Tree_layOutFrom_B26 at hf
  have hD9 := hD
  subst hD9
  refine w_iconst (v := (0 : Int32)) rfl (by decide) ?_
  exact t_Tree_layOutFrom_B27 hD hS  hQ _ _ (x0) (x1) (x2) (x3) (x4) (x5) ((0 : Int32)) _ _ _ _ hf
def f_Tree_layOutFrom (N : Nat) : Nat → gHp → Option Nat → Int32 → Int32 → Int32 → Int32 → Int32 → Option (Int32 × gHp)
  | 0, _, _, _, _, _, _, _ => none
  | n + 1, h, x0, x1, x2, x3, x4, x5 => (if x0 = none then some ((0 : Int32), h) else (if x5 ≤ (12 : Int32) then (if x3 ≤ (0 : Int32) then f_Tree_layOutFrom_B26 (f_Tree_layOutSides (f_Tree_layOutFrom N n) N)  N (h) (x0) (x1) (x2) (x3) (x4) (x5)  else (if x4 ≤ (0 : Int32) then f_Tree_layOutFrom_B26 (f_Tree_layOutSides (f_Tree_layOutFrom N n) N)  N (h) (x0) (x1) (x2) (x3) (x4) (x5)  else f_Tree_layOutFrom_B27 (f_Tree_layOutSides (f_Tree_layOutFrom N n) N)  N (h) (x0) (x1) (x2) (x3) (x4) (x5) ((1 : Int32)))) else some ((0 : Int32), h)))
set_option maxHeartbeats 4000000 in
set_option maxRecDepth 100000 in
theorem t_Tree_layOutFrom {d N : Nat} : ∀ (n : Nat) {h : gHp} {x0 : Option Nat} {x1 x2 x3 x4 x5 : Int32} {res : Int32 × gHp} {Q : Option gv → gHp → Prop}, f_Tree_layOutFrom N n h x0 x1 x2 x3 x4 x5 = some res → Q (some (.inl res.1)) res.2 → gCall (d + (2 * n + 10)) m_Tree_layOutFrom [.inr x0, .inl x1, .inl x2, .inl x3, .inl x4, .inl x5] h Q := by
  intro n
  induction n with
  | zero =>
    intro h x0 x1 x2 x3 x4 x5 res Q hf
    cases hf
  | succ n ih =>
    intro h x0 x1 x2 x3 x4 x5 res Q hf hQ
    unfold f_Tree_layOutFrom at hf
    have hS : ∀ {h : gHp} {z0 : Option Nat} {z1 : Int32} {res : Int32 × gHp} {Q : Option gv → gHp → Prop}, f_Tree_layOutSides (f_Tree_layOutFrom N n) N h z0 z1 = some res → Q (some (.inl res.1)) res.2 → gCall (d + (2 * n + 10) + 1) m_Tree_layOutSides [.inr z0, .inl z1] h Q := fun hf hQ => t_Tree_layOutSides (D0 := d + 2 * n) (D := d + (2 * n + 10)) rfl ih hf hQ
    generalize hDD : d + (2 * n + 10) + 1 = D1 at hS
    have hDe : d + (2 * (n + 1) + 10) = D1 + 1 := by omega
    rw [hDe]
    obtain ⟨D0, hD⟩ : ∃ D0, D1 = D0 + 10 := ⟨d + 2 * n + 1, by omega⟩
    subst hD
    have hD : D0 + 10 = D0 + 10 := rfl
    refine g_enter (Nat.le_of_ble_eq_true rfl) ?_
    show gWP (gCall (D0 + 10)) m_Tree_layOutFrom Q 0 [some (.inr x0), some (.inl x1), some (.inl x2), some (.inl x3), some (.inl x4), some (.inl x5), none, none, none, none] [] h 0 0
    refine w_aload_n rfl rfl ?_
    refine w_ifnull (t := 11) rfl (by decide) (fun c1 => ?_) (fun c1 => ?_)
    · have c1 : x0 = none := c1
      rw [if_pos c1] at hf
      refine w_iconst (v := (0 : Int32)) rfl (by decide) ?_
      cases hf
      exact w_ireturn rfl (int_ret _) (Nat.le_refl _) (Nat.le_refl _) hQ
    · have c1 : ¬ (x0 = none) := c1
      rw [if_neg c1] at hf
      refine w_iload rfl rfl ?_
      refine w_bipush (v := (12 : Int32)) rfl (by decide) ?_
      refine w_icmp (t := 13) rfl (by decide) (fun c2 => ?_) (fun c2 => ?_)
      · have c2 : x5 ≤ (12 : Int32) := c2
        rw [if_pos c2] at hf
        refine w_iload_n rfl rfl ?_
        refine w_if (t := 26) rfl (by decide) (fun c3 => ?_) (fun c3 => ?_)
        · have c3 : x3 ≤ (0 : Int32) := c3
          rw [if_pos c3] at hf
          exact t_Tree_layOutFrom_B26 hD hS  hQ _ _ (x0) (x1) (x2) (x3) (x4) (x5)  _ _ _ _ hf
        · have c3 : ¬ (x3 ≤ (0 : Int32)) := c3
          rw [if_neg c3] at hf
          refine w_iload rfl rfl ?_
          refine w_if (t := 26) rfl (by decide) (fun c4 => ?_) (fun c4 => ?_)
          · have c4 : x4 ≤ (0 : Int32) := c4
            rw [if_pos c4] at hf
            exact t_Tree_layOutFrom_B26 hD hS  hQ _ _ (x0) (x1) (x2) (x3) (x4) (x5)  _ _ _ _ hf
          · have c4 : ¬ (x4 ≤ (0 : Int32)) := c4
            rw [if_neg c4] at hf
            refine w_iconst (v := (1 : Int32)) rfl (by decide) ?_
            refine w_goto (t := 27) rfl (by decide) ?_
            exact t_Tree_layOutFrom_B27 hD hS  hQ _ _ (x0) (x1) (x2) (x3) (x4) (x5) ((1 : Int32)) _ _ _ _ hf
      · have c2 : ¬ (x5 ≤ (12 : Int32)) := c2
        rw [if_neg c2] at hf
        refine w_iconst (v := (0 : Int32)) rfl (by decide) ?_
        cases hf
        exact w_ireturn rfl (int_ret _) (Nat.le_refl _) (Nat.le_refl _) hQ
def f_Tree_layOut (n : Nat) (h : gHp) (a0 : Nat) : Option (Int32 × gHp) := (bif gtin (gtag (h) a0) [7] then (bif gtin (gtag (h) a0) [7] then (bif gtin (gtag (h) a0) [7] then ((f_Tree_layOutFrom n 20 (h) (gref (h) a0 2) ((0 : Int32)) ((0 : Int32)) (gint (h) a0 3) (gint (h) a0 4) ((0 : Int32))).bind (fun q1 => some (q1.1, q1.2))) else none) else none) else none)
set_option maxHeartbeats 4000000 in
set_option maxRecDepth 100000 in
theorem t_Tree_layOut {d n a0 : Nat} {h : gHp} {res : Int32 × gHp} {Q : Option gv → gHp → Prop} (hf : f_Tree_layOut n h a0  = some res) (hQ : Q (some (.inl res.1)) res.2) : gCall (d + 51) m_Tree_layOut [.inr (some a0)] h Q := by
  unfold f_Tree_layOut at hf
  refine g_enter (d := d + 50) (Nat.le_of_ble_eq_true rfl) ?_
  show gWP (gCall (d + 50)) m_Tree_layOut Q 0 [some (.inr (some a0))] [] h 0 0
  refine w_aload_n rfl rfl ?_
  obtain ⟨hg, hf⟩ := g_guard hf
  refine x_getR hg rfl rfl rfl ?_
  refine w_iconst (v := (0 : Int32)) rfl (by decide) ?_
  refine w_iconst (v := (0 : Int32)) rfl (by decide) ?_
  refine w_aload_n rfl rfl ?_
  obtain ⟨hg, hf⟩ := g_guard hf
  refine x_getI hg rfl rfl rfl ?_
  refine w_aload_n rfl rfl ?_
  obtain ⟨hg, hf⟩ := g_guard hf
  refine x_getI hg rfl rfl rfl ?_
  refine w_iconst (v := (0 : Int32)) rfl (by decide) ?_
  obtain ⟨q1, hc, hf⟩ := g_bind hf
  refine w_static [_, _, _, _, _, _] _ rfl rfl rfl rfl (Nat.le_of_ble_eq_true rfl) (Nat.le_of_ble_eq_true rfl) (Nat.le_of_ble_eq_true rfl) (t_Tree_layOutFrom (d := d + 0) 20 hc ?_)
  cases hf
  exact w_ireturn rfl (int_ret _) (Nat.le_refl _) (Nat.le_refl _) hQ
def f_Grid_clear (n : Nat) (h : gHp) (a0 : Nat) : Option (gHp) := (bif gtin (gtag (h) a0) [1] then ((f_Arrays_fill_2 n (h) (gref (h) a0 13) ((32 : Int32))).bind (fun q1 => (bif gtin (gtag (q1) a0) [1] then (bif gtin (gtag (gsetI (q1) a0 14 ((0 : Int32))) a0) [1] then some (gsetI (gsetI (q1) a0 14 ((0 : Int32))) a0 15 ((0 : Int32))) else none) else none))) else none)
set_option maxHeartbeats 4000000 in
set_option maxRecDepth 100000 in
theorem t_Grid_clear {d n a0 : Nat} {h : gHp} {res : gHp} {Q : Option gv → gHp → Prop} (hf : f_Grid_clear n h a0  = some res) (hQ : Q (none) res) : gCall (d + 2) m_Grid_clear [.inr (some a0)] h Q := by
  unfold f_Grid_clear at hf
  refine g_enter (d := d + 1) (Nat.le_of_ble_eq_true rfl) ?_
  show gWP (gCall (d + 1)) m_Grid_clear Q 0 [some (.inr (some a0))] [] h 0 0
  refine w_aload_n rfl rfl ?_
  obtain ⟨hg, hf⟩ := g_guard hf
  refine x_getR hg rfl rfl rfl ?_
  refine w_bipush (v := (32 : Int32)) rfl (by decide) ?_
  obtain ⟨q1, hc, hf⟩ := g_bind hf
  refine w_static [_, _] _ rfl rfl rfl rfl (Nat.le_of_ble_eq_true rfl) (Nat.le_of_ble_eq_true rfl) (Nat.le_of_ble_eq_true rfl) (t_Arrays_fill_2 (d := d + 0) hc ?_)
  refine w_aload_n rfl rfl ?_
  refine w_iconst (v := (0 : Int32)) rfl (by decide) ?_
  obtain ⟨hg, hf⟩ := g_guard hf
  refine x_putI hg rfl rfl (by decide) ?_
  refine w_aload_n rfl rfl ?_
  refine w_iconst (v := (0 : Int32)) rfl (by decide) ?_
  obtain ⟨hg, hf⟩ := g_guard hf
  refine x_putI hg rfl rfl (by decide) ?_
  cases hf
  exact w_return rfl rfl (Nat.le_refl _) (Nat.le_refl _) hQ
def f_Pane_has (n : Nat) (h : gHp) (a0 : Nat) (x1 : Int32) (x2 : Int32) : Option (Int32 × gHp) := (if x1 < (0 : Int32) then some ((0 : Int32), h) else (bif gtin (gtag (h) a0) [1, 3, 4, 5, 6] then (if (gint (h) a0 5) ≤ x1 then some ((0 : Int32), h) else (if x2 < (0 : Int32) then some ((0 : Int32), h) else (bif gtin (gtag (h) a0) [1, 3, 4, 5, 6] then (if (gint (h) a0 6) ≤ x2 then some ((0 : Int32), h) else some ((1 : Int32), h)) else none))) else none))
set_option maxHeartbeats 4000000 in
set_option maxRecDepth 100000 in
theorem t_Pane_has {d n a0 : Nat} {h : gHp} {x1 : Int32} {x2 : Int32} {res : Int32 × gHp} {Q : Option gv → gHp → Prop} (hf : f_Pane_has n h a0 x1 x2 = some res) (hQ : Q (some (.inl res.1)) res.2) : gCall (d + 1) m_Pane_has [.inr (some a0), .inl x1, .inl x2] h Q := by
  unfold f_Pane_has at hf
  refine g_enter (d := d + 0) (Nat.le_of_ble_eq_true rfl) ?_
  show gWP (gCall (d + 0)) m_Pane_has Q 0 [some (.inr (some a0)), some (.inl x1), some (.inl x2)] [] h 0 0
  refine w_iload_n rfl rfl ?_
  refine w_if (t := 28) rfl (by decide) (fun c1 => ?_) (fun c1 => ?_)
  · have c1 : x1 < (0 : Int32) := c1
    rw [if_pos c1] at hf
    refine w_iconst (v := (0 : Int32)) rfl (by decide) ?_
    cases hf
    exact w_ireturn rfl (isZ_ret rfl) (Nat.le_refl _) (Nat.le_refl _) hQ
  · have c1 : ¬ (x1 < (0 : Int32)) := c1
    rw [if_neg c1] at hf
    refine w_iload_n rfl rfl ?_
    refine w_aload_n rfl rfl ?_
    obtain ⟨hg, hf⟩ := g_guard hf
    refine x_getI hg rfl rfl rfl ?_
    refine w_icmp (t := 28) rfl (by decide) (fun c2 => ?_) (fun c2 => ?_)
    · have c2 : (gint (h) a0 5) ≤ x1 := c2
      rw [if_pos c2] at hf
      refine w_iconst (v := (0 : Int32)) rfl (by decide) ?_
      cases hf
      exact w_ireturn rfl (isZ_ret rfl) (Nat.le_refl _) (Nat.le_refl _) hQ
    · have c2 : ¬ ((gint (h) a0 5) ≤ x1) := c2
      rw [if_neg c2] at hf
      refine w_iload_n rfl rfl ?_
      refine w_if (t := 28) rfl (by decide) (fun c3 => ?_) (fun c3 => ?_)
      · have c3 : x2 < (0 : Int32) := c3
        rw [if_pos c3] at hf
        refine w_iconst (v := (0 : Int32)) rfl (by decide) ?_
        cases hf
        exact w_ireturn rfl (isZ_ret rfl) (Nat.le_refl _) (Nat.le_refl _) hQ
      · have c3 : ¬ (x2 < (0 : Int32)) := c3
        rw [if_neg c3] at hf
        refine w_iload_n rfl rfl ?_
        refine w_aload_n rfl rfl ?_
        obtain ⟨hg, hf⟩ := g_guard hf
        refine x_getI hg rfl rfl rfl ?_
        refine w_icmp (t := 28) rfl (by decide) (fun c4 => ?_) (fun c4 => ?_)
        · have c4 : (gint (h) a0 6) ≤ x2 := c4
          rw [if_pos c4] at hf
          refine w_iconst (v := (0 : Int32)) rfl (by decide) ?_
          cases hf
          exact w_ireturn rfl (isZ_ret rfl) (Nat.le_refl _) (Nat.le_refl _) hQ
        · have c4 : ¬ ((gint (h) a0 6) ≤ x2) := c4
          rw [if_neg c4] at hf
          refine w_iconst (v := (1 : Int32)) rfl (by decide) ?_
          refine w_goto (t := 29) rfl (by decide) ?_
          cases hf
          exact w_ireturn rfl (isZ_ret rfl) (Nat.le_refl _) (Nat.le_refl _) hQ
def f_Grid_indexOf (n : Nat) (h : gHp) (a0 : Nat) (x1 : Int32) (x2 : Int32) : Option (Int32 × gHp) := (((bif gtis (gtag (h) a0) 1 then f_Pane_has n (h) a0 (x1) (x2) else none)).bind (fun q1 => (if q1.1 = (0 : Int32) then some ((-1 : Int32), q1.2) else (bif gtin (gtag (q1.2) a0) [1] then ((gref (q1.2) a0 13).bind (fun b3 => ((gtag (q1.2) b3).bind (fun t4 => (bif (Nat.ble 20 t4.1 && Nat.ble t4.1 24) then (if (Int32.ofNat t4.2) ≤ ((x2 * (60 : Int32)) + x1) then some ((-1 : Int32), q1.2) else some ((x2 * (60 : Int32)) + x1, q1.2)) else none))))) else none))))
set_option maxHeartbeats 4000000 in
set_option maxRecDepth 100000 in
theorem t_Grid_indexOf {d n a0 : Nat} {h : gHp} {x1 : Int32} {x2 : Int32} {res : Int32 × gHp} {Q : Option gv → gHp → Prop} (hf : f_Grid_indexOf n h a0 x1 x2 = some res) (hQ : Q (some (.inl res.1)) res.2) : gCall (d + 2) m_Grid_indexOf [.inr (some a0), .inl x1, .inl x2] h Q := by
  unfold f_Grid_indexOf at hf
  refine g_enter (d := d + 1) (Nat.le_of_ble_eq_true rfl) ?_
  show gWP (gCall (d + 1)) m_Grid_indexOf Q 0 [some (.inr (some a0)), some (.inl x1), some (.inl x2), none] [] h 0 0
  refine w_iload_n rfl rfl ?_
  refine w_bipush (v := (60 : Int32)) rfl (by decide) ?_
  refine w_imul rfl ?_
  refine w_iload_n rfl rfl ?_
  refine w_iadd rfl ?_
  refine w_istore_n rfl (Nat.le_of_ble_eq_true rfl) rfl ?_
  refine w_aload_n rfl rfl ?_
  refine w_iload_n rfl rfl ?_
  refine w_iload_n rfl rfl ?_
  obtain ⟨q1, hc, hf⟩ := g_bind hf
  obtain ⟨hg, hc⟩ := g_guard hc
  refine x_virt 1 [_, _] _ hg rfl rfl rfl rfl (Nat.le_of_ble_eq_true rfl) rfl (Nat.le_of_ble_eq_true rfl) (Nat.le_of_ble_eq_true rfl) (t_Pane_has (d := d + 0) hc ?_)
  refine w_if (t := 29) rfl (by decide) (fun c2 => ?_) (fun c2 => ?_)
  · have c2 : q1.1 = (0 : Int32) := c2
    rw [if_pos c2] at hf
    refine w_iconst (v := (-1 : Int32)) rfl (by decide) ?_
    cases hf
    exact w_ireturn rfl (int_ret _) (Nat.le_refl _) (Nat.le_refl _) hQ
  · have c2 : ¬ (q1.1 = (0 : Int32)) := c2
    rw [if_neg c2] at hf
    refine w_iload_n rfl rfl ?_
    refine w_aload_n rfl rfl ?_
    obtain ⟨hg, hf⟩ := g_guard hf
    refine x_getR hg rfl rfl rfl ?_
    obtain ⟨b3, ho, hf⟩ := g_bind hf
    refine x_dr0 ho ?_
    obtain ⟨t4, ht, hf⟩ := g_bind hf
    obtain ⟨hg, hf⟩ := g_guard hf
    refine x_len ht hg rfl ?_
    refine w_icmp (t := 29) rfl (by decide) (fun c5 => ?_) (fun c5 => ?_)
    · have c5 : (Int32.ofNat t4.2) ≤ ((x2 * (60 : Int32)) + x1) := c5
      rw [if_pos c5] at hf
      refine w_iconst (v := (-1 : Int32)) rfl (by decide) ?_
      cases hf
      exact w_ireturn rfl (int_ret _) (Nat.le_refl _) (Nat.le_refl _) hQ
    · have c5 : ¬ ((Int32.ofNat t4.2) ≤ ((x2 * (60 : Int32)) + x1)) := c5
      rw [if_neg c5] at hf
      refine w_iload_n rfl rfl ?_
      refine w_goto (t := 30) rfl (by decide) ?_
      cases hf
      exact w_ireturn rfl (int_ret _) (Nat.le_refl _) (Nat.le_refl _) hQ
def f_Grid_write (n : Nat) (h : gHp) (a0 : Nat) (x1 : Int32) (x2 : Int32) (x3 : Int32) : Option (gHp) := (((bif gtis (gtag (h) a0) 1 then f_Grid_indexOf n (h) a0 (x1) (x2) else none)).bind (fun q1 => (if q1.1 < (0 : Int32) then some (q1.2) else (bif gtin (gtag (q1.2) a0) [1] then ((gref (q1.2) a0 13).bind (fun b3 => (bif gArr (gtag (q1.2) b3) 20 (q1.1) then some (gsetI (q1.2) b3 (ix (q1.1)) (x3)) else none))) else none))))
set_option maxHeartbeats 4000000 in
set_option maxRecDepth 100000 in
theorem t_Grid_write {d n a0 : Nat} {h : gHp} {x1 : Int32} {x2 : Int32} {x3 : Int32} {res : gHp} {Q : Option gv → gHp → Prop} (hf : f_Grid_write n h a0 x1 x2 x3 = some res) (hQ : Q (none) res) : gCall (d + 3) m_Grid_write [.inr (some a0), .inl x1, .inl x2, .inl x3] h Q := by
  unfold f_Grid_write at hf
  refine g_enter (d := d + 2) (Nat.le_of_ble_eq_true rfl) ?_
  show gWP (gCall (d + 2)) m_Grid_write Q 0 [some (.inr (some a0)), some (.inl x1), some (.inl x2), some (.inl x3), none] [] h 0 0
  refine w_aload_n rfl rfl ?_
  refine w_iload_n rfl rfl ?_
  refine w_iload_n rfl rfl ?_
  obtain ⟨q1, hc, hf⟩ := g_bind hf
  obtain ⟨hg, hc⟩ := g_guard hc
  refine x_virt 1 [_, _] _ hg rfl rfl rfl rfl (Nat.le_of_ble_eq_true rfl) rfl (Nat.le_of_ble_eq_true rfl) (Nat.le_of_ble_eq_true rfl) (t_Grid_indexOf (d := d + 0) hc ?_)
  refine w_istore rfl (Nat.le_of_ble_eq_true rfl) rfl ?_
  refine w_iload rfl rfl ?_
  refine w_if (t := 21) rfl (by decide) (fun c2 => ?_) (fun c2 => ?_)
  · have c2 : q1.1 < (0 : Int32) := c2
    rw [if_pos c2] at hf
    cases hf
    exact w_return rfl rfl (Nat.le_refl _) (Nat.le_refl _) hQ
  · have c2 : ¬ (q1.1 < (0 : Int32)) := c2
    rw [if_neg c2] at hf
    refine w_aload_n rfl rfl ?_
    obtain ⟨hg, hf⟩ := g_guard hf
    refine x_getR hg rfl rfl rfl ?_
    refine w_iload rfl rfl ?_
    refine w_iload_n rfl rfl ?_
    obtain ⟨b3, ho, hf⟩ := g_bind hf
    refine x_dr2 ho ?_
    obtain ⟨hg, hf⟩ := g_guard hf
    refine x_st hg rfl ?_
    cases hf
    exact w_return rfl rfl (Nat.le_refl _) (Nat.le_refl _) hQ
def f_Tree_setScreen (n : Nat) (h : gHp) (a0 : Nat) (x1 : Int32) (x2 : Int32) : Option (gHp) := (bif gtin (gtag (h) a0) [7] then (bif gtin (gtag (gsetI (h) a0 3 ((if (4 : Int32) < ((if (60 : Int32) < x1 then (60 : Int32) else x1)) then ((if (60 : Int32) < x1 then (60 : Int32) else x1)) else (4 : Int32)))) a0) [7] then some (gsetI (gsetI (h) a0 3 ((if (4 : Int32) < ((if (60 : Int32) < x1 then (60 : Int32) else x1)) then ((if (60 : Int32) < x1 then (60 : Int32) else x1)) else (4 : Int32)))) a0 4 ((if (2 : Int32) < ((if (24 : Int32) < x2 then (24 : Int32) else x2)) then ((if (24 : Int32) < x2 then (24 : Int32) else x2)) else (2 : Int32)))) else none) else none)
set_option maxHeartbeats 4000000 in
set_option maxRecDepth 100000 in
theorem t_Tree_setScreen {d n a0 : Nat} {h : gHp} {x1 : Int32} {x2 : Int32} {res : gHp} {Q : Option gv → gHp → Prop} (hf : f_Tree_setScreen n h a0 x1 x2 = some res) (hQ : Q (none) res) : gCall (d + 1) m_Tree_setScreen [.inr (some a0), .inl x1, .inl x2] h Q := by
  unfold f_Tree_setScreen at hf
  refine g_enter (d := d + 0) (Nat.le_of_ble_eq_true rfl) ?_
  show gWP (gCall (d + 0)) m_Tree_setScreen Q 0 [some (.inr (some a0)), some (.inl x1), some (.inl x2)] [] h 0 0
  refine w_aload_n rfl rfl ?_
  refine w_iconst (v := (4 : Int32)) rfl (by decide) ?_
  refine w_iload_n rfl rfl ?_
  refine w_bipush (v := (60 : Int32)) rfl (by decide) ?_
  refine x_math rfl rfl (Nat.le_of_ble_eq_true rfl) (Nat.le_of_ble_eq_true rfl) (Nat.le_of_ble_eq_true rfl) ?_
  refine x_math rfl rfl (Nat.le_of_ble_eq_true rfl) (Nat.le_of_ble_eq_true rfl) (Nat.le_of_ble_eq_true rfl) ?_
  obtain ⟨hg, hf⟩ := g_guard hf
  refine x_putI hg rfl rfl (by decide) ?_
  refine w_aload_n rfl rfl ?_
  refine w_iconst (v := (2 : Int32)) rfl (by decide) ?_
  refine w_iload_n rfl rfl ?_
  refine w_bipush (v := (24 : Int32)) rfl (by decide) ?_
  refine x_math rfl rfl (Nat.le_of_ble_eq_true rfl) (Nat.le_of_ble_eq_true rfl) (Nat.le_of_ble_eq_true rfl) ?_
  refine x_math rfl rfl (Nat.le_of_ble_eq_true rfl) (Nat.le_of_ble_eq_true rfl) (Nat.le_of_ble_eq_true rfl) ?_
  obtain ⟨hg, hf⟩ := g_guard hf
  refine x_putI hg rfl rfl (by decide) ?_
  cases hf
  exact w_return rfl rfl (Nat.le_refl _) (Nat.le_refl _) hQ
def f_Tree_countOpen_B14 (a0 : Nat) : Nat → gHp → Int32 → Int32 → Option Nat → Int32 → Int32 → Option (Int32 × gHp)
  | 0, _, _, _, _, _, _ => none
  | n + 1, h, x1, x2, x3, x4, x5 => (if x4 ≤ x5 then some (x2, h) else (x3.bind (fun b2 => (bif (gArr (gtag (h) b2) 22 (x5) || gArr (gtag (h) b2) 23 (x5)) then (if (gref (h) b2 (ix (x5))) = none then f_Tree_countOpen_B14 a0 n (h) (x1) (x2) (x3) (x4) (x5 + (1 : Int32)) else (if x1 = (0 : Int32) then ((gref (h) b2 (ix (x5))).bind (fun b5 => (bif gtin (gtag (h) b5) [1, 3, 4, 5, 6] then (if (gint (h) b5 1) = (4 : Int32) then f_Tree_countOpen_B14 a0 n (h) (x1) (x2) (x3) (x4) (x5 + (1 : Int32)) else f_Tree_countOpen_B14 a0 n (h) (x1) (x2 + (1 : Int32)) (x3) (x4) (x5 + (1 : Int32))) else none))) else f_Tree_countOpen_B14 a0 n (h) (x1) (x2 + (1 : Int32)) (x3) (x4) (x5 + (1 : Int32)))) else none))))
set_option maxHeartbeats 4000000 in
set_option maxRecDepth 100000 in
theorem t_Tree_countOpen_B14 {d a0 : Nat} {Q : Option gv → gHp → Prop} {res : Int32 × gHp} (hQ : Q (some (.inl res.1)) res.2) : ∀ (n : Nat) (h : gHp) (x1 : Int32) (x2 : Int32) (x3 : Option Nat) (x4 : Int32) (x5 : Int32) (u6 : Option gv), f_Tree_countOpen_B14 a0 n h x1 x2 x3 x4 x5  = some res → gWP (gCall (d + 0)) m_Tree_countOpen Q 14 [some (.inr (some a0)), some (.inl x1), some (.inl x2), some (.inr x3), some (.inl x4), some (.inl x5), u6] [] h 0 0 := by
  intro n
  induction n with
  | zero =>
    intro h x1 x2 x3 x4 x5  u6 hf
    cases hf
  | succ n ih =>
    intro h x1 x2 x3 x4 x5  u6 hf
    unfold f_Tree_countOpen_B14 at hf
    refine w_iload rfl rfl ?_
    refine w_iload rfl rfl ?_
    refine w_icmp (t := 54) rfl (by decide) (fun c1 => ?_) (fun c1 => ?_)
    · have c1 : x4 ≤ x5 := c1
      rw [if_pos c1] at hf
      refine w_iload_n rfl rfl ?_
      cases hf
      exact w_ireturn rfl (int_ret _) (Nat.le_refl _) (Nat.le_refl _) hQ
    · have c1 : ¬ (x4 ≤ x5) := c1
      rw [if_neg c1] at hf
      refine w_aload_n rfl rfl ?_
      refine w_iload rfl rfl ?_
      obtain ⟨b2, ho, hf⟩ := g_bind hf
      refine x_dr1 ho ?_
      obtain ⟨hg, hf⟩ := g_guard hf
      refine x_ald hg rfl ?_
      refine w_astore rfl (Nat.le_of_ble_eq_true rfl) rfl ?_
      refine w_aload rfl rfl ?_
      refine w_ifnull (t := 48) rfl (by decide) (fun c3 => ?_) (fun c3 => ?_)
      · have c3 : (gref (h) b2 (ix (x5))) = none := c3
        rw [if_pos c3] at hf
        refine w_iinc (v := (1 : Int32)) rfl rfl (by decide) rfl ?_
        refine w_goto (t := 14) rfl (by decide) ?_
        exact ih _ (x1) (x2) (x3) (x4) (x5 + (1 : Int32)) _ hf
      · have c3 : ¬ ((gref (h) b2 (ix (x5))) = none) := c3
        rw [if_neg c3] at hf
        refine w_iload_n rfl rfl ?_
        refine w_if (t := 45) rfl (by decide) (fun c4 => ?_) (fun c4 => ?_)
        · have c4 : ¬ (x1 = (0 : Int32)) := c4
          rw [if_neg c4] at hf
          refine w_iinc (v := (1 : Int32)) rfl rfl (by decide) rfl ?_
          refine w_iinc (v := (1 : Int32)) rfl rfl (by decide) rfl ?_
          refine w_goto (t := 14) rfl (by decide) ?_
          exact ih _ (x1) (x2 + (1 : Int32)) (x3) (x4) (x5 + (1 : Int32)) _ hf
        · have c4 : x1 = (0 : Int32) := Classical.not_not.mp c4
          rw [if_pos c4] at hf
          refine w_aload rfl rfl ?_
          obtain ⟨b5, ho, hf⟩ := g_bind hf
          refine x_dr0 ho ?_
          obtain ⟨hg, hf⟩ := g_guard hf
          refine x_getI hg rfl rfl rfl ?_
          refine w_iconst (v := (4 : Int32)) rfl (by decide) ?_
          refine w_icmp (t := 48) rfl (by decide) (fun c6 => ?_) (fun c6 => ?_)
          · have c6 : (gint (h) b5 1) = (4 : Int32) := c6
            rw [if_pos c6] at hf
            refine w_iinc (v := (1 : Int32)) rfl rfl (by decide) rfl ?_
            refine w_goto (t := 14) rfl (by decide) ?_
            exact ih _ (x1) (x2) (x3) (x4) (x5 + (1 : Int32)) _ hf
          · have c6 : ¬ ((gint (h) b5 1) = (4 : Int32)) := c6
            rw [if_neg c6] at hf
            refine w_iinc (v := (1 : Int32)) rfl rfl (by decide) rfl ?_
            refine w_iinc (v := (1 : Int32)) rfl rfl (by decide) rfl ?_
            refine w_goto (t := 14) rfl (by decide) ?_
            exact ih _ (x1) (x2 + (1 : Int32)) (x3) (x4) (x5 + (1 : Int32)) _ hf
def f_Tree_countOpen (n : Nat) (h : gHp) (a0 : Nat) (x1 : Int32) : Option (Int32 × gHp) := (bif gtin (gtag (h) a0) [7] then ((gref (h) a0 0).bind (fun b1 => ((gtag (h) b1).bind (fun t2 => (bif (Nat.ble 20 t2.1 && Nat.ble t2.1 24) then f_Tree_countOpen_B14 a0  n (h) (x1) ((0 : Int32)) (gref (h) a0 0) (Int32.ofNat t2.2) ((0 : Int32))  else none))))) else none)
set_option maxHeartbeats 4000000 in
set_option maxRecDepth 100000 in
theorem t_Tree_countOpen {d n a0 : Nat} {h : gHp} {x1 : Int32} {res : Int32 × gHp} {Q : Option gv → gHp → Prop} (hf : f_Tree_countOpen n h a0 x1 = some res) (hQ : Q (some (.inl res.1)) res.2) : gCall (d + 1) m_Tree_countOpen [.inr (some a0), .inl x1] h Q := by
  unfold f_Tree_countOpen at hf
  refine g_enter (d := d + 0) (Nat.le_of_ble_eq_true rfl) ?_
  show gWP (gCall (d + 0)) m_Tree_countOpen Q 0 [some (.inr (some a0)), some (.inl x1), none, none, none, none, none] [] h 0 0
  refine w_iconst (v := (0 : Int32)) rfl (by decide) ?_
  refine w_istore_n rfl (Nat.le_of_ble_eq_true rfl) rfl ?_
  refine w_aload_n rfl rfl ?_
  obtain ⟨hg, hf⟩ := g_guard hf
  refine x_getR hg rfl rfl rfl ?_
  refine w_astore_n rfl (Nat.le_of_ble_eq_true rfl) rfl ?_
  refine w_aload_n rfl rfl ?_
  obtain ⟨b1, ho, hf⟩ := g_bind hf
  refine x_dr0 ho ?_
  obtain ⟨t2, ht, hf⟩ := g_bind hf
  obtain ⟨hg, hf⟩ := g_guard hf
  refine x_len ht hg rfl ?_
  refine w_istore rfl (Nat.le_of_ble_eq_true rfl) rfl ?_
  refine w_iconst (v := (0 : Int32)) rfl (by decide) ?_
  refine w_istore rfl (Nat.le_of_ble_eq_true rfl) rfl ?_
  exact t_Tree_countOpen_B14  hQ _ _ (x1) ((0 : Int32)) (gref (h) a0 0) (Int32.ofNat t2.2) ((0 : Int32))  _ hf
def f_Tree_hasRoomFor (n : Nat) (h : gHp) (a0 : Nat) (x1 : Int32) : Option (Int32 × gHp) := (bif gtin (gtag (h) a0) [7] then (if (60 : Int32) < ((gint (h) a0 1) + x1) then some ((0 : Int32), h) else (((bif gtis (gtag (h) a0) 7 then f_Tree_countOpen n (h) a0 ((0 : Int32)) else none)).bind (fun q2 => (if (12 : Int32) ≤ q2.1 then some ((0 : Int32), q2.2) else some ((1 : Int32), q2.2))))) else none)
set_option maxHeartbeats 4000000 in
set_option maxRecDepth 100000 in
theorem t_Tree_hasRoomFor {d n a0 : Nat} {h : gHp} {x1 : Int32} {res : Int32 × gHp} {Q : Option gv → gHp → Prop} (hf : f_Tree_hasRoomFor n h a0 x1 = some res) (hQ : Q (some (.inl res.1)) res.2) : gCall (d + 2) m_Tree_hasRoomFor [.inr (some a0), .inl x1] h Q := by
  unfold f_Tree_hasRoomFor at hf
  refine g_enter (d := d + 1) (Nat.le_of_ble_eq_true rfl) ?_
  show gWP (gCall (d + 1)) m_Tree_hasRoomFor Q 0 [some (.inr (some a0)), some (.inl x1)] [] h 0 0
  refine w_aload_n rfl rfl ?_
  obtain ⟨hg, hf⟩ := g_guard hf
  refine x_getI hg rfl rfl rfl ?_
  refine w_iload_n rfl rfl ?_
  refine w_iadd rfl ?_
  refine w_bipush (v := (60 : Int32)) rfl (by decide) ?_
  refine w_icmp (t := 25) rfl (by decide) (fun c1 => ?_) (fun c1 => ?_)
  · have c1 : (60 : Int32) < ((gint (h) a0 1) + x1) := c1
    rw [if_pos c1] at hf
    refine w_iconst (v := (0 : Int32)) rfl (by decide) ?_
    cases hf
    exact w_ireturn rfl (isZ_ret rfl) (Nat.le_refl _) (Nat.le_refl _) hQ
  · have c1 : ¬ ((60 : Int32) < ((gint (h) a0 1) + x1)) := c1
    rw [if_neg c1] at hf
    refine w_aload_n rfl rfl ?_
    refine w_iconst (v := (0 : Int32)) rfl (by decide) ?_
    obtain ⟨q2, hc, hf⟩ := g_bind hf
    obtain ⟨hg, hc⟩ := g_guard hc
    refine x_virt 7 [_] _ hg rfl rfl rfl rfl (Nat.le_of_ble_eq_true rfl) rfl (Nat.le_of_ble_eq_true rfl) (Nat.le_of_ble_eq_true rfl) (t_Tree_countOpen (d := d + 0) hc ?_)
    refine w_bipush (v := (12 : Int32)) rfl (by decide) ?_
    refine w_icmp (t := 25) rfl (by decide) (fun c3 => ?_) (fun c3 => ?_)
    · have c3 : (12 : Int32) ≤ q2.1 := c3
      rw [if_pos c3] at hf
      refine w_iconst (v := (0 : Int32)) rfl (by decide) ?_
      cases hf
      exact w_ireturn rfl (isZ_ret rfl) (Nat.le_refl _) (Nat.le_refl _) hQ
    · have c3 : ¬ ((12 : Int32) ≤ q2.1) := c3
      rw [if_neg c3] at hf
      refine w_iconst (v := (1 : Int32)) rfl (by decide) ?_
      refine w_goto (t := 26) rfl (by decide) ?_
      cases hf
      exact w_ireturn rfl (isZ_ret rfl) (Nat.le_refl _) (Nat.le_refl _) hQ
def f_Tree_find (n : Nat) (h : gHp) (a0 : Nat) (x1 : Int32) : Option (Option Nat × gHp) := (if x1 < (1 : Int32) then some (none, h) else (bif gtin (gtag (h) a0) [7] then ((gref (h) a0 0).bind (fun b2 => ((gtag (h) b2).bind (fun t3 => (bif (Nat.ble 20 t3.1 && Nat.ble t3.1 24) then (if (Int32.ofNat t3.2) ≤ x1 then some (none, h) else (bif gtin (gtag (h) a0) [7] then ((gref (h) a0 0).bind (fun b5 => (bif (gArr (gtag (h) b5) 22 (x1) || gArr (gtag (h) b5) 23 (x1)) then some (gref (h) b5 (ix (x1)), h) else none))) else none)) else none))))) else none))
set_option maxHeartbeats 4000000 in
set_option maxRecDepth 100000 in
theorem t_Tree_find {d n a0 : Nat} {h : gHp} {x1 : Int32} {res : Option Nat × gHp} {Q : Option gv → gHp → Prop} (hf : f_Tree_find n h a0 x1 = some res) (hQ : Q (some (.inr res.1)) res.2) : gCall (d + 1) m_Tree_find [.inr (some a0), .inl x1] h Q := by
  unfold f_Tree_find at hf
  refine g_enter (d := d + 0) (Nat.le_of_ble_eq_true rfl) ?_
  show gWP (gCall (d + 0)) m_Tree_find Q 0 [some (.inr (some a0)), some (.inl x1)] [] h 0 0
  refine w_iload_n rfl rfl ?_
  refine w_iconst (v := (1 : Int32)) rfl (by decide) ?_
  refine w_icmp (t := 23) rfl (by decide) (fun c1 => ?_) (fun c1 => ?_)
  · have c1 : x1 < (1 : Int32) := c1
    rw [if_pos c1] at hf
    refine w_null rfl ?_
    cases hf
    exact w_areturn rfl ⟨_, rfl, rfl⟩ (Nat.le_refl _) (Nat.le_refl _) hQ
  · have c1 : ¬ (x1 < (1 : Int32)) := c1
    rw [if_neg c1] at hf
    refine w_iload_n rfl rfl ?_
    refine w_aload_n rfl rfl ?_
    obtain ⟨hg, hf⟩ := g_guard hf
    refine x_getR hg rfl rfl rfl ?_
    obtain ⟨b2, ho, hf⟩ := g_bind hf
    refine x_dr0 ho ?_
    obtain ⟨t3, ht, hf⟩ := g_bind hf
    obtain ⟨hg, hf⟩ := g_guard hf
    refine x_len ht hg rfl ?_
    refine w_icmp (t := 23) rfl (by decide) (fun c4 => ?_) (fun c4 => ?_)
    · have c4 : (Int32.ofNat t3.2) ≤ x1 := c4
      rw [if_pos c4] at hf
      refine w_null rfl ?_
      cases hf
      exact w_areturn rfl ⟨_, rfl, rfl⟩ (Nat.le_refl _) (Nat.le_refl _) hQ
    · have c4 : ¬ ((Int32.ofNat t3.2) ≤ x1) := c4
      rw [if_neg c4] at hf
      refine w_aload_n rfl rfl ?_
      obtain ⟨hg, hf⟩ := g_guard hf
      refine x_getR hg rfl rfl rfl ?_
      refine w_iload_n rfl rfl ?_
      obtain ⟨b5, ho, hf⟩ := g_bind hf
      refine x_dr1 ho ?_
      obtain ⟨hg, hf⟩ := g_guard hf
      refine x_ald hg rfl ?_
      refine w_goto (t := 24) rfl (by decide) ?_
      cases hf
      exact w_areturn rfl ⟨_, rfl, rfl⟩ (Nat.le_refl _) (Nat.le_refl _) hQ
def f_Tree_replace (n : Nat) (h : gHp) (a0 : Nat) (x1 : Option Nat) (x2 : Option Nat) : Option (gHp) := (x1.bind (fun b1 => (bif gtin (gtag (h) b1) [1, 3, 4, 5, 6] then (x2.bind (fun b2 => (bif gtin (gtag (h) b2) [1, 3, 4, 5, 6] then (if (gref (h) b1 2) = none then (bif gtin (gtag (gsetR (h) b2 2 (gref (h) b1 2)) a0) [7] then some (gsetR (gsetR (h) b2 2 (gref (h) b1 2)) a0 2 (x2)) else none) else ((gref (h) b1 2).bind (fun b4 => (bif gtin (gtag (gsetR (h) b2 2 (gref (h) b1 2)) b4) [3] then (if (gref (gsetR (h) b2 2 (gref (h) b1 2)) b4 14) = x1 then ((gref (h) b1 2).bind (fun b6 => (bif gtin (gtag (gsetR (h) b2 2 (gref (h) b1 2)) b6) [3] then some (gsetR (gsetR (h) b2 2 (gref (h) b1 2)) b6 14 (x2)) else none))) else ((gref (h) b1 2).bind (fun b6 => (bif gtin (gtag (gsetR (h) b2 2 (gref (h) b1 2)) b6) [3] then some (gsetR (gsetR (h) b2 2 (gref (h) b1 2)) b6 15 (x2)) else none)))) else none)))) else none))) else none)))
set_option maxHeartbeats 4000000 in
set_option maxRecDepth 100000 in
theorem t_Tree_replace {d n a0 : Nat} {h : gHp} {x1 : Option Nat} {x2 : Option Nat} {res : gHp} {Q : Option gv → gHp → Prop} (hf : f_Tree_replace n h a0 x1 x2 = some res) (hQ : Q (none) res) : gCall (d + 1) m_Tree_replace [.inr (some a0), .inr x1, .inr x2] h Q := by
  unfold f_Tree_replace at hf
  refine g_enter (d := d + 0) (Nat.le_of_ble_eq_true rfl) ?_
  show gWP (gCall (d + 0)) m_Tree_replace Q 0 [some (.inr (some a0)), some (.inr x1), some (.inr x2), none] [] h 0 0
  refine w_aload_n rfl rfl ?_
  obtain ⟨b1, ho, hf⟩ := g_bind hf
  refine x_dr0 ho ?_
  obtain ⟨hg, hf⟩ := g_guard hf
  refine x_getR hg rfl rfl rfl ?_
  refine w_astore_n rfl (Nat.le_of_ble_eq_true rfl) rfl ?_
  refine w_aload_n rfl rfl ?_
  refine w_aload_n rfl rfl ?_
  obtain ⟨b2, ho, hf⟩ := g_bind hf
  refine x_dr1 ho ?_
  obtain ⟨hg, hf⟩ := g_guard hf
  refine x_putR hg rfl rfl (by decide) ?_
  refine w_aload_n rfl rfl ?_
  refine w_ifnonnull (t := 22) rfl (by decide) (fun c3 => ?_) (fun c3 => ?_)
  · have c3 : ¬ ((gref (h) b1 2) = none) := c3
    rw [if_neg c3] at hf
    refine w_aload_n rfl rfl ?_
    obtain ⟨b4, ho, hf⟩ := g_bind hf
    refine x_dr0 ho ?_
    obtain ⟨hg, hf⟩ := g_guard hf
    refine x_getR hg rfl rfl rfl ?_
    refine w_aload_n rfl rfl ?_
    refine w_acmp_ne (t := 38) rfl (by decide) (fun c5 => ?_) (fun c5 => ?_)
    · have c5 : ¬ ((gref (gsetR (h) b2 2 (gref (h) b1 2)) b4 14) = x1) := c5
      rw [if_neg c5] at hf
      refine w_aload_n rfl rfl ?_
      refine w_aload_n rfl rfl ?_
      obtain ⟨b6, ho, hf⟩ := g_bind hf
      refine x_dr1 ho ?_
      obtain ⟨hg, hf⟩ := g_guard hf
      refine x_putR hg rfl rfl (by decide) ?_
      cases hf
      exact w_return rfl rfl (Nat.le_refl _) (Nat.le_refl _) hQ
    · have c5 : (gref (gsetR (h) b2 2 (gref (h) b1 2)) b4 14) = x1 := c5
      rw [if_pos c5] at hf
      refine w_aload_n rfl rfl ?_
      refine w_aload_n rfl rfl ?_
      obtain ⟨b6, ho, hf⟩ := g_bind hf
      refine x_dr1 ho ?_
      obtain ⟨hg, hf⟩ := g_guard hf
      refine x_putR hg rfl rfl (by decide) ?_
      refine w_goto (t := 43) rfl (by decide) ?_
      cases hf
      exact w_return rfl rfl (Nat.le_refl _) (Nat.le_refl _) hQ
  · have c3 : (gref (h) b1 2) = none := c3
    rw [if_pos c3] at hf
    refine w_aload_n rfl rfl ?_
    refine w_aload_n rfl rfl ?_
    obtain ⟨hg, hf⟩ := g_guard hf
    refine x_putR hg rfl rfl (by decide) ?_
    refine w_goto (t := 43) rfl (by decide) ?_
    cases hf
    exact w_return rfl rfl (Nat.le_refl _) (Nat.le_refl _) hQ
def f_Tree_forget (n : Nat) (h : gHp) (a0 : Nat) (x1 : Option Nat) : Option (gHp) := (x1.bind (fun b1 => (bif gtin (gtag (h) b1) [1, 3, 4, 5, 6] then (if (gint (h) b1 0) < (1 : Int32) then some (h) else (x1.bind (fun b3 => (bif gtin (gtag (h) b3) [1, 3, 4, 5, 6] then (bif gtin (gtag (h) a0) [7] then ((gref (h) a0 0).bind (fun b4 => ((gtag (h) b4).bind (fun t5 => (bif (Nat.ble 20 t5.1 && Nat.ble t5.1 24) then (if (Int32.ofNat t5.2) ≤ (gint (h) b3 0) then some (h) else (bif gtin (gtag (h) a0) [7] then (x1.bind (fun b7 => (bif gtin (gtag (h) b7) [1, 3, 4, 5, 6] then ((gref (h) a0 0).bind (fun b8 => (bif gArr (gtag (h) b8) 22 (gint (h) b7 0) then (bif gPnk (h) (none) then some (gsetR (h) b8 (ix (gint (h) b7 0)) (none)) else none) else none))) else none))) else none)) else none))))) else none) else none)))) else none)))
set_option maxHeartbeats 4000000 in
set_option maxRecDepth 100000 in
theorem t_Tree_forget {d n a0 : Nat} {h : gHp} {x1 : Option Nat} {res : gHp} {Q : Option gv → gHp → Prop} (hf : f_Tree_forget n h a0 x1 = some res) (hQ : Q (none) res) : gCall (d + 1) m_Tree_forget [.inr (some a0), .inr x1] h Q := by
  unfold f_Tree_forget at hf
  refine g_enter (d := d + 0) (Nat.le_of_ble_eq_true rfl) ?_
  show gWP (gCall (d + 0)) m_Tree_forget Q 0 [some (.inr (some a0)), some (.inr x1)] [] h 0 0
  refine w_aload_n rfl rfl ?_
  obtain ⟨b1, ho, hf⟩ := g_bind hf
  refine x_dr0 ho ?_
  obtain ⟨hg, hf⟩ := g_guard hf
  refine x_getI hg rfl rfl rfl ?_
  refine w_iconst (v := (1 : Int32)) rfl (by decide) ?_
  refine w_icmp (t := 30) rfl (by decide) (fun c2 => ?_) (fun c2 => ?_)
  · have c2 : (gint (h) b1 0) < (1 : Int32) := c2
    rw [if_pos c2] at hf
    cases hf
    exact w_return rfl rfl (Nat.le_refl _) (Nat.le_refl _) hQ
  · have c2 : ¬ ((gint (h) b1 0) < (1 : Int32)) := c2
    rw [if_neg c2] at hf
    refine w_aload_n rfl rfl ?_
    obtain ⟨b3, ho, hf⟩ := g_bind hf
    refine x_dr0 ho ?_
    obtain ⟨hg, hf⟩ := g_guard hf
    refine x_getI hg rfl rfl rfl ?_
    refine w_aload_n rfl rfl ?_
    obtain ⟨hg, hf⟩ := g_guard hf
    refine x_getR hg rfl rfl rfl ?_
    obtain ⟨b4, ho, hf⟩ := g_bind hf
    refine x_dr0 ho ?_
    obtain ⟨t5, ht, hf⟩ := g_bind hf
    obtain ⟨hg, hf⟩ := g_guard hf
    refine x_len ht hg rfl ?_
    refine w_icmp (t := 30) rfl (by decide) (fun c6 => ?_) (fun c6 => ?_)
    · have c6 : (Int32.ofNat t5.2) ≤ (gint (h) b3 0) := c6
      rw [if_pos c6] at hf
      cases hf
      exact w_return rfl rfl (Nat.le_refl _) (Nat.le_refl _) hQ
    · have c6 : ¬ ((Int32.ofNat t5.2) ≤ (gint (h) b3 0)) := c6
      rw [if_neg c6] at hf
      refine w_aload_n rfl rfl ?_
      obtain ⟨hg, hf⟩ := g_guard hf
      refine x_getR hg rfl rfl rfl ?_
      refine w_aload_n rfl rfl ?_
      obtain ⟨b7, ho, hf⟩ := g_bind hf
      refine x_dr0 ho ?_
      obtain ⟨hg, hf⟩ := g_guard hf
      refine x_getI hg rfl rfl rfl ?_
      refine w_null rfl ?_
      obtain ⟨b8, ho, hf⟩ := g_bind hf
      refine x_dr2 ho ?_
      obtain ⟨hg, hf⟩ := g_guard hf
      obtain ⟨hp, hf⟩ := g_guard hf
      refine x_ast hg hp rfl ?_
      cases hf
      exact w_return rfl rfl (Nat.le_refl _) (Nat.le_refl _) hQ
def f_G_isBelow_B4 : Nat → gHp → Option Nat → Option Nat → Int32 → Option (Int32 × gHp)
  | 0, _, _, _, _ => none
  | n + 1, h, x1, x2, x3 => (if (60 : Int32) ≤ x3 then some ((0 : Int32), h) else (if x2 = none then some ((0 : Int32), h) else (x2.bind (fun b3 => (bif gtin (gtag (h) b3) [1, 3, 4, 5, 6] then (if (gref (h) b3 2) = x1 then some ((1 : Int32), h) else f_G_isBelow_B4 n (h) (x1) (gref (h) b3 2) (x3 + (1 : Int32))) else none)))))
set_option maxHeartbeats 4000000 in
set_option maxRecDepth 100000 in
theorem t_G_isBelow_B4 {d : Nat} {Q : Option gv → gHp → Prop} {res : Int32 × gHp} (hQ : Q (some (.inl res.1)) res.2) : ∀ (n : Nat) (h : gHp) (x1 : Option Nat) (x2 : Option Nat) (x3 : Int32) (u0 : Option gv), f_G_isBelow_B4 n h x1 x2 x3  = some res → gWP (gCall (d + 0)) m_G_isBelow Q 4 [u0, some (.inr x1), some (.inr x2), some (.inl x3)] [] h 0 0 := by
  intro n
  induction n with
  | zero =>
    intro h x1 x2 x3  u0 hf
    cases hf
  | succ n ih =>
    intro h x1 x2 x3  u0 hf
    unfold f_G_isBelow_B4 at hf
    refine w_iload_n rfl rfl ?_
    refine w_bipush (v := (60 : Int32)) rfl (by decide) ?_
    refine w_icmp (t := 32) rfl (by decide) (fun c1 => ?_) (fun c1 => ?_)
    · have c1 : (60 : Int32) ≤ x3 := c1
      rw [if_pos c1] at hf
      refine w_iconst (v := (0 : Int32)) rfl (by decide) ?_
      cases hf
      exact w_ireturn rfl (isZ_ret rfl) (Nat.le_refl _) (Nat.le_refl _) hQ
    · have c1 : ¬ ((60 : Int32) ≤ x3) := c1
      rw [if_neg c1] at hf
      refine w_aload_n rfl rfl ?_
      refine w_ifnull (t := 32) rfl (by decide) (fun c2 => ?_) (fun c2 => ?_)
      · have c2 : x2 = none := c2
        rw [if_pos c2] at hf
        refine w_iconst (v := (0 : Int32)) rfl (by decide) ?_
        cases hf
        exact w_ireturn rfl (isZ_ret rfl) (Nat.le_refl _) (Nat.le_refl _) hQ
      · have c2 : ¬ (x2 = none) := c2
        rw [if_neg c2] at hf
        refine w_aload_n rfl rfl ?_
        obtain ⟨b3, ho, hf⟩ := g_bind hf
        refine x_dr0 ho ?_
        obtain ⟨hg, hf⟩ := g_guard hf
        refine x_getR hg rfl rfl rfl ?_
        refine w_astore_n rfl (Nat.le_of_ble_eq_true rfl) rfl ?_
        refine w_aload_n rfl rfl ?_
        refine w_aload_n rfl rfl ?_
        refine w_acmp_ne (t := 26) rfl (by decide) (fun c4 => ?_) (fun c4 => ?_)
        · have c4 : ¬ ((gref (h) b3 2) = x1) := c4
          rw [if_neg c4] at hf
          refine w_iinc (v := (1 : Int32)) rfl rfl (by decide) rfl ?_
          refine w_goto (t := 4) rfl (by decide) ?_
          exact ih _ (x1) (gref (h) b3 2) (x3 + (1 : Int32)) _ hf
        · have c4 : (gref (h) b3 2) = x1 := c4
          rw [if_pos c4] at hf
          refine w_iconst (v := (1 : Int32)) rfl (by decide) ?_
          cases hf
          exact w_ireturn rfl (isZ_ret rfl) (Nat.le_refl _) (Nat.le_refl _) hQ
def f_G_isBelow (n : Nat) (h : gHp) (x0 : Option Nat) (x1 : Option Nat) : Option (Int32 × gHp) := f_G_isBelow_B4  n (h) (x1) (x0) ((0 : Int32)) 
set_option maxHeartbeats 4000000 in
set_option maxRecDepth 100000 in
theorem t_G_isBelow {d n : Nat} {h : gHp} {x0 : Option Nat} {x1 : Option Nat} {res : Int32 × gHp} {Q : Option gv → gHp → Prop} (hf : f_G_isBelow n h x0 x1 = some res) (hQ : Q (some (.inl res.1)) res.2) : gCall (d + 1) m_G_isBelow [.inr x0, .inr x1] h Q := by
  unfold f_G_isBelow at hf
  refine g_enter (d := d + 0) (Nat.le_of_ble_eq_true rfl) ?_
  show gWP (gCall (d + 0)) m_G_isBelow Q 0 [some (.inr x0), some (.inr x1), none, none] [] h 0 0
  refine w_aload_n rfl rfl ?_
  refine w_astore_n rfl (Nat.le_of_ble_eq_true rfl) rfl ?_
  refine w_iconst (v := (0 : Int32)) rfl (by decide) ?_
  refine w_istore_n rfl (Nat.le_of_ble_eq_true rfl) rfl ?_
  exact t_G_isBelow_B4  hQ _ _ (x1) (x0) ((0 : Int32))  _ hf
def f_Tree_forgetWithAllBelow_B2 (a0 : Nat) : Nat → gHp → Option Nat → Int32 → Option (gHp)
  | 0, _, _, _ => none
  | n + 1, h, x1, x2 => (bif gtin (gtag (h) a0) [7] then ((gref (h) a0 0).bind (fun b1 => ((gtag (h) b1).bind (fun t2 => (bif (Nat.ble 20 t2.1 && Nat.ble t2.1 24) then (if (Int32.ofNat t2.2) ≤ x2 then some (h) else (bif gtin (gtag (h) a0) [7] then ((gref (h) a0 0).bind (fun b4 => (bif (gArr (gtag (h) b4) 22 (x2) || gArr (gtag (h) b4) 23 (x2)) then (if (gref (h) b4 (ix (x2))) = none then f_Tree_forgetWithAllBelow_B2 a0 n (h) (x1) (x2 + (1 : Int32)) else (if (gref (h) b4 (ix (x2))) = x1 then (bif gtin (gtag (h) a0) [7] then ((gref (h) a0 0).bind (fun b7 => (bif gArr (gtag (h) b7) 22 (x2) then (bif gPnk (h) (none) then f_Tree_forgetWithAllBelow_B2 a0 n (gsetR (h) b7 (ix (x2)) (none)) (x1) (x2 + (1 : Int32)) else none) else none))) else none) else ((f_G_isBelow n (h) (gref (h) b4 (ix (x2))) (x1)).bind (fun q7 => (if q7.1 = (0 : Int32) then f_Tree_forgetWithAllBelow_B2 a0 n (q7.2) (x1) (x2 + (1 : Int32)) else (bif gtin (gtag (q7.2) a0) [7] then ((gref (q7.2) a0 0).bind (fun b9 => (bif gArr (gtag (q7.2) b9) 22 (x2) then (bif gPnk (q7.2) (none) then f_Tree_forgetWithAllBelow_B2 a0 n (gsetR (q7.2) b9 (ix (x2)) (none)) (x1) (x2 + (1 : Int32)) else none) else none))) else none)))))) else none))) else none)) else none))))) else none)
set_option maxHeartbeats 4000000 in
set_option maxRecDepth 100000 in
theorem t_Tree_forgetWithAllBelow_B2 {d a0 : Nat} {Q : Option gv → gHp → Prop} {res : gHp} (hQ : Q (none) res) : ∀ (n : Nat) (h : gHp) (x1 : Option Nat) (x2 : Int32) (u3 : Option gv), f_Tree_forgetWithAllBelow_B2 a0 n h x1 x2  = some res → gWP (gCall (d + 1)) m_Tree_forgetWithAllBelow Q 2 [some (.inr (some a0)), some (.inr x1), some (.inl x2), u3] [] h 0 0 := by
  intro n
  induction n with
  | zero =>
    intro h x1 x2  u3 hf
    cases hf
  | succ n ih =>
    intro h x1 x2  u3 hf
    unfold f_Tree_forgetWithAllBelow_B2 at hf
    refine w_iload_n rfl rfl ?_
    refine w_aload_n rfl rfl ?_
    obtain ⟨hg, hf⟩ := g_guard hf
    refine x_getR hg rfl rfl rfl ?_
    obtain ⟨b1, ho, hf⟩ := g_bind hf
    refine x_dr0 ho ?_
    obtain ⟨t2, ht, hf⟩ := g_bind hf
    obtain ⟨hg, hf⟩ := g_guard hf
    refine x_len ht hg rfl ?_
    refine w_icmp (t := 48) rfl (by decide) (fun c3 => ?_) (fun c3 => ?_)
    · have c3 : (Int32.ofNat t2.2) ≤ x2 := c3
      rw [if_pos c3] at hf
      cases hf
      exact w_return rfl rfl (Nat.le_refl _) (Nat.le_refl _) hQ
    · have c3 : ¬ ((Int32.ofNat t2.2) ≤ x2) := c3
      rw [if_neg c3] at hf
      refine w_aload_n rfl rfl ?_
      obtain ⟨hg, hf⟩ := g_guard hf
      refine x_getR hg rfl rfl rfl ?_
      refine w_iload_n rfl rfl ?_
      obtain ⟨b4, ho, hf⟩ := g_bind hf
      refine x_dr1 ho ?_
      obtain ⟨hg, hf⟩ := g_guard hf
      refine x_ald hg rfl ?_
      refine w_astore_n rfl (Nat.le_of_ble_eq_true rfl) rfl ?_
      refine w_aload_n rfl rfl ?_
      refine w_ifnull (t := 42) rfl (by decide) (fun c5 => ?_) (fun c5 => ?_)
      · have c5 : (gref (h) b4 (ix (x2))) = none := c5
        rw [if_pos c5] at hf
        refine w_iinc (v := (1 : Int32)) rfl rfl (by decide) rfl ?_
        refine w_goto (t := 2) rfl (by decide) ?_
        exact ih _ (x1) (x2 + (1 : Int32)) _ hf
      · have c5 : ¬ ((gref (h) b4 (ix (x2))) = none) := c5
        rw [if_neg c5] at hf
        refine w_aload_n rfl rfl ?_
        refine w_aload_n rfl rfl ?_
        refine w_acmp_eq (t := 35) rfl (by decide) (fun c6 => ?_) (fun c6 => ?_)
        · have c6 : (gref (h) b4 (ix (x2))) = x1 := c6
          rw [if_pos c6] at hf
          refine w_aload_n rfl rfl ?_
          obtain ⟨hg, hf⟩ := g_guard hf
          refine x_getR hg rfl rfl rfl ?_
          refine w_iload_n rfl rfl ?_
          refine w_null rfl ?_
          obtain ⟨b7, ho, hf⟩ := g_bind hf
          refine x_dr2 ho ?_
          obtain ⟨hg, hf⟩ := g_guard hf
          obtain ⟨hp, hf⟩ := g_guard hf
          refine x_ast hg hp rfl ?_
          refine w_iinc (v := (1 : Int32)) rfl rfl (by decide) rfl ?_
          refine w_goto (t := 2) rfl (by decide) ?_
          exact ih _ (x1) (x2 + (1 : Int32)) _ hf
        · have c6 : ¬ ((gref (h) b4 (ix (x2))) = x1) := c6
          rw [if_neg c6] at hf
          refine w_aload_n rfl rfl ?_
          refine w_aload_n rfl rfl ?_
          obtain ⟨q7, hc, hf⟩ := g_bind hf
          refine w_static [_, _] _ rfl rfl rfl rfl (Nat.le_of_ble_eq_true rfl) (Nat.le_of_ble_eq_true rfl) (Nat.le_of_ble_eq_true rfl) (t_G_isBelow (d := d + 0) hc ?_)
          refine w_if (t := 42) rfl (by decide) (fun c8 => ?_) (fun c8 => ?_)
          · have c8 : q7.1 = (0 : Int32) := c8
            rw [if_pos c8] at hf
            refine w_iinc (v := (1 : Int32)) rfl rfl (by decide) rfl ?_
            refine w_goto (t := 2) rfl (by decide) ?_
            exact ih _ (x1) (x2 + (1 : Int32)) _ hf
          · have c8 : ¬ (q7.1 = (0 : Int32)) := c8
            rw [if_neg c8] at hf
            refine w_aload_n rfl rfl ?_
            obtain ⟨hg, hf⟩ := g_guard hf
            refine x_getR hg rfl rfl rfl ?_
            refine w_iload_n rfl rfl ?_
            refine w_null rfl ?_
            obtain ⟨b9, ho, hf⟩ := g_bind hf
            refine x_dr2 ho ?_
            obtain ⟨hg, hf⟩ := g_guard hf
            obtain ⟨hp, hf⟩ := g_guard hf
            refine x_ast hg hp rfl ?_
            refine w_iinc (v := (1 : Int32)) rfl rfl (by decide) rfl ?_
            refine w_goto (t := 2) rfl (by decide) ?_
            exact ih _ (x1) (x2 + (1 : Int32)) _ hf
def f_Tree_forgetWithAllBelow (n : Nat) (h : gHp) (a0 : Nat) (x1 : Option Nat) : Option (gHp) := f_Tree_forgetWithAllBelow_B2 a0  n (h) (x1) ((1 : Int32)) 
set_option maxHeartbeats 4000000 in
set_option maxRecDepth 100000 in
theorem t_Tree_forgetWithAllBelow {d n a0 : Nat} {h : gHp} {x1 : Option Nat} {res : gHp} {Q : Option gv → gHp → Prop} (hf : f_Tree_forgetWithAllBelow n h a0 x1 = some res) (hQ : Q (none) res) : gCall (d + 2) m_Tree_forgetWithAllBelow [.inr (some a0), .inr x1] h Q := by
  unfold f_Tree_forgetWithAllBelow at hf
  refine g_enter (d := d + 1) (Nat.le_of_ble_eq_true rfl) ?_
  show gWP (gCall (d + 1)) m_Tree_forgetWithAllBelow Q 0 [some (.inr (some a0)), some (.inr x1), none, none] [] h 0 0
  refine w_iconst (v := (1 : Int32)) rfl (by decide) ?_
  refine w_istore_n rfl (Nat.le_of_ble_eq_true rfl) rfl ?_
  exact t_Tree_forgetWithAllBelow_B2  hQ _ _ (x1) ((1 : Int32))  _ hf
def f_Tree_forgetClosedKeys_B2 (a0 : Nat) : Nat → gHp → Int32 → Option (gHp)
  | 0, _, _ => none
  | n + 1, h, x1 => (bif gtin (gtag (h) a0) [7] then ((gref (h) a0 0).bind (fun b1 => ((gtag (h) b1).bind (fun t2 => (bif (Nat.ble 20 t2.1 && Nat.ble t2.1 24) then (if (Int32.ofNat t2.2) ≤ x1 then some (h) else (bif gtin (gtag (h) a0) [7] then ((gref (h) a0 0).bind (fun b4 => (bif (gArr (gtag (h) b4) 22 (x1) || gArr (gtag (h) b4) 23 (x1)) then ((gInst (h) (gref (h) b4 (ix (x1))) "GlkPanes$Pair").bind (fun i5 => (if i5 = (0 : Int32) then f_Tree_forgetClosedKeys_B2 a0 n (h) (x1 + (1 : Int32)) else (bif gCas (h) (gref (h) b4 (ix (x1))) "GlkPanes$Pair" then ((gref (h) b4 (ix (x1))).bind (fun b7 => (bif gtin (gtag (h) b7) [3] then (if (gref (h) b7 13) = none then f_Tree_forgetClosedKeys_B2 a0 n (h) (x1 + (1 : Int32)) else ((gref (h) b4 (ix (x1))).bind (fun b9 => (bif gtin (gtag (h) b9) [3] then ((gref (h) b9 13).bind (fun b10 => (bif gtin (gtag (h) b10) [1, 3, 4, 5, 6] then (((bif gtis (gtag (h) a0) 7 then f_Tree_find n (h) a0 (gint (h) b10 0) else none)).bind (fun q11 => (if q11.1 = none then ((gref (h) b4 (ix (x1))).bind (fun b13 => (bif gtin (gtag (q11.2) b13) [3] then f_Tree_forgetClosedKeys_B2 a0 n (gsetR (q11.2) b13 13 (none)) (x1 + (1 : Int32)) else none))) else f_Tree_forgetClosedKeys_B2 a0 n (q11.2) (x1 + (1 : Int32))))) else none))) else none)))) else none))) else none)))) else none))) else none)) else none))))) else none)
set_option maxHeartbeats 4000000 in
set_option maxRecDepth 100000 in
theorem t_Tree_forgetClosedKeys_B2 {d a0 : Nat} {Q : Option gv → gHp → Prop} {res : gHp} (hQ : Q (none) res) : ∀ (n : Nat) (h : gHp) (x1 : Int32) (u2 : Option gv) (u3 : Option gv), f_Tree_forgetClosedKeys_B2 a0 n h x1  = some res → gWP (gCall (d + 1)) m_Tree_forgetClosedKeys Q 2 [some (.inr (some a0)), some (.inl x1), u2, u3] [] h 0 0 := by
  intro n
  induction n with
  | zero =>
    intro h x1  u2 u3 hf
    cases hf
  | succ n ih =>
    intro h x1  u2 u3 hf
    unfold f_Tree_forgetClosedKeys_B2 at hf
    refine w_iload_n rfl rfl ?_
    refine w_aload_n rfl rfl ?_
    obtain ⟨hg, hf⟩ := g_guard hf
    refine x_getR hg rfl rfl rfl ?_
    obtain ⟨b1, ho, hf⟩ := g_bind hf
    refine x_dr0 ho ?_
    obtain ⟨t2, ht, hf⟩ := g_bind hf
    obtain ⟨hg, hf⟩ := g_guard hf
    refine x_len ht hg rfl ?_
    refine w_icmp (t := 62) rfl (by decide) (fun c3 => ?_) (fun c3 => ?_)
    · have c3 : (Int32.ofNat t2.2) ≤ x1 := c3
      rw [if_pos c3] at hf
      cases hf
      exact w_return rfl rfl (Nat.le_refl _) (Nat.le_refl _) hQ
    · have c3 : ¬ ((Int32.ofNat t2.2) ≤ x1) := c3
      rw [if_neg c3] at hf
      refine w_aload_n rfl rfl ?_
      obtain ⟨hg, hf⟩ := g_guard hf
      refine x_getR hg rfl rfl rfl ?_
      refine w_iload_n rfl rfl ?_
      obtain ⟨b4, ho, hf⟩ := g_bind hf
      refine x_dr1 ho ?_
      obtain ⟨hg, hf⟩ := g_guard hf
      refine x_ald hg rfl ?_
      refine w_astore_n rfl (Nat.le_of_ble_eq_true rfl) rfl ?_
      refine w_aload_n rfl rfl ?_
      obtain ⟨i5, hg, hf⟩ := g_bind hf
      refine x_inst hg rfl rfl ?_
      refine w_if (t := 56) rfl (by decide) (fun c6 => ?_) (fun c6 => ?_)
      · have c6 : i5 = (0 : Int32) := c6
        rw [if_pos c6] at hf
        refine w_iinc (v := (1 : Int32)) rfl rfl (by decide) rfl ?_
        refine w_goto (t := 2) rfl (by decide) ?_
        exact ih _ (x1 + (1 : Int32)) _ _ hf
      · have c6 : ¬ (i5 = (0 : Int32)) := c6
        rw [if_neg c6] at hf
        refine w_aload_n rfl rfl ?_
        obtain ⟨hg, hf⟩ := g_guard hf
        refine x_cast hg rfl rfl ?_
        refine w_astore_n rfl (Nat.le_of_ble_eq_true rfl) rfl ?_
        refine w_aload_n rfl rfl ?_
        obtain ⟨b7, ho, hf⟩ := g_bind hf
        refine x_dr0 ho ?_
        obtain ⟨hg, hf⟩ := g_guard hf
        refine x_getR hg rfl rfl rfl ?_
        refine w_ifnull (t := 56) rfl (by decide) (fun c8 => ?_) (fun c8 => ?_)
        · have c8 : (gref (h) b7 13) = none := c8
          rw [if_pos c8] at hf
          refine w_iinc (v := (1 : Int32)) rfl rfl (by decide) rfl ?_
          refine w_goto (t := 2) rfl (by decide) ?_
          exact ih _ (x1 + (1 : Int32)) _ _ hf
        · have c8 : ¬ ((gref (h) b7 13) = none) := c8
          rw [if_neg c8] at hf
          refine w_aload_n rfl rfl ?_
          refine w_aload_n rfl rfl ?_
          obtain ⟨b9, ho, hf⟩ := g_bind hf
          refine x_dr0 ho ?_
          obtain ⟨hg, hf⟩ := g_guard hf
          refine x_getR hg rfl rfl rfl ?_
          obtain ⟨b10, ho, hf⟩ := g_bind hf
          refine x_dr0 ho ?_
          obtain ⟨hg, hf⟩ := g_guard hf
          refine x_getI hg rfl rfl rfl ?_
          obtain ⟨q11, hc, hf⟩ := g_bind hf
          obtain ⟨hg, hc⟩ := g_guard hc
          refine x_virt 7 [_] _ hg rfl rfl rfl rfl (Nat.le_of_ble_eq_true rfl) rfl (Nat.le_of_ble_eq_true rfl) (Nat.le_of_ble_eq_true rfl) (t_Tree_find (d := d + 0) hc ?_)
          refine w_ifnonnull (t := 56) rfl (by decide) (fun c12 => ?_) (fun c12 => ?_)
          · have c12 : ¬ (q11.1 = none) := c12
            rw [if_neg c12] at hf
            refine w_iinc (v := (1 : Int32)) rfl rfl (by decide) rfl ?_
            refine w_goto (t := 2) rfl (by decide) ?_
            exact ih _ (x1 + (1 : Int32)) _ _ hf
          · have c12 : q11.1 = none := c12
            rw [if_pos c12] at hf
            refine w_aload_n rfl rfl ?_
            refine w_null rfl ?_
            obtain ⟨b13, ho, hf⟩ := g_bind hf
            refine x_dr1 ho ?_
            obtain ⟨hg, hf⟩ := g_guard hf
            refine x_putR hg rfl rfl (by decide) ?_
            refine w_iinc (v := (1 : Int32)) rfl rfl (by decide) rfl ?_
            refine w_goto (t := 2) rfl (by decide) ?_
            exact ih _ (x1 + (1 : Int32)) _ _ hf
def f_Tree_forgetClosedKeys (n : Nat) (h : gHp) (a0 : Nat) : Option (gHp) := f_Tree_forgetClosedKeys_B2 a0  n (h) ((1 : Int32)) 
set_option maxHeartbeats 4000000 in
set_option maxRecDepth 100000 in
theorem t_Tree_forgetClosedKeys {d n a0 : Nat} {h : gHp} {res : gHp} {Q : Option gv → gHp → Prop} (hf : f_Tree_forgetClosedKeys n h a0  = some res) (hQ : Q (none) res) : gCall (d + 2) m_Tree_forgetClosedKeys [.inr (some a0)] h Q := by
  unfold f_Tree_forgetClosedKeys at hf
  refine g_enter (d := d + 1) (Nat.le_of_ble_eq_true rfl) ?_
  show gWP (gCall (d + 1)) m_Tree_forgetClosedKeys Q 0 [some (.inr (some a0)), none, none, none] [] h 0 0
  refine w_iconst (v := (1 : Int32)) rfl (by decide) ?_
  refine w_istore_n rfl (Nat.le_of_ble_eq_true rfl) rfl ?_
  exact t_Tree_forgetClosedKeys_B2  hQ _ _ ((1 : Int32))  _ _ hf
