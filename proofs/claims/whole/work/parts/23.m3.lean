def f_M_findLines_B60 (rec52 : MS → Int32 → Int32 → Int32 → Option (MS)) : Nat → MS → Int32 → Int32 → Int32 → Int32 → Option (MS)
  | 0, _, _, _, _, _ => none
  | n + 1, S, x1, x2, x3, x4 => (if x2 ≤ x4 then (if x4 = x3 then ((f_M_line n (S) (x3) ((0 : Int32))).bind (fun q3 => ((f_M_findParts n (q3) (x1) (x3) (x4)).bind (fun q4 => rec52 (q4) (x1) (x2) (x4 + (1 : Int32)))))) else ((f_M_findParts n (S) (x1) (x3) (x4)).bind (fun q3 => rec52 (q3) (x1) (x2) (x4 + (1 : Int32))))) else ((f_M_signAt n (S) (x1) (x4)).bind (fun q2 => (if q2.1 = (10 : Int32) then (if x4 = x3 then ((f_M_line n (q2.2) (x3) ((0 : Int32))).bind (fun q5 => ((f_M_findParts n (q5) (x1) (x3) (x4)).bind (fun q6 => rec52 (q6) (x1) (x2) (x4 + (1 : Int32)))))) else ((f_M_findParts n (q2.2) (x1) (x3) (x4)).bind (fun q5 => rec52 (q5) (x1) (x2) (x4 + (1 : Int32))))) else f_M_findLines_B60 rec52 n (q2.2) (x1) (x2) (x3) (x4 + (1 : Int32))))))
set_option maxHeartbeats 4000000 in
set_option maxRecDepth 100000 in
theorem t_M_findLines_B60 {d m : Nat} {ad : Nat → Nat} {h0 : gHp} {Q : Option gv → gHp → Prop} {res : MS} {rec52 : MS → Int32 → Int32 → Int32 → Option (MS)} (hrec52 : ∀ (S : MS) (x1 : Int32) (x2 : Int32) (x3 : Int32) (u4 : Option gv) (h : gHp), rec52 S x1 x2 x3 = some res → MR h0 h m ad S → gWP (gCall (d + 2)) m_M_findLines Q 52 [some (.inr (some m)), some (.inl x1), some (.inl x2), some (.inl x3), u4] [] h 0 0) (hQ : ∀ h', MR h0 h' m ad res → Q (none) h') : ∀ (n : Nat) (S : MS) (x1 : Int32) (x2 : Int32) (x3 : Int32) (x4 : Int32) (h : gHp), f_M_findLines_B60 rec52 n S x1 x2 x3 x4  = some res → MR h0 h m ad S → gWP (gCall (d + 2)) m_M_findLines Q 60 [some (.inr (some m)), some (.inl x1), some (.inl x2), some (.inl x3), some (.inl x4)] [] h 0 0 := by
  intro n
  induction n with
  | zero =>
    intro S x1 x2 x3 x4   h hf
    cases hf
  | succ n ih =>
    intro S x1 x2 x3 x4   h hf hM
    unfold f_M_findLines_B60 at hf
    refine w_iload rfl rfl ?_
    refine w_iload_n rfl rfl ?_
    refine w_icmp (t := 84) rfl (by decide) (fun c1 => ?_) (fun c1 => ?_)
    · have c1 : x2 ≤ x4 := c1
      rw [if_pos c1] at hf
      refine w_iload rfl rfl ?_
      refine w_iload_n rfl rfl ?_
      refine w_icmp (t := 96) rfl (by decide) (fun c2 => ?_) (fun c2 => ?_)
      · have c2 : ¬ (x4 = x3) := c2
        rw [if_neg c2] at hf
        refine w_aload_n rfl rfl ?_
        refine w_iload_n rfl rfl ?_
        refine w_iload_n rfl rfl ?_
        refine w_iload rfl rfl ?_
        obtain ⟨q3, hc, hf⟩ := g_bind hf
        refine w_virtual [_, _, _] _ rfl rfl rfl rfl (Nat.le_of_ble_eq_true rfl) hM.1 rfl (Nat.le_of_ble_eq_true rfl) (Nat.le_of_ble_eq_true rfl) (t_M_findParts (d := d + 0) hc hM (fun h hM => ?_))
        refine w_iload rfl rfl ?_
        refine w_iconst (v := (1 : Int32)) rfl (by decide) ?_
        refine w_iadd rfl ?_
        refine w_istore_n rfl (Nat.le_of_ble_eq_true rfl) rfl ?_
        refine w_goto (t := 52) rfl (by decide) ?_
        exact hrec52 _ (x1) (x2) (x4 + (1 : Int32)) _ _ hf hM
      · have c2 : x4 = x3 := Classical.not_not.mp c2
        rw [if_pos c2] at hf
        refine w_aload_n rfl rfl ?_
        refine w_iload_n rfl rfl ?_
        refine w_iconst (v := (0 : Int32)) rfl (by decide) ?_
        obtain ⟨q3, hc, hf⟩ := g_bind hf
        refine w_virtual [_, _] _ rfl rfl rfl rfl (Nat.le_of_ble_eq_true rfl) hM.1 rfl (Nat.le_of_ble_eq_true rfl) (Nat.le_of_ble_eq_true rfl) (t_M_line (d := d + 1) hc hM (fun h hM => ?_))
        refine w_aload_n rfl rfl ?_
        refine w_iload_n rfl rfl ?_
        refine w_iload_n rfl rfl ?_
        refine w_iload rfl rfl ?_
        obtain ⟨q4, hc, hf⟩ := g_bind hf
        refine w_virtual [_, _, _] _ rfl rfl rfl rfl (Nat.le_of_ble_eq_true rfl) hM.1 rfl (Nat.le_of_ble_eq_true rfl) (Nat.le_of_ble_eq_true rfl) (t_M_findParts (d := d + 0) hc hM (fun h hM => ?_))
        refine w_iload rfl rfl ?_
        refine w_iconst (v := (1 : Int32)) rfl (by decide) ?_
        refine w_iadd rfl ?_
        refine w_istore_n rfl (Nat.le_of_ble_eq_true rfl) rfl ?_
        refine w_goto (t := 52) rfl (by decide) ?_
        exact hrec52 _ (x1) (x2) (x4 + (1 : Int32)) _ _ hf hM
    · have c1 : ¬ (x2 ≤ x4) := c1
      rw [if_neg c1] at hf
      refine w_aload_n rfl rfl ?_
      refine w_iload_n rfl rfl ?_
      refine w_iload rfl rfl ?_
      obtain ⟨q2, hc, hf⟩ := g_bind hf
      refine w_virtual [_, _] _ rfl rfl rfl rfl (Nat.le_of_ble_eq_true rfl) hM.1 rfl (Nat.le_of_ble_eq_true rfl) (Nat.le_of_ble_eq_true rfl) (t_M_signAt (d := d + 1) hc hM (fun h hM => ?_))
      refine w_bipush (v := (10 : Int32)) rfl (by decide) ?_
      refine w_icmp (t := 84) rfl (by decide) (fun c3 => ?_) (fun c3 => ?_)
      · have c3 : q2.1 = (10 : Int32) := c3
        rw [if_pos c3] at hf
        refine w_iload rfl rfl ?_
        refine w_iload_n rfl rfl ?_
        refine w_icmp (t := 96) rfl (by decide) (fun c4 => ?_) (fun c4 => ?_)
        · have c4 : ¬ (x4 = x3) := c4
          rw [if_neg c4] at hf
          refine w_aload_n rfl rfl ?_
          refine w_iload_n rfl rfl ?_
          refine w_iload_n rfl rfl ?_
          refine w_iload rfl rfl ?_
          obtain ⟨q5, hc, hf⟩ := g_bind hf
          refine w_virtual [_, _, _] _ rfl rfl rfl rfl (Nat.le_of_ble_eq_true rfl) hM.1 rfl (Nat.le_of_ble_eq_true rfl) (Nat.le_of_ble_eq_true rfl) (t_M_findParts (d := d + 0) hc hM (fun h hM => ?_))
          refine w_iload rfl rfl ?_
          refine w_iconst (v := (1 : Int32)) rfl (by decide) ?_
          refine w_iadd rfl ?_
          refine w_istore_n rfl (Nat.le_of_ble_eq_true rfl) rfl ?_
          refine w_goto (t := 52) rfl (by decide) ?_
          exact hrec52 _ (x1) (x2) (x4 + (1 : Int32)) _ _ hf hM
        · have c4 : x4 = x3 := Classical.not_not.mp c4
          rw [if_pos c4] at hf
          refine w_aload_n rfl rfl ?_
          refine w_iload_n rfl rfl ?_
          refine w_iconst (v := (0 : Int32)) rfl (by decide) ?_
          obtain ⟨q5, hc, hf⟩ := g_bind hf
          refine w_virtual [_, _] _ rfl rfl rfl rfl (Nat.le_of_ble_eq_true rfl) hM.1 rfl (Nat.le_of_ble_eq_true rfl) (Nat.le_of_ble_eq_true rfl) (t_M_line (d := d + 1) hc hM (fun h hM => ?_))
          refine w_aload_n rfl rfl ?_
          refine w_iload_n rfl rfl ?_
          refine w_iload_n rfl rfl ?_
          refine w_iload rfl rfl ?_
          obtain ⟨q6, hc, hf⟩ := g_bind hf
          refine w_virtual [_, _, _] _ rfl rfl rfl rfl (Nat.le_of_ble_eq_true rfl) hM.1 rfl (Nat.le_of_ble_eq_true rfl) (Nat.le_of_ble_eq_true rfl) (t_M_findParts (d := d + 0) hc hM (fun h hM => ?_))
          refine w_iload rfl rfl ?_
          refine w_iconst (v := (1 : Int32)) rfl (by decide) ?_
          refine w_iadd rfl ?_
          refine w_istore_n rfl (Nat.le_of_ble_eq_true rfl) rfl ?_
          refine w_goto (t := 52) rfl (by decide) ?_
          exact hrec52 _ (x1) (x2) (x4 + (1 : Int32)) _ _ hf hM
      · have c3 : ¬ (q2.1 = (10 : Int32)) := c3
        rw [if_neg c3] at hf
        refine w_iinc (v := (1 : Int32)) rfl rfl (by decide) rfl ?_
        refine w_goto (t := 60) rfl (by decide) ?_
        exact ih _ (x1) (x2) (x3) (x4 + (1 : Int32))  _ hf hM
def f_M_findLines_B52 : Nat → MS → Int32 → Int32 → Int32 → Option (MS)
  | 0, _, _, _, _ => none
  | n + 1, S, x1, x2, x3 => (if x2 < x3 then some (S) else f_M_findLines_B60 (f_M_findLines_B52 n) n (S) (x1) (x2) (x3) (x3))
set_option maxHeartbeats 4000000 in
set_option maxRecDepth 100000 in
theorem t_M_findLines_B52 {d m : Nat} {ad : Nat → Nat} {h0 : gHp} {Q : Option gv → gHp → Prop} {res : MS} (hQ : ∀ h', MR h0 h' m ad res → Q (none) h') : ∀ (n : Nat) (S : MS) (x1 : Int32) (x2 : Int32) (x3 : Int32) (u4 : Option gv) (h : gHp), f_M_findLines_B52 n S x1 x2 x3  = some res → MR h0 h m ad S → gWP (gCall (d + 2)) m_M_findLines Q 52 [some (.inr (some m)), some (.inl x1), some (.inl x2), some (.inl x3), u4] [] h 0 0 := by
  intro n
  induction n with
  | zero =>
    intro S x1 x2 x3  u4 h hf
    cases hf
  | succ n ih =>
    intro S x1 x2 x3  u4 h hf hM
    unfold f_M_findLines_B52 at hf
    refine w_iload_n rfl rfl ?_
    refine w_iload_n rfl rfl ?_
    refine w_icmp (t := 112) rfl (by decide) (fun c1 => ?_) (fun c1 => ?_)
    · have c1 : x2 < x3 := c1
      rw [if_pos c1] at hf
      cases hf
      exact w_return rfl rfl (Nat.le_refl _) (Nat.le_refl _) (hQ _ hM)
    · have c1 : ¬ (x2 < x3) := c1
      rw [if_neg c1] at hf
      refine w_iload_n rfl rfl ?_
      refine w_istore rfl (Nat.le_of_ble_eq_true rfl) rfl ?_
      exact t_M_findLines_B60 ih hQ _ _ (x1) (x2) (x3) (x3)  _ hf hM
def f_M_findLines_B34 (n : Nat) (S : MS) (x1 : Int32) (s0 : Int32) (s1 : Int32) : Option (MS) := (if (s1 + s0) = (0 : Int32) then some (S) else (bif inB (x1) 61 then (if ((S).2 14 (ix (x1))) = (0 : Int32) then some (S) else f_M_findLines_B52  n (S) (x1) (s1 + s0) ((0 : Int32))) else none))
set_option maxHeartbeats 4000000 in
set_option maxRecDepth 100000 in
theorem t_M_findLines_B34 {d m : Nat} {ad : Nat → Nat} {h0 : gHp} {Q : Option gv → gHp → Prop} {res : MS} (hQ : ∀ h', MR h0 h' m ad res → Q (none) h') (n : Nat) (S : MS) (x1 : Int32) (s0 : Int32) (s1 : Int32) (u2 : Option gv) (u3 : Option gv) (u4 : Option gv) (h : gHp) (hf : f_M_findLines_B34 n S x1 s0 s1 = some res) (hM : MR h0 h m ad S) : gWP (gCall (d + 2)) m_M_findLines Q 34 [some (.inr (some m)), some (.inl x1), u2, u3, u4] [.inl s0, .inl s1] h 0 0 := by
  unfold f_M_findLines_B34 at hf
  refine w_iadd rfl ?_
  refine w_istore_n rfl (Nat.le_of_ble_eq_true rfl) rfl ?_
  refine w_iload_n rfl rfl ?_
  refine w_if (t := 49) rfl (by decide) (fun c1 => ?_) (fun c1 => ?_)
  · have c1 : (s1 + s0) = (0 : Int32) := c1
    rw [if_pos c1] at hf
    cases hf
    exact w_return rfl rfl (Nat.le_refl _) (Nat.le_refl _) (hQ _ hM)
  · have c1 : ¬ ((s1 + s0) = (0 : Int32)) := c1
    rw [if_neg c1] at hf
    refine w_aload_n rfl rfl ?_
    refine m_getR hM rfl rfl rfl (by decide) ?_
    refine w_iload_n rfl rfl ?_
    obtain ⟨hb, hf⟩ := g_guard hf
    refine m_ld hM rfl rfl (by decide) rfl hb ?_
    refine w_if (t := 50) rfl (by decide) (fun c2 => ?_) (fun c2 => ?_)
    · have c2 : ¬ (((S).2 14 (ix (x1))) = (0 : Int32)) := c2
      rw [if_neg c2] at hf
      refine w_iconst (v := (0 : Int32)) rfl (by decide) ?_
      refine w_istore_n rfl (Nat.le_of_ble_eq_true rfl) rfl ?_
      exact t_M_findLines_B52  hQ _ _ (x1) (s1 + s0) ((0 : Int32)) _ _ hf hM
    · have c2 : ((S).2 14 (ix (x1))) = (0 : Int32) := Classical.not_not.mp c2
      rw [if_pos c2] at hf
      cases hf
      exact w_return rfl rfl (Nat.le_refl _) (Nat.le_refl _) (hQ _ hM)
def f_M_findLines (n : Nat) (S : MS) (x1 : Int32) : Option (MS) := (bif inB (x1) 61 then (bif inB (((4 : Int32) * x1) + (1 : Int32)) 244 then (if (((S).f 38 ((0 : Int32))).2 21 (ix (((4 : Int32) * x1) + (1 : Int32)))) = (0 : Int32) then f_M_findLines_B34  n ((S).f 38 ((0 : Int32))) (x1) ((0 : Int32)) (((S).f 38 ((0 : Int32))).2 25 (ix (x1))) else (bif inB (x1) 61 then f_M_findLines_B34  n ((S).f 38 ((0 : Int32))) (x1) (((S).f 38 ((0 : Int32))).2 23 (ix (x1))) (((S).f 38 ((0 : Int32))).2 25 (ix (x1))) else none)) else none) else none)
set_option maxHeartbeats 4000000 in
set_option maxRecDepth 100000 in
theorem t_M_findLines {d m n : Nat} {ad : Nat → Nat} {h0 h : gHp} {Q : Option gv → gHp → Prop} {S : MS} {x1 : Int32} {res : MS} (hf : f_M_findLines n S x1 = some res) (hM : MR h0 h m ad S) (hQ : ∀ h', MR h0 h' m ad res → Q (none) h') : gCall (d + 3) m_M_findLines [.inr (some m), .inl x1] h Q := by
  unfold f_M_findLines at hf
  refine g_enter (d := d + 2) (Nat.le_of_ble_eq_true rfl) ?_
  show gWP (gCall (d + 2)) m_M_findLines Q 0 [some (.inr (some m)), some (.inl x1), none, none, none] [] h 0 0
  refine w_aload_n rfl rfl ?_
  refine w_iconst (v := (0 : Int32)) rfl (by decide) ?_
  refine m_putI hM rfl rfl rfl rfl (nar_int _) (fun h hM => ?_)
  refine w_aload_n rfl rfl ?_
  refine m_getR hM rfl rfl rfl (by decide) ?_
  refine w_iload_n rfl rfl ?_
  obtain ⟨hb, hf⟩ := g_guard hf
  refine m_ld hM rfl rfl (by decide) rfl hb ?_
  refine w_aload_n rfl rfl ?_
  refine m_getR hM rfl rfl rfl (by decide) ?_
  refine w_iconst (v := (4 : Int32)) rfl (by decide) ?_
  refine w_iload_n rfl rfl ?_
  refine w_imul rfl ?_
  refine w_iconst (v := (1 : Int32)) rfl (by decide) ?_
  refine w_iadd rfl ?_
  obtain ⟨hb, hf⟩ := g_guard hf
  refine m_zld hM rfl rfl (by decide) rfl hb ?_
  refine w_if (t := 33) rfl (by decide) (fun c1 => ?_) (fun c1 => ?_)
  · have c1 : (((S).f 38 ((0 : Int32))).2 21 (ix (((4 : Int32) * x1) + (1 : Int32)))) = (0 : Int32) := c1
    rw [if_pos c1] at hf
    refine w_iconst (v := (0 : Int32)) rfl (by decide) ?_
    exact t_M_findLines_B34  hQ _ _ (x1) ((0 : Int32)) (((S).f 38 ((0 : Int32))).2 25 (ix (x1))) _ _ _ _ hf hM
  · have c1 : ¬ ((((S).f 38 ((0 : Int32))).2 21 (ix (((4 : Int32) * x1) + (1 : Int32)))) = (0 : Int32)) := c1
    rw [if_neg c1] at hf
    refine w_aload_n rfl rfl ?_
    refine m_getR hM rfl rfl rfl (by decide) ?_
    refine w_iload_n rfl rfl ?_
    obtain ⟨hb, hf⟩ := g_guard hf
    refine m_ld hM rfl rfl (by decide) rfl hb ?_
    refine w_goto (t := 34) rfl (by decide) ?_
    exact t_M_findLines_B34  hQ _ _ (x1) (((S).f 38 ((0 : Int32))).2 23 (ix (x1))) (((S).f 38 ((0 : Int32))).2 25 (ix (x1))) _ _ _ _ hf hM
def f_M_arrangeAll_B38 : Nat → MS → Int32 → Option (MS)
  | 0, _, _ => none
  | n + 1, S, x1 => (if x1 ≤ (0 : Int32) then some (S) else (bif inB (x1 + (-1 : Int32)) 61 then (bif inB ((S).2 36 (ix (x1 + (-1 : Int32)))) 61 then (if ((S).2 5 (ix ((S).2 36 (ix (x1 + (-1 : Int32)))))) = (4 : Int32) then ((f_M_split n (S) ((S).2 36 (ix (x1 + (-1 : Int32))))).bind (fun q3 => (bif inB ((S).2 36 (ix (x1 + (-1 : Int32)))) 61 then (bif inB (x1 + (-1 : Int32)) 61 then (bif inB ((S).2 36 (ix (x1 + (-1 : Int32)))) 61 then (bif inB ((x1 + (-1 : Int32)) + (1 : Int32)) 61 then f_M_arrangeAll_B38 n (((q3).a 36 (ix (x1 + (-1 : Int32))) ((q3).2 7 (ix ((S).2 36 (ix (x1 + (-1 : Int32))))))).a 36 (ix ((x1 + (-1 : Int32)) + (1 : Int32))) (((q3).a 36 (ix (x1 + (-1 : Int32))) ((q3).2 7 (ix ((S).2 36 (ix (x1 + (-1 : Int32))))))).2 8 (ix ((S).2 36 (ix (x1 + (-1 : Int32))))))) ((x1 + (-1 : Int32)) + (2 : Int32)) else none) else none) else none) else none))) else (bif inB ((S).2 36 (ix (x1 + (-1 : Int32)))) 61 then (if ((S).2 5 (ix ((S).2 36 (ix (x1 + (-1 : Int32)))))) = (2 : Int32) then ((f_M_fit n (S) ((S).2 36 (ix (x1 + (-1 : Int32))))).bind (fun q4 => f_M_arrangeAll_B38 n (q4) (x1 + (-1 : Int32)))) else f_M_arrangeAll_B38 n (S) (x1 + (-1 : Int32))) else none)) else none) else none))
set_option maxHeartbeats 4000000 in
set_option maxRecDepth 100000 in
theorem t_M_arrangeAll_B38 {d m : Nat} {ad : Nat → Nat} {h0 : gHp} {Q : Option gv → gHp → Prop} {res : MS} (hQ : ∀ h', MR h0 h' m ad res → Q (none) h') : ∀ (n : Nat) (S : MS) (x1 : Int32) (u2 : Option gv) (h : gHp), f_M_arrangeAll_B38 n S x1  = some res → MR h0 h m ad S → gWP (gCall (d + 2)) m_M_arrangeAll Q 38 [some (.inr (some m)), some (.inl x1), u2] [] h 0 0 := by
  intro n
  induction n with
  | zero =>
    intro S x1  u2 h hf
    cases hf
  | succ n ih =>
    intro S x1  u2 h hf hM
    unfold f_M_arrangeAll_B38 at hf
    refine w_iload_n rfl rfl ?_
    refine w_if (t := 117) rfl (by decide) (fun c1 => ?_) (fun c1 => ?_)
    · have c1 : x1 ≤ (0 : Int32) := c1
      rw [if_pos c1] at hf
      cases hf
      exact w_return rfl rfl (Nat.le_refl _) (Nat.le_refl _) (hQ _ hM)
    · have c1 : ¬ (x1 ≤ (0 : Int32)) := c1
      rw [if_neg c1] at hf
      refine w_iinc (v := (-1 : Int32)) rfl rfl (by decide) rfl ?_
      refine w_aload_n rfl rfl ?_
      refine m_getR hM rfl rfl rfl (by decide) ?_
      refine w_iload_n rfl rfl ?_
      obtain ⟨hb, hf⟩ := g_guard hf
      refine m_ld hM rfl rfl (by decide) rfl hb ?_
      refine w_istore_n rfl (Nat.le_of_ble_eq_true rfl) rfl ?_
      refine w_aload_n rfl rfl ?_
      refine m_getR hM rfl rfl rfl (by decide) ?_
      refine w_iload_n rfl rfl ?_
      obtain ⟨hb, hf⟩ := g_guard hf
      refine m_ld hM rfl rfl (by decide) rfl hb ?_
      refine w_iconst (v := (4 : Int32)) rfl (by decide) ?_
      refine w_icmp (t := 99) rfl (by decide) (fun c2 => ?_) (fun c2 => ?_)
      · have c2 : ¬ (((S).2 5 (ix ((S).2 36 (ix (x1 + (-1 : Int32)))))) = (4 : Int32)) := c2
        rw [if_neg c2] at hf
        refine w_aload_n rfl rfl ?_
        refine m_getR hM rfl rfl rfl (by decide) ?_
        refine w_iload_n rfl rfl ?_
        obtain ⟨hb, hf⟩ := g_guard hf
        refine m_ld hM rfl rfl (by decide) rfl hb ?_
        refine w_iconst (v := (2 : Int32)) rfl (by decide) ?_
        refine w_icmp (t := 114) rfl (by decide) (fun c3 => ?_) (fun c3 => ?_)
        · have c3 : ¬ (((S).2 5 (ix ((S).2 36 (ix (x1 + (-1 : Int32)))))) = (2 : Int32)) := c3
          rw [if_neg c3] at hf
          refine w_goto (t := 38) rfl (by decide) ?_
          exact ih _ (x1 + (-1 : Int32)) _ _ hf hM
        · have c3 : ((S).2 5 (ix ((S).2 36 (ix (x1 + (-1 : Int32)))))) = (2 : Int32) := Classical.not_not.mp c3
          rw [if_pos c3] at hf
          refine w_aload_n rfl rfl ?_
          refine w_iload_n rfl rfl ?_
          obtain ⟨q4, hc, hf⟩ := g_bind hf
          refine w_virtual [_] _ rfl rfl rfl rfl (Nat.le_of_ble_eq_true rfl) hM.1 rfl (Nat.le_of_ble_eq_true rfl) (Nat.le_of_ble_eq_true rfl) (t_M_fit (d := d + 0) hc hM (fun h hM => ?_))
          refine w_goto (t := 38) rfl (by decide) ?_
          exact ih _ (x1 + (-1 : Int32)) _ _ hf hM
      · have c2 : ((S).2 5 (ix ((S).2 36 (ix (x1 + (-1 : Int32)))))) = (4 : Int32) := Classical.not_not.mp c2
        rw [if_pos c2] at hf
        refine w_aload_n rfl rfl ?_
        refine w_iload_n rfl rfl ?_
        obtain ⟨q3, hc, hf⟩ := g_bind hf
        refine w_virtual [_] _ rfl rfl rfl rfl (Nat.le_of_ble_eq_true rfl) hM.1 rfl (Nat.le_of_ble_eq_true rfl) (Nat.le_of_ble_eq_true rfl) (t_M_split (d := d + 0) hc hM (fun h hM => ?_))
        refine w_aload_n rfl rfl ?_
        refine m_getR hM rfl rfl rfl (by decide) ?_
        refine w_iload_n rfl rfl ?_
        refine w_aload_n rfl rfl ?_
        refine m_getR hM rfl rfl rfl (by decide) ?_
        refine w_iload_n rfl rfl ?_
        obtain ⟨hb, hf⟩ := g_guard hf
        refine m_ld hM rfl rfl (by decide) rfl hb ?_
        obtain ⟨hb, hf⟩ := g_guard hf
        refine m_st hM rfl rfl (by decide) rfl hb (fun h hM => ?_)
        refine w_aload_n rfl rfl ?_
        refine m_getR hM rfl rfl rfl (by decide) ?_
        refine w_iload_n rfl rfl ?_
        refine w_iconst (v := (1 : Int32)) rfl (by decide) ?_
        refine w_iadd rfl ?_
        refine w_aload_n rfl rfl ?_
        refine m_getR hM rfl rfl rfl (by decide) ?_
        refine w_iload_n rfl rfl ?_
        obtain ⟨hb, hf⟩ := g_guard hf
        refine m_ld hM rfl rfl (by decide) rfl hb ?_
        obtain ⟨hb, hf⟩ := g_guard hf
        refine m_st hM rfl rfl (by decide) rfl hb (fun h hM => ?_)
        refine w_iinc (v := (2 : Int32)) rfl rfl (by decide) rfl ?_
        refine w_goto (t := 114) rfl (by decide) ?_
        refine w_goto (t := 38) rfl (by decide) ?_
        exact ih _ ((x1 + (-1 : Int32)) + (2 : Int32)) _ _ hf hM
def f_M_arrangeAll (n : Nat) (S : MS) : Option (MS) := (if ((S).1 3) = (0 : Int32) then some (S) else ((f_M_room n (S) ((S).1 3) ((0 : Int32)) ((0 : Int32)) ((S).1 0) ((S).1 1)).bind (fun q2 => (bif inB ((0 : Int32)) 61 then f_M_arrangeAll_B38  n ((q2).a 36 (ix ((0 : Int32))) ((q2).1 3)) ((1 : Int32)) else none))))
set_option maxHeartbeats 4000000 in
set_option maxRecDepth 100000 in
theorem t_M_arrangeAll {d m n : Nat} {ad : Nat → Nat} {h0 h : gHp} {Q : Option gv → gHp → Prop} {S : MS} {res : MS} (hf : f_M_arrangeAll n S  = some res) (hM : MR h0 h m ad S) (hQ : ∀ h', MR h0 h' m ad res → Q (none) h') : gCall (d + 3) m_M_arrangeAll [.inr (some m)] h Q := by
  unfold f_M_arrangeAll at hf
  refine g_enter (d := d + 2) (Nat.le_of_ble_eq_true rfl) ?_
  show gWP (gCall (d + 2)) m_M_arrangeAll Q 0 [some (.inr (some m)), none, none] [] h 0 0
  refine w_aload_n rfl rfl ?_
  refine m_getI hM rfl rfl rfl ?_
  refine w_if (t := 8) rfl (by decide) (fun c1 => ?_) (fun c1 => ?_)
  · have c1 : ¬ (((S).1 3) = (0 : Int32)) := c1
    rw [if_neg c1] at hf
    refine w_aload_n rfl rfl ?_
    refine w_aload_n rfl rfl ?_
    refine m_getI hM rfl rfl rfl ?_
    refine w_iconst (v := (0 : Int32)) rfl (by decide) ?_
    refine w_iconst (v := (0 : Int32)) rfl (by decide) ?_
    refine w_aload_n rfl rfl ?_
    refine m_getI hM rfl rfl rfl ?_
    refine w_aload_n rfl rfl ?_
    refine m_getI hM rfl rfl rfl ?_
    obtain ⟨q2, hc, hf⟩ := g_bind hf
    refine w_virtual [_, _, _, _, _] _ rfl rfl rfl rfl (Nat.le_of_ble_eq_true rfl) hM.1 rfl (Nat.le_of_ble_eq_true rfl) (Nat.le_of_ble_eq_true rfl) (t_M_room (d := d + 1) hc hM (fun h hM => ?_))
    refine w_iconst (v := (1 : Int32)) rfl (by decide) ?_
    refine w_istore_n rfl (Nat.le_of_ble_eq_true rfl) rfl ?_
    refine w_aload_n rfl rfl ?_
    refine m_getR hM rfl rfl rfl (by decide) ?_
    refine w_iconst (v := (0 : Int32)) rfl (by decide) ?_
    refine w_aload_n rfl rfl ?_
    refine m_getI hM rfl rfl rfl ?_
    obtain ⟨hb, hf⟩ := g_guard hf
    refine m_st hM rfl rfl (by decide) rfl hb (fun h hM => ?_)
    exact t_M_arrangeAll_B38  hQ _ _ ((1 : Int32)) _ _ hf hM
  · have c1 : ((S).1 3) = (0 : Int32) := Classical.not_not.mp c1
    rw [if_pos c1] at hf
    cases hf
    exact w_return rfl rfl (Nat.le_refl _) (Nat.le_refl _) (hQ _ hM)
def f_M_event_4_B64 : Nat → MS → Int32 → Int32 → Int32 → Int32 → Int32 → Option (MS)
  | 0, _, _, _, _, _, _ => none
  | n + 1, S, x1, x2, x3, x5, x6 => (if (40 : Int32) ≤ x6 then some ((S).f 41 (((S).1 41) + (1 : Int32))) else (if x1 = (1 : Int32) then (if x3 ≤ x6 then (bif inB ((x5 + (4 : Int32)) + x6) 924 then f_M_event_4_B64 n ((S).a 43 (ix ((x5 + (4 : Int32)) + x6)) ((0 : Int32))) (x1) (x2) (x3) (x5) (x6 + (1 : Int32)) else none) else (bif inB (((40 : Int32) * x2) + x6) 2440 then (bif inB ((x5 + (4 : Int32)) + x6) 924 then f_M_event_4_B64 n ((S).a 43 (ix ((x5 + (4 : Int32)) + x6)) ((S).2 24 (ix (((40 : Int32) * x2) + x6)))) (x1) (x2) (x3) (x5) (x6 + (1 : Int32)) else none) else none)) else (bif inB ((x5 + (4 : Int32)) + x6) 924 then f_M_event_4_B64 n ((S).a 43 (ix ((x5 + (4 : Int32)) + x6)) ((0 : Int32))) (x1) (x2) (x3) (x5) (x6 + (1 : Int32)) else none)))
set_option maxHeartbeats 4000000 in
set_option maxRecDepth 100000 in
theorem t_M_event_4_B64 {d m : Nat} {ad : Nat → Nat} {h0 : gHp} {Q : Option gv → gHp → Prop} {res : MS} (hQ : ∀ h', MR h0 h' m ad res → Q (none) h') : ∀ (n : Nat) (S : MS) (x1 : Int32) (x2 : Int32) (x3 : Int32) (x5 : Int32) (x6 : Int32) (u4 : Option gv) (h : gHp), f_M_event_4_B64 n S x1 x2 x3 x5 x6  = some res → MR h0 h m ad S → gWP (gCall (d + 2)) m_M_event_4 Q 64 [some (.inr (some m)), some (.inl x1), some (.inl x2), some (.inl x3), u4, some (.inl x5), some (.inl x6)] [] h 0 0 := by
  intro n
  induction n with
  | zero =>
    intro S x1 x2 x3 x5 x6  u4 h hf
    cases hf
  | succ n ih =>
    intro S x1 x2 x3 x5 x6  u4 h hf hM
    unfold f_M_event_4_B64 at hf
    refine w_iload rfl rfl ?_
    refine w_bipush (v := (40 : Int32)) rfl (by decide) ?_
    refine w_icmp (t := 116) rfl (by decide) (fun c1 => ?_) (fun c1 => ?_)
    · have c1 : (40 : Int32) ≤ x6 := c1
      rw [if_pos c1] at hf
      refine w_aload_n rfl rfl ?_
      refine w_dup rfl ?_
      refine m_getI hM rfl rfl rfl ?_
      refine w_iconst (v := (1 : Int32)) rfl (by decide) ?_
      refine w_iadd rfl ?_
      refine m_putI hM rfl rfl rfl rfl (nar_int _) (fun h hM => ?_)
      cases hf
      exact w_return rfl rfl (Nat.le_refl _) (Nat.le_refl _) (hQ _ hM)
    · have c1 : ¬ ((40 : Int32) ≤ x6) := c1
      rw [if_neg c1] at hf
      refine w_aload_n rfl rfl ?_
      refine m_getR hM rfl rfl rfl (by decide) ?_
      refine w_iload rfl rfl ?_
      refine w_iconst (v := (4 : Int32)) rfl (by decide) ?_
      refine w_iadd rfl ?_
      refine w_iload rfl rfl ?_
      refine w_iadd rfl ?_
      refine w_iload_n rfl rfl ?_
      refine w_iconst (v := (1 : Int32)) rfl (by decide) ?_
      refine w_icmp (t := 108) rfl (by decide) (fun c2 => ?_) (fun c2 => ?_)
      · have c2 : ¬ (x1 = (1 : Int32)) := c2
        rw [if_neg c2] at hf
        refine w_iconst (v := (0 : Int32)) rfl (by decide) ?_
        obtain ⟨hb, hf⟩ := g_guard hf
        refine m_st hM rfl rfl (by decide) rfl hb (fun h hM => ?_)
        refine w_iinc (v := (1 : Int32)) rfl rfl (by decide) rfl ?_
        refine w_goto (t := 64) rfl (by decide) ?_
        exact ih _ (x1) (x2) (x3) (x5) (x6 + (1 : Int32)) _ _ hf hM
      · have c2 : x1 = (1 : Int32) := Classical.not_not.mp c2
        rw [if_pos c2] at hf
        refine w_iload rfl rfl ?_
        refine w_iload_n rfl rfl ?_
        refine w_icmp (t := 108) rfl (by decide) (fun c3 => ?_) (fun c3 => ?_)
        · have c3 : x3 ≤ x6 := c3
          rw [if_pos c3] at hf
          refine w_iconst (v := (0 : Int32)) rfl (by decide) ?_
          obtain ⟨hb, hf⟩ := g_guard hf
          refine m_st hM rfl rfl (by decide) rfl hb (fun h hM => ?_)
          refine w_iinc (v := (1 : Int32)) rfl rfl (by decide) rfl ?_
          refine w_goto (t := 64) rfl (by decide) ?_
          exact ih _ (x1) (x2) (x3) (x5) (x6 + (1 : Int32)) _ _ hf hM
        · have c3 : ¬ (x3 ≤ x6) := c3
          rw [if_neg c3] at hf
          refine w_aload_n rfl rfl ?_
          refine m_getR hM rfl rfl rfl (by decide) ?_
          refine w_bipush (v := (40 : Int32)) rfl (by decide) ?_
          refine w_iload_n rfl rfl ?_
          refine w_imul rfl ?_
          refine w_iload rfl rfl ?_
          refine w_iadd rfl ?_
          obtain ⟨hb, hf⟩ := g_guard hf
          refine m_ld hM rfl rfl (by decide) rfl hb ?_
          refine w_goto (t := 109) rfl (by decide) ?_
          obtain ⟨hb, hf⟩ := g_guard hf
          refine m_st hM rfl rfl (by decide) rfl hb (fun h hM => ?_)
          refine w_iinc (v := (1 : Int32)) rfl rfl (by decide) rfl ?_
          refine w_goto (t := 64) rfl (by decide) ?_
          exact ih _ (x1) (x2) (x3) (x5) (x6 + (1 : Int32)) _ _ hf hM
def f_M_event_4_B13 (n : Nat) (S : MS) (x1 : Int32) (x2 : Int32) (x3 : Int32) (x4 : Int32) : Option (MS) := (bif inB ((44 : Int32) * ((S).1 41)) 924 then (bif inB (((44 : Int32) * ((S).1 41)) + (1 : Int32)) 924 then (bif inB (((44 : Int32) * ((S).1 41)) + (2 : Int32)) 924 then (bif inB (((44 : Int32) * ((S).1 41)) + (3 : Int32)) 924 then f_M_event_4_B64  n (((((S).a 43 (ix ((44 : Int32) * ((S).1 41))) (x1)).a 43 (ix (((44 : Int32) * ((S).1 41)) + (1 : Int32))) (x2)).a 43 (ix (((44 : Int32) * ((S).1 41)) + (2 : Int32))) (x3)).a 43 (ix (((44 : Int32) * ((S).1 41)) + (3 : Int32))) (x4)) (x1) (x2) (x3) ((44 : Int32) * ((S).1 41)) ((0 : Int32)) else none) else none) else none) else none)
set_option maxHeartbeats 4000000 in
set_option maxRecDepth 100000 in
theorem t_M_event_4_B13 {d m : Nat} {ad : Nat → Nat} {h0 : gHp} {Q : Option gv → gHp → Prop} {res : MS} (hQ : ∀ h', MR h0 h' m ad res → Q (none) h') (n : Nat) (S : MS) (x1 : Int32) (x2 : Int32) (x3 : Int32) (x4 : Int32) (u5 : Option gv) (u6 : Option gv) (h : gHp) (hf : f_M_event_4_B13 n S x1 x2 x3 x4  = some res) (hM : MR h0 h m ad S) : gWP (gCall (d + 2)) m_M_event_4 Q 13 [some (.inr (some m)), some (.inl x1), some (.inl x2), some (.inl x3), some (.inl x4), u5, u6] [] h 0 0 := by
  unfold f_M_event_4_B13 at hf
  refine w_bipush (v := (44 : Int32)) rfl (by decide) ?_
  refine w_aload_n rfl rfl ?_
  refine m_getI hM rfl rfl rfl ?_
  refine w_imul rfl ?_
  refine w_istore rfl (Nat.le_of_ble_eq_true rfl) rfl ?_
  refine w_aload_n rfl rfl ?_
  refine m_getR hM rfl rfl rfl (by decide) ?_
  refine w_iload rfl rfl ?_
  refine w_iload_n rfl rfl ?_
  obtain ⟨hb, hf⟩ := g_guard hf
  refine m_st hM rfl rfl (by decide) rfl hb (fun h hM => ?_)
  refine w_aload_n rfl rfl ?_
  refine m_getR hM rfl rfl rfl (by decide) ?_
  refine w_iload rfl rfl ?_
  refine w_iconst (v := (1 : Int32)) rfl (by decide) ?_
  refine w_iadd rfl ?_
  refine w_iload_n rfl rfl ?_
  obtain ⟨hb, hf⟩ := g_guard hf
  refine m_st hM rfl rfl (by decide) rfl hb (fun h hM => ?_)
  refine w_aload_n rfl rfl ?_
  refine m_getR hM rfl rfl rfl (by decide) ?_
  refine w_iload rfl rfl ?_
  refine w_iconst (v := (2 : Int32)) rfl (by decide) ?_
  refine w_iadd rfl ?_
  refine w_iload_n rfl rfl ?_
  obtain ⟨hb, hf⟩ := g_guard hf
  refine m_st hM rfl rfl (by decide) rfl hb (fun h hM => ?_)
  refine w_aload_n rfl rfl ?_
  refine m_getR hM rfl rfl rfl (by decide) ?_
  refine w_iload rfl rfl ?_
  refine w_iconst (v := (3 : Int32)) rfl (by decide) ?_
  refine w_iadd rfl ?_
  refine w_iload rfl rfl ?_
  obtain ⟨hb, hf⟩ := g_guard hf
  refine m_st hM rfl rfl (by decide) rfl hb (fun h hM => ?_)
  refine w_iconst (v := (0 : Int32)) rfl (by decide) ?_
  refine w_istore rfl (Nat.le_of_ble_eq_true rfl) rfl ?_
  exact t_M_event_4_B64  hQ _ _ (x1) (x2) (x3) ((44 : Int32) * ((S).1 41)) ((0 : Int32)) _ _ hf hM
def f_M_event_4 (n : Nat) (S : MS) (x1 : Int32) (x2 : Int32) (x3 : Int32) (x4 : Int32) : Option (MS) := (if ((S).1 41) = (20 : Int32) then ((f_M_drop n (S) ).bind (fun q2 => f_M_event_4_B13  n (q2) (x1) (x2) (x3) (x4) )) else f_M_event_4_B13  n (S) (x1) (x2) (x3) (x4) )
set_option maxHeartbeats 4000000 in
set_option maxRecDepth 100000 in
theorem t_M_event_4 {d m n : Nat} {ad : Nat → Nat} {h0 h : gHp} {Q : Option gv → gHp → Prop} {S : MS} {x1 : Int32} {x2 : Int32} {x3 : Int32} {x4 : Int32} {res : MS} (hf : f_M_event_4 n S x1 x2 x3 x4 = some res) (hM : MR h0 h m ad S) (hQ : ∀ h', MR h0 h' m ad res → Q (none) h') : gCall (d + 3) m_M_event_4 [.inr (some m), .inl x1, .inl x2, .inl x3, .inl x4] h Q := by
  unfold f_M_event_4 at hf
  refine g_enter (d := d + 2) (Nat.le_of_ble_eq_true rfl) ?_
  show gWP (gCall (d + 2)) m_M_event_4 Q 0 [some (.inr (some m)), some (.inl x1), some (.inl x2), some (.inl x3), some (.inl x4), none, none] [] h 0 0
  refine w_aload_n rfl rfl ?_
  refine m_getI hM rfl rfl rfl ?_
  refine w_bipush (v := (20 : Int32)) rfl (by decide) ?_
  refine w_icmp (t := 13) rfl (by decide) (fun c1 => ?_) (fun c1 => ?_)
  · have c1 : ¬ (((S).1 41) = (20 : Int32)) := c1
    rw [if_neg c1] at hf
    exact t_M_event_4_B13  hQ _ _ (x1) (x2) (x3) (x4)  _ _ _ hf hM
  · have c1 : ((S).1 41) = (20 : Int32) := Classical.not_not.mp c1
    rw [if_pos c1] at hf
    refine w_aload_n rfl rfl ?_
    obtain ⟨q2, hc, hf⟩ := g_bind hf
    refine w_virtual [] _ rfl rfl rfl rfl (Nat.le_of_ble_eq_true rfl) hM.1 rfl (Nat.le_of_ble_eq_true rfl) (Nat.le_of_ble_eq_true rfl) (t_M_drop (d := d + 0) hc hM (fun h hM => ?_))
    exact t_M_event_4_B13  hQ _ _ (x1) (x2) (x3) (x4)  _ _ _ hf hM
def f_M_echoLine_B29 : Nat → MS → Int32 → Int32 → Option (MS)
  | 0, _, _, _ => none
  | n + 1, S, x1, x2 => (bif inB (x1) 61 then (if ((S).2 23 (ix (x1))) ≤ x2 then (bif inB (x1) 61 then (if ((S).2 5 (ix (x1))) = (1 : Int32) then ((f_M_add n (S) (x1) ((10 : Int32)) ((8 : Int32)) ((0 : Int32))).bind (fun q3 => some (q3))) else ((f_M_nextRow n (S) (x1)).bind (fun q3 => some (q3)))) else none) else (bif inB (((40 : Int32) * x1) + x2) 2440 then (bif inB (x1) 61 then (if ((S).2 5 (ix (x1))) = (1 : Int32) then ((f_M_add n (S) (x1) ((S).2 24 (ix (((40 : Int32) * x1) + x2))) ((8 : Int32)) ((0 : Int32))).bind (fun q3 => f_M_echoLine_B29 n (q3) (x1) (x2 + (1 : Int32)))) else (bif inB (x1) 61 then (bif inB (x1) 61 then ((f_M_lay n (S) (x1) (((S).2 34 (ix (x1))) + x2) ((S).2 35 (ix (x1))) ((S).2 24 (ix (((40 : Int32) * x1) + x2))) ((8 : Int32)) ((0 : Int32))).bind (fun q3 => f_M_echoLine_B29 n (q3) (x1) (x2 + (1 : Int32)))) else none) else none)) else none) else none)) else none)
set_option maxHeartbeats 4000000 in
set_option maxRecDepth 100000 in
theorem t_M_echoLine_B29 {d m : Nat} {ad : Nat → Nat} {h0 : gHp} {Q : Option gv → gHp → Prop} {res : MS} (hQ : ∀ h', MR h0 h' m ad res → Q (none) h') : ∀ (n : Nat) (S : MS) (x1 : Int32) (x2 : Int32) (u3 : Option gv) (h : gHp), f_M_echoLine_B29 n S x1 x2  = some res → MR h0 h m ad S → gWP (gCall (d + 2)) m_M_echoLine Q 29 [some (.inr (some m)), some (.inl x1), some (.inl x2), u3] [] h 0 0 := by
  intro n
  induction n with
  | zero =>
    intro S x1 x2  u3 h hf
    cases hf
  | succ n ih =>
    intro S x1 x2  u3 h hf hM
    unfold f_M_echoLine_B29 at hf
    refine w_iload_n rfl rfl ?_
    refine w_aload_n rfl rfl ?_
    refine m_getR hM rfl rfl rfl (by decide) ?_
    refine w_iload_n rfl rfl ?_
    obtain ⟨hb, hf⟩ := g_guard hf
    refine m_ld hM rfl rfl (by decide) rfl hb ?_
    refine w_icmp (t := 102) rfl (by decide) (fun c1 => ?_) (fun c1 => ?_)
    · have c1 : ((S).2 23 (ix (x1))) ≤ x2 := c1
      rw [if_pos c1] at hf
      refine w_aload_n rfl rfl ?_
      refine m_getR hM rfl rfl rfl (by decide) ?_
      refine w_iload_n rfl rfl ?_
      obtain ⟨hb, hf⟩ := g_guard hf
      refine m_ld hM rfl rfl (by decide) rfl hb ?_
      refine w_iconst (v := (1 : Int32)) rfl (by decide) ?_
      refine w_icmp (t := 125) rfl (by decide) (fun c2 => ?_) (fun c2 => ?_)
      · have c2 : ¬ (((S).2 5 (ix (x1))) = (1 : Int32)) := c2
        rw [if_neg c2] at hf
        refine w_aload_n rfl rfl ?_
        refine w_iload_n rfl rfl ?_
        obtain ⟨q3, hc, hf⟩ := g_bind hf
        refine w_virtual [_] _ rfl rfl rfl rfl (Nat.le_of_ble_eq_true rfl) hM.1 rfl (Nat.le_of_ble_eq_true rfl) (Nat.le_of_ble_eq_true rfl) (t_M_nextRow (d := d + 1) hc hM (fun h hM => ?_))
        cases hf
        exact w_return rfl rfl (Nat.le_refl _) (Nat.le_refl _) (hQ _ hM)
      · have c2 : ((S).2 5 (ix (x1))) = (1 : Int32) := Classical.not_not.mp c2
        rw [if_pos c2] at hf
        refine w_aload_n rfl rfl ?_
        refine w_iload_n rfl rfl ?_
        refine w_bipush (v := (10 : Int32)) rfl (by decide) ?_
        refine w_bipush (v := (8 : Int32)) rfl (by decide) ?_
        refine w_iconst (v := (0 : Int32)) rfl (by decide) ?_
        obtain ⟨q3, hc, hf⟩ := g_bind hf
        refine w_virtual [_, _, _, _] _ rfl rfl rfl rfl (Nat.le_of_ble_eq_true rfl) hM.1 rfl (Nat.le_of_ble_eq_true rfl) (Nat.le_of_ble_eq_true rfl) (t_M_add (d := d + 1) hc hM (fun h hM => ?_))
        refine w_goto (t := 130) rfl (by decide) ?_
        cases hf
        exact w_return rfl rfl (Nat.le_refl _) (Nat.le_refl _) (hQ _ hM)
    · have c1 : ¬ (((S).2 23 (ix (x1))) ≤ x2) := c1
      rw [if_neg c1] at hf
      refine w_aload_n rfl rfl ?_
      refine m_getR hM rfl rfl rfl (by decide) ?_
      refine w_bipush (v := (40 : Int32)) rfl (by decide) ?_
      refine w_iload_n rfl rfl ?_
      refine w_imul rfl ?_
      refine w_iload_n rfl rfl ?_
      refine w_iadd rfl ?_
      obtain ⟨hb, hf⟩ := g_guard hf
      refine m_ld hM rfl rfl (by decide) rfl hb ?_
      refine w_istore_n rfl (Nat.le_of_ble_eq_true rfl) rfl ?_
      refine w_aload_n rfl rfl ?_
      refine m_getR hM rfl rfl rfl (by decide) ?_
      refine w_iload_n rfl rfl ?_
      obtain ⟨hb, hf⟩ := g_guard hf
      refine m_ld hM rfl rfl (by decide) rfl hb ?_
      refine w_iconst (v := (1 : Int32)) rfl (by decide) ?_
      refine w_icmp (t := 73) rfl (by decide) (fun c2 => ?_) (fun c2 => ?_)
      · have c2 : ¬ (((S).2 5 (ix (x1))) = (1 : Int32)) := c2
        rw [if_neg c2] at hf
        refine w_aload_n rfl rfl ?_
        refine w_iload_n rfl rfl ?_
        refine w_aload_n rfl rfl ?_
        refine m_getR hM rfl rfl rfl (by decide) ?_
        refine w_iload_n rfl rfl ?_
        obtain ⟨hb, hf⟩ := g_guard hf
        refine m_ld hM rfl rfl (by decide) rfl hb ?_
        refine w_iload_n rfl rfl ?_
        refine w_iadd rfl ?_
        refine w_aload_n rfl rfl ?_
        refine m_getR hM rfl rfl rfl (by decide) ?_
        refine w_iload_n rfl rfl ?_
        obtain ⟨hb, hf⟩ := g_guard hf
        refine m_ld hM rfl rfl (by decide) rfl hb ?_
        refine w_iload_n rfl rfl ?_
        refine w_bipush (v := (8 : Int32)) rfl (by decide) ?_
        refine w_iconst (v := (0 : Int32)) rfl (by decide) ?_
        obtain ⟨q3, hc, hf⟩ := g_bind hf
        refine w_virtual [_, _, _, _, _, _] _ rfl rfl rfl rfl (Nat.le_of_ble_eq_true rfl) hM.1 rfl (Nat.le_of_ble_eq_true rfl) (Nat.le_of_ble_eq_true rfl) (t_M_lay (d := d + 0) hc hM (fun h hM => ?_))
        refine w_iinc (v := (1 : Int32)) rfl rfl (by decide) rfl ?_
        refine w_goto (t := 29) rfl (by decide) ?_
        exact ih _ (x1) (x2 + (1 : Int32)) _ _ hf hM
      · have c2 : ((S).2 5 (ix (x1))) = (1 : Int32) := Classical.not_not.mp c2
        rw [if_pos c2] at hf
        refine w_aload_n rfl rfl ?_
        refine w_iload_n rfl rfl ?_
        refine w_iload_n rfl rfl ?_
        refine w_bipush (v := (8 : Int32)) rfl (by decide) ?_
        refine w_iconst (v := (0 : Int32)) rfl (by decide) ?_
        obtain ⟨q3, hc, hf⟩ := g_bind hf
        refine w_virtual [_, _, _, _] _ rfl rfl rfl rfl (Nat.le_of_ble_eq_true rfl) hM.1 rfl (Nat.le_of_ble_eq_true rfl) (Nat.le_of_ble_eq_true rfl) (t_M_add (d := d + 1) hc hM (fun h hM => ?_))
        refine w_goto (t := 96) rfl (by decide) ?_
        refine w_iinc (v := (1 : Int32)) rfl rfl (by decide) rfl ?_
        refine w_goto (t := 29) rfl (by decide) ?_
        exact ih _ (x1) (x2 + (1 : Int32)) _ _ hf hM
def f_M_echoLine (n : Nat) (S : MS) (x1 : Int32) : Option (MS) := (bif inB (x1) 61 then (if ((S).2 19 (ix (x1))) = (0 : Int32) then (bif inB (x1) 61 then (bif inB (x1) 61 then (bif inB (x1) 61 then f_M_echoLine_B29  n ((S).a 18 (ix (x1)) (((S).2 18 (ix (x1))) + (((S).2 23 (ix (x1))) + (1 : Int32)))) (x1) ((0 : Int32)) else none) else none) else none) else some (S)) else none)
set_option maxHeartbeats 4000000 in
set_option maxRecDepth 100000 in
theorem t_M_echoLine {d m n : Nat} {ad : Nat → Nat} {h0 h : gHp} {Q : Option gv → gHp → Prop} {S : MS} {x1 : Int32} {res : MS} (hf : f_M_echoLine n S x1 = some res) (hM : MR h0 h m ad S) (hQ : ∀ h', MR h0 h' m ad res → Q (none) h') : gCall (d + 3) m_M_echoLine [.inr (some m), .inl x1] h Q := by
  unfold f_M_echoLine at hf
  refine g_enter (d := d + 2) (Nat.le_of_ble_eq_true rfl) ?_
  show gWP (gCall (d + 2)) m_M_echoLine Q 0 [some (.inr (some m)), some (.inl x1), none, none] [] h 0 0
  refine w_aload_n rfl rfl ?_
  refine m_getR hM rfl rfl rfl (by decide) ?_
  refine w_iload_n rfl rfl ?_
  obtain ⟨hb, hf⟩ := g_guard hf
  refine m_zld hM rfl rfl (by decide) rfl hb ?_
  refine w_if (t := 10) rfl (by decide) (fun c1 => ?_) (fun c1 => ?_)
  · have c1 : ((S).2 19 (ix (x1))) = (0 : Int32) := c1
    rw [if_pos c1] at hf
    refine w_aload_n rfl rfl ?_
    refine m_getR hM rfl rfl rfl (by decide) ?_
    refine w_iload_n rfl rfl ?_
    refine w_dup2 rfl ?_
    obtain ⟨hb, hf⟩ := g_guard hf
    refine m_ld hM rfl rfl (by decide) rfl hb ?_
    refine w_aload_n rfl rfl ?_
    refine m_getR hM rfl rfl rfl (by decide) ?_
    refine w_iload_n rfl rfl ?_
    obtain ⟨hb, hf⟩ := g_guard hf
    refine m_ld hM rfl rfl (by decide) rfl hb ?_
    refine w_iconst (v := (1 : Int32)) rfl (by decide) ?_
    refine w_iadd rfl ?_
    refine w_iadd rfl ?_
    obtain ⟨hb, hf⟩ := g_guard hf
    refine m_st hM rfl rfl (by decide) rfl hb (fun h hM => ?_)
    refine w_iconst (v := (0 : Int32)) rfl (by decide) ?_
    refine w_istore_n rfl (Nat.le_of_ble_eq_true rfl) rfl ?_
    exact t_M_echoLine_B29  hQ _ _ (x1) ((0 : Int32)) _ _ hf hM
  · have c1 : ¬ (((S).2 19 (ix (x1))) = (0 : Int32)) := c1
    rw [if_neg c1] at hf
    cases hf
    exact w_return rfl rfl (Nat.le_refl _) (Nat.le_refl _) (hQ _ hM)
def f_M_ask_B107 (n : Nat) (S : MS) (x1 : Int32) (x2 : Int32) (x3 : Int32) : Option (Int32 × MS) := (bif inB (((4 : Int32) * x1) + x2) 244 then (bif isZ ((1 : Int32)) then (if x2 = (1 : Int32) then (bif inB (x1) 61 then (bif inB (x1) 61 then some ((1 : Int32), (((S).a 21 (ix (((4 : Int32) * x1) + x2)) ((1 : Int32))).a 22 (ix (x1)) (x3)).a 23 (ix (x1)) ((0 : Int32))) else none) else none) else some ((1 : Int32), (S).a 21 (ix (((4 : Int32) * x1) + x2)) ((1 : Int32)))) else none) else none)
set_option maxHeartbeats 4000000 in
set_option maxRecDepth 100000 in
theorem t_M_ask_B107 {d m : Nat} {ad : Nat → Nat} {h0 : gHp} {Q : Option gv → gHp → Prop} {res : Int32 × MS} (hQ : ∀ h', MR h0 h' m ad res.2 → Q (some (.inl res.1)) h') (n : Nat) (S : MS) (x1 : Int32) (x2 : Int32) (x3 : Int32) (u4 : Option gv) (h : gHp) (hf : f_M_ask_B107 n S x1 x2 x3  = some res) (hM : MR h0 h m ad S) : gWP (gCall (d + 2)) m_M_ask Q 107 [some (.inr (some m)), some (.inl x1), some (.inl x2), some (.inl x3), u4] [] h 0 0 := by
  unfold f_M_ask_B107 at hf
  refine w_aload_n rfl rfl ?_
  refine m_getR hM rfl rfl rfl (by decide) ?_
  refine w_iconst (v := (4 : Int32)) rfl (by decide) ?_
  refine w_iload_n rfl rfl ?_
  refine w_imul rfl ?_
  refine w_iload_n rfl rfl ?_
  refine w_iadd rfl ?_
  refine w_iconst (v := (1 : Int32)) rfl (by decide) ?_
  obtain ⟨hb, hf⟩ := g_guard hf
  obtain ⟨hz, hf⟩ := g_guard hf
  refine m_zst hM rfl rfl (by decide) rfl hb hz (fun h hM => ?_)
  refine w_iload_n rfl rfl ?_
  refine w_iconst (v := (1 : Int32)) rfl (by decide) ?_
  refine w_icmp (t := 137) rfl (by decide) (fun c1 => ?_) (fun c1 => ?_)
  · have c1 : ¬ (x2 = (1 : Int32)) := c1
    rw [if_neg c1] at hf
    refine w_iconst (v := (1 : Int32)) rfl (by decide) ?_
    cases hf
    exact w_ireturn rfl (int_ret _) (Nat.le_refl _) (Nat.le_refl _) (hQ _ hM)
  · have c1 : x2 = (1 : Int32) := Classical.not_not.mp c1
    rw [if_pos c1] at hf
    refine w_aload_n rfl rfl ?_
    refine m_getR hM rfl rfl rfl (by decide) ?_
    refine w_iload_n rfl rfl ?_
    refine w_iload_n rfl rfl ?_
    obtain ⟨hb, hf⟩ := g_guard hf
    refine m_st hM rfl rfl (by decide) rfl hb (fun h hM => ?_)
    refine w_aload_n rfl rfl ?_
    refine m_getR hM rfl rfl rfl (by decide) ?_
    refine w_iload_n rfl rfl ?_
    refine w_iconst (v := (0 : Int32)) rfl (by decide) ?_
    obtain ⟨hb, hf⟩ := g_guard hf
    refine m_st hM rfl rfl (by decide) rfl hb (fun h hM => ?_)
    refine w_iconst (v := (1 : Int32)) rfl (by decide) ?_
    cases hf
    exact w_ireturn rfl (int_ret _) (Nat.le_refl _) (Nat.le_refl _) (hQ _ hM)
def f_M_ask_B64 (n : Nat) (S : MS) (x1 : Int32) (x2 : Int32) (x3 : Int32) (s0 : Int32) : Option (Int32 × MS) := (if s0 = (0 : Int32) then some ((-3 : Int32), S) else (bif inB (((4 : Int32) * x1) + x2) 244 then (if ((S).2 21 (ix (((4 : Int32) * x1) + x2))) = (0 : Int32) then (if (2 : Int32) ≤ x2 then f_M_ask_B107  n (S) (x1) (x2) (x3)  else (bif inB ((((4 : Int32) * x1) + (1 : Int32)) - x2) 244 then (if ((S).2 21 (ix ((((4 : Int32) * x1) + (1 : Int32)) - x2))) = (0 : Int32) then f_M_ask_B107  n (S) (x1) (x2) (x3)  else some ((-3 : Int32), S)) else none)) else some ((-3 : Int32), S)) else none))
set_option maxHeartbeats 4000000 in
set_option maxRecDepth 100000 in
theorem t_M_ask_B64 {d m : Nat} {ad : Nat → Nat} {h0 : gHp} {Q : Option gv → gHp → Prop} {res : Int32 × MS} (hQ : ∀ h', MR h0 h' m ad res.2 → Q (some (.inl res.1)) h') (n : Nat) (S : MS) (x1 : Int32) (x2 : Int32) (x3 : Int32) (s0 : Int32) (u4 : Option gv) (h : gHp) (hf : f_M_ask_B64 n S x1 x2 x3 s0 = some res) (hM : MR h0 h m ad S) : gWP (gCall (d + 2)) m_M_ask Q 64 [some (.inr (some m)), some (.inl x1), some (.inl x2), some (.inl x3), u4] [.inl s0] h 0 0 := by
  unfold f_M_ask_B64 at hf
  refine w_istore rfl (Nat.le_of_ble_eq_true rfl) rfl ?_
  refine w_iload rfl rfl ?_
  refine w_if (t := 104) rfl (by decide) (fun c1 => ?_) (fun c1 => ?_)
  · have c1 : s0 = (0 : Int32) := c1
    rw [if_pos c1] at hf
    refine w_bipush (v := (-3 : Int32)) rfl (by decide) ?_
    cases hf
    exact w_ireturn rfl (int_ret _) (Nat.le_refl _) (Nat.le_refl _) (hQ _ hM)
  · have c1 : ¬ (s0 = (0 : Int32)) := c1
    rw [if_neg c1] at hf
    refine w_aload_n rfl rfl ?_
    refine m_getR hM rfl rfl rfl (by decide) ?_
    refine w_iconst (v := (4 : Int32)) rfl (by decide) ?_
    refine w_iload_n rfl rfl ?_
    refine w_imul rfl ?_
    refine w_iload_n rfl rfl ?_
    refine w_iadd rfl ?_
    obtain ⟨hb, hf⟩ := g_guard hf
    refine m_zld hM rfl rfl (by decide) rfl hb ?_
    refine w_if (t := 104) rfl (by decide) (fun c2 => ?_) (fun c2 => ?_)
    · have c2 : ¬ (((S).2 21 (ix (((4 : Int32) * x1) + x2))) = (0 : Int32)) := c2
      rw [if_neg c2] at hf
      refine w_bipush (v := (-3 : Int32)) rfl (by decide) ?_
      cases hf
      exact w_ireturn rfl (int_ret _) (Nat.le_refl _) (Nat.le_refl _) (hQ _ hM)
    · have c2 : ((S).2 21 (ix (((4 : Int32) * x1) + x2))) = (0 : Int32) := Classical.not_not.mp c2
      rw [if_pos c2] at hf
      refine w_iload_n rfl rfl ?_
      refine w_iconst (v := (2 : Int32)) rfl (by decide) ?_
      refine w_icmp (t := 107) rfl (by decide) (fun c3 => ?_) (fun c3 => ?_)
      · have c3 : (2 : Int32) ≤ x2 := c3
        rw [if_pos c3] at hf
        exact t_M_ask_B107  hQ _ _ (x1) (x2) (x3)  _ _ hf hM
      · have c3 : ¬ ((2 : Int32) ≤ x2) := c3
        rw [if_neg c3] at hf
        refine w_aload_n rfl rfl ?_
        refine m_getR hM rfl rfl rfl (by decide) ?_
        refine w_iconst (v := (4 : Int32)) rfl (by decide) ?_
        refine w_iload_n rfl rfl ?_
        refine w_imul rfl ?_
        refine w_iconst (v := (1 : Int32)) rfl (by decide) ?_
        refine w_iadd rfl ?_
        refine w_iload_n rfl rfl ?_
        refine w_isub rfl ?_
        obtain ⟨hb, hf⟩ := g_guard hf
        refine m_zld hM rfl rfl (by decide) rfl hb ?_
        refine w_if (t := 107) rfl (by decide) (fun c4 => ?_) (fun c4 => ?_)
        · have c4 : ((S).2 21 (ix ((((4 : Int32) * x1) + (1 : Int32)) - x2))) = (0 : Int32) := c4
          rw [if_pos c4] at hf
          exact t_M_ask_B107  hQ _ _ (x1) (x2) (x3)  _ _ hf hM
        · have c4 : ¬ (((S).2 21 (ix ((((4 : Int32) * x1) + (1 : Int32)) - x2))) = (0 : Int32)) := c4
          rw [if_neg c4] at hf
          refine w_bipush (v := (-3 : Int32)) rfl (by decide) ?_
          cases hf
          exact w_ireturn rfl (int_ret _) (Nat.le_refl _) (Nat.le_refl _) (hQ _ hM)
def f_M_ask_B63 (n : Nat) (S : MS) (x1 : Int32) (x2 : Int32) (x3 : Int32) : Option (Int32 × MS) := f_M_ask_B64  n (S) (x1) (x2) (x3) ((0 : Int32))
set_option maxHeartbeats 4000000 in
set_option maxRecDepth 100000 in
theorem t_M_ask_B63 {d m : Nat} {ad : Nat → Nat} {h0 : gHp} {Q : Option gv → gHp → Prop} {res : Int32 × MS} (hQ : ∀ h', MR h0 h' m ad res.2 → Q (some (.inl res.1)) h') (n : Nat) (S : MS) (x1 : Int32) (x2 : Int32) (x3 : Int32) (u4 : Option gv) (h : gHp) (hf : f_M_ask_B63 n S x1 x2 x3  = some res) (hM : MR h0 h m ad S) : gWP (gCall (d + 2)) m_M_ask Q 63 [some (.inr (some m)), some (.inl x1), some (.inl x2), some (.inl x3), u4] [] h 0 0 := by
  unfold f_M_ask_B63 at hf
  refine w_iconst (v := (0 : Int32)) rfl (by decide) ?_
  exact t_M_ask_B64  hQ _ _ (x1) (x2) (x3) ((0 : Int32)) _ _ hf hM
def f_M_ask_B59 (n : Nat) (S : MS) (x1 : Int32) (x2 : Int32) (x3 : Int32) : Option (Int32 × MS) := f_M_ask_B64  n (S) (x1) (x2) (x3) ((1 : Int32))
set_option maxHeartbeats 4000000 in
set_option maxRecDepth 100000 in
theorem t_M_ask_B59 {d m : Nat} {ad : Nat → Nat} {h0 : gHp} {Q : Option gv → gHp → Prop} {res : Int32 × MS} (hQ : ∀ h', MR h0 h' m ad res.2 → Q (some (.inl res.1)) h') (n : Nat) (S : MS) (x1 : Int32) (x2 : Int32) (x3 : Int32) (u4 : Option gv) (h : gHp) (hf : f_M_ask_B59 n S x1 x2 x3  = some res) (hM : MR h0 h m ad S) : gWP (gCall (d + 2)) m_M_ask Q 59 [some (.inr (some m)), some (.inl x1), some (.inl x2), some (.inl x3), u4] [] h 0 0 := by
  unfold f_M_ask_B59 at hf
  refine w_iconst (v := (1 : Int32)) rfl (by decide) ?_
  refine w_goto (t := 64) rfl (by decide) ?_
  exact t_M_ask_B64  hQ _ _ (x1) (x2) (x3) ((1 : Int32)) _ _ hf hM
def f_M_ask_B34 (n : Nat) (S : MS) (x1 : Int32) (x2 : Int32) (x3 : Int32) : Option (Int32 × MS) := (bif inB (x1) 61 then (if ((S).2 5 (ix (x1))) = (2 : Int32) then f_M_ask_B59  n (S) (x1) (x2) (x3)  else (bif inB (x1) 61 then (if ((S).2 5 (ix (x1))) = (1 : Int32) then (if (3 : Int32) ≤ x2 then f_M_ask_B63  n (S) (x1) (x2) (x3)  else f_M_ask_B59  n (S) (x1) (x2) (x3) ) else f_M_ask_B63  n (S) (x1) (x2) (x3) ) else none)) else none)
set_option maxHeartbeats 4000000 in
set_option maxRecDepth 100000 in
theorem t_M_ask_B34 {d m : Nat} {ad : Nat → Nat} {h0 : gHp} {Q : Option gv → gHp → Prop} {res : Int32 × MS} (hQ : ∀ h', MR h0 h' m ad res.2 → Q (some (.inl res.1)) h') (n : Nat) (S : MS) (x1 : Int32) (x2 : Int32) (x3 : Int32) (u4 : Option gv) (h : gHp) (hf : f_M_ask_B34 n S x1 x2 x3  = some res) (hM : MR h0 h m ad S) : gWP (gCall (d + 2)) m_M_ask Q 34 [some (.inr (some m)), some (.inl x1), some (.inl x2), some (.inl x3), u4] [] h 0 0 := by
  unfold f_M_ask_B34 at hf
  refine w_aload_n rfl rfl ?_
  refine m_getR hM rfl rfl rfl (by decide) ?_
  refine w_iload_n rfl rfl ?_
  obtain ⟨hb, hf⟩ := g_guard hf
  refine m_ld hM rfl rfl (by decide) rfl hb ?_
  refine w_iconst (v := (2 : Int32)) rfl (by decide) ?_
  refine w_icmp (t := 59) rfl (by decide) (fun c1 => ?_) (fun c1 => ?_)
  · have c1 : ((S).2 5 (ix (x1))) = (2 : Int32) := c1
    rw [if_pos c1] at hf
    exact t_M_ask_B59  hQ _ _ (x1) (x2) (x3)  _ _ hf hM
  · have c1 : ¬ (((S).2 5 (ix (x1))) = (2 : Int32)) := c1
    rw [if_neg c1] at hf
    refine w_aload_n rfl rfl ?_
    refine m_getR hM rfl rfl rfl (by decide) ?_
    refine w_iload_n rfl rfl ?_
    obtain ⟨hb, hf⟩ := g_guard hf
    refine m_ld hM rfl rfl (by decide) rfl hb ?_
    refine w_iconst (v := (1 : Int32)) rfl (by decide) ?_
    refine w_icmp (t := 63) rfl (by decide) (fun c2 => ?_) (fun c2 => ?_)
    · have c2 : ¬ (((S).2 5 (ix (x1))) = (1 : Int32)) := c2
      rw [if_neg c2] at hf
      exact t_M_ask_B63  hQ _ _ (x1) (x2) (x3)  _ _ hf hM
    · have c2 : ((S).2 5 (ix (x1))) = (1 : Int32) := Classical.not_not.mp c2
      rw [if_pos c2] at hf
      refine w_iload_n rfl rfl ?_
      refine w_iconst (v := (3 : Int32)) rfl (by decide) ?_
      refine w_icmp (t := 63) rfl (by decide) (fun c3 => ?_) (fun c3 => ?_)
      · have c3 : (3 : Int32) ≤ x2 := c3
        rw [if_pos c3] at hf
        exact t_M_ask_B63  hQ _ _ (x1) (x2) (x3)  _ _ hf hM
      · have c3 : ¬ ((3 : Int32) ≤ x2) := c3
        rw [if_neg c3] at hf
        exact t_M_ask_B59  hQ _ _ (x1) (x2) (x3)  _ _ hf hM
def f_M_ask (n : Nat) (S : MS) (x1 : Int32) (x2 : Int32) (x3 : Int32) : Option (Int32 × MS) := ((f_M_isPane n (S) (x1)).bind (fun q1 => (if q1.1 = (0 : Int32) then some ((-1 : Int32), q1.2) else ((f_M_in n (q1.2) (x2) ((0 : Int32)) ((3 : Int32))).bind (fun q3 => (if q3.1 = (0 : Int32) then some ((-1 : Int32), q3.2) else (if x2 = (1 : Int32) then ((f_M_in n (q3.2) (x3) ((1 : Int32)) ((40 : Int32))).bind (fun q6 => (if q6.1 = (0 : Int32) then some ((-1 : Int32), q6.2) else f_M_ask_B34  n (q6.2) (x1) (x2) (x3) ))) else f_M_ask_B34  n (q3.2) (x1) (x2) (x3) )))))))
set_option maxHeartbeats 4000000 in
set_option maxRecDepth 100000 in
theorem t_M_ask {d m n : Nat} {ad : Nat → Nat} {h0 h : gHp} {Q : Option gv → gHp → Prop} {S : MS} {x1 : Int32} {x2 : Int32} {x3 : Int32} {res : Int32 × MS} (hf : f_M_ask n S x1 x2 x3 = some res) (hM : MR h0 h m ad S) (hQ : ∀ h', MR h0 h' m ad res.2 → Q (some (.inl res.1)) h') : gCall (d + 3) m_M_ask [.inr (some m), .inl x1, .inl x2, .inl x3] h Q := by
  unfold f_M_ask at hf
  refine g_enter (d := d + 2) (Nat.le_of_ble_eq_true rfl) ?_
  show gWP (gCall (d + 2)) m_M_ask Q 0 [some (.inr (some m)), some (.inl x1), some (.inl x2), some (.inl x3), none] [] h 0 0
  refine w_aload_n rfl rfl ?_
  refine w_iload_n rfl rfl ?_
  obtain ⟨q1, hc, hf⟩ := g_bind hf
  refine w_virtual [_] _ rfl rfl rfl rfl (Nat.le_of_ble_eq_true rfl) hM.1 rfl (Nat.le_of_ble_eq_true rfl) (Nat.le_of_ble_eq_true rfl) (t_M_isPane (d := d + 0) hc hM (fun h hM => ?_))
  refine w_if (t := 32) rfl (by decide) (fun c2 => ?_) (fun c2 => ?_)
  · have c2 : q1.1 = (0 : Int32) := c2
    rw [if_pos c2] at hf
    refine w_iconst (v := (-1 : Int32)) rfl (by decide) ?_
    cases hf
    exact w_ireturn rfl (int_ret _) (Nat.le_refl _) (Nat.le_refl _) (hQ _ hM)
  · have c2 : ¬ (q1.1 = (0 : Int32)) := c2
    rw [if_neg c2] at hf
    refine w_iload_n rfl rfl ?_
    refine w_iconst (v := (0 : Int32)) rfl (by decide) ?_
    refine w_iconst (v := (3 : Int32)) rfl (by decide) ?_
    obtain ⟨q3, hc, hf⟩ := g_bind hf
    refine w_static [_, _, _] _ rfl rfl rfl rfl (Nat.le_of_ble_eq_true rfl) (Nat.le_of_ble_eq_true rfl) (Nat.le_of_ble_eq_true rfl) (t_M_in (d := d + 1) hc hM (fun h hM => ?_))
    refine w_if (t := 32) rfl (by decide) (fun c4 => ?_) (fun c4 => ?_)
    · have c4 : q3.1 = (0 : Int32) := c4
      rw [if_pos c4] at hf
      refine w_iconst (v := (-1 : Int32)) rfl (by decide) ?_
      cases hf
      exact w_ireturn rfl (int_ret _) (Nat.le_refl _) (Nat.le_refl _) (hQ _ hM)
    · have c4 : ¬ (q3.1 = (0 : Int32)) := c4
      rw [if_neg c4] at hf
      refine w_iload_n rfl rfl ?_
      refine w_iconst (v := (1 : Int32)) rfl (by decide) ?_
      refine w_icmp (t := 34) rfl (by decide) (fun c5 => ?_) (fun c5 => ?_)
      · have c5 : ¬ (x2 = (1 : Int32)) := c5
        rw [if_neg c5] at hf
        exact t_M_ask_B34  hQ _ _ (x1) (x2) (x3)  _ _ hf hM
      · have c5 : x2 = (1 : Int32) := Classical.not_not.mp c5
        rw [if_pos c5] at hf
        refine w_iload_n rfl rfl ?_
        refine w_iconst (v := (1 : Int32)) rfl (by decide) ?_
        refine w_bipush (v := (40 : Int32)) rfl (by decide) ?_
        obtain ⟨q6, hc, hf⟩ := g_bind hf
        refine w_static [_, _, _] _ rfl rfl rfl rfl (Nat.le_of_ble_eq_true rfl) (Nat.le_of_ble_eq_true rfl) (Nat.le_of_ble_eq_true rfl) (t_M_in (d := d + 1) hc hM (fun h hM => ?_))
        refine w_if (t := 34) rfl (by decide) (fun c7 => ?_) (fun c7 => ?_)
        · have c7 : ¬ (q6.1 = (0 : Int32)) := c7
          rw [if_neg c7] at hf
          exact t_M_ask_B34  hQ _ _ (x1) (x2) (x3)  _ _ hf hM
        · have c7 : q6.1 = (0 : Int32) := Classical.not_not.mp c7
          rw [if_pos c7] at hf
          refine w_iconst (v := (-1 : Int32)) rfl (by decide) ?_
          cases hf
          exact w_ireturn rfl (int_ret _) (Nat.le_refl _) (Nat.le_refl _) (hQ _ hM)
def f_M_sign_B126 (n : Nat) (S : MS) (x1 : Int32) (x2 : Int32) : Option (Int32 × MS) := (bif inB (x1) 61 then (bif inB (x1) 61 then (bif inB (x1) 61 then (bif inB (x1) 61 then ((f_M_lay n (S) (x1) ((S).2 34 (ix (x1))) ((S).2 35 (ix (x1))) (x2) ((S).2 16 (ix (x1))) ((S).2 17 (ix (x1)))).bind (fun q1 => (bif inB (x1) 61 then (bif inB (x1) 61 then some ((1 : Int32), (q1).a 34 (ix (x1)) (((q1).2 34 (ix (x1))) + (1 : Int32))) else none) else none))) else none) else none) else none) else none)
set_option maxHeartbeats 4000000 in
set_option maxRecDepth 100000 in
theorem t_M_sign_B126 {d m : Nat} {ad : Nat → Nat} {h0 : gHp} {Q : Option gv → gHp → Prop} {res : Int32 × MS} (hQ : ∀ h', MR h0 h' m ad res.2 → Q (some (.inl res.1)) h') (n : Nat) (S : MS) (x1 : Int32) (x2 : Int32) (h : gHp) (hf : f_M_sign_B126 n S x1 x2  = some res) (hM : MR h0 h m ad S) : gWP (gCall (d + 2)) m_M_sign Q 126 [some (.inr (some m)), some (.inl x1), some (.inl x2)] [] h 0 0 := by
  unfold f_M_sign_B126 at hf
  refine w_aload_n rfl rfl ?_
  refine w_iload_n rfl rfl ?_
  refine w_aload_n rfl rfl ?_
  refine m_getR hM rfl rfl rfl (by decide) ?_
  refine w_iload_n rfl rfl ?_
  obtain ⟨hb, hf⟩ := g_guard hf
  refine m_ld hM rfl rfl (by decide) rfl hb ?_
  refine w_aload_n rfl rfl ?_
  refine m_getR hM rfl rfl rfl (by decide) ?_
  refine w_iload_n rfl rfl ?_
  obtain ⟨hb, hf⟩ := g_guard hf
  refine m_ld hM rfl rfl (by decide) rfl hb ?_
  refine w_iload_n rfl rfl ?_
  refine w_aload_n rfl rfl ?_
  refine m_getR hM rfl rfl rfl (by decide) ?_
  refine w_iload_n rfl rfl ?_
  obtain ⟨hb, hf⟩ := g_guard hf
  refine m_ld hM rfl rfl (by decide) rfl hb ?_
  refine w_aload_n rfl rfl ?_
  refine m_getR hM rfl rfl rfl (by decide) ?_
  refine w_iload_n rfl rfl ?_
  obtain ⟨hb, hf⟩ := g_guard hf
  refine m_ld hM rfl rfl (by decide) rfl hb ?_
  obtain ⟨q1, hc, hf⟩ := g_bind hf
  refine w_virtual [_, _, _, _, _, _] _ rfl rfl rfl rfl (Nat.le_of_ble_eq_true rfl) hM.1 rfl (Nat.le_of_ble_eq_true rfl) (Nat.le_of_ble_eq_true rfl) (t_M_lay (d := d + 0) hc hM (fun h hM => ?_))
  refine w_aload_n rfl rfl ?_
  refine m_getR hM rfl rfl rfl (by decide) ?_
  refine w_iload_n rfl rfl ?_
  refine w_dup2 rfl ?_
  obtain ⟨hb, hf⟩ := g_guard hf
  refine m_ld hM rfl rfl (by decide) rfl hb ?_
  refine w_iconst (v := (1 : Int32)) rfl (by decide) ?_
  refine w_iadd rfl ?_
  obtain ⟨hb, hf⟩ := g_guard hf
  refine m_st hM rfl rfl (by decide) rfl hb (fun h hM => ?_)
  refine w_iconst (v := (1 : Int32)) rfl (by decide) ?_
  cases hf
  exact w_ireturn rfl (int_ret _) (Nat.le_refl _) (Nat.le_refl _) (hQ _ hM)
def f_M_sign_B27 (n : Nat) (S : MS) (x1 : Int32) (x2 : Int32) : Option (Int32 × MS) := ((f_M_isWritable n (S) (x1)).bind (fun q1 => (if q1.1 = (0 : Int32) then some ((-3 : Int32), q1.2) else (bif inB (((4 : Int32) * x1) + (1 : Int32)) 244 then (if ((q1.2).2 21 (ix (((4 : Int32) * x1) + (1 : Int32)))) = (0 : Int32) then (bif inB (x1) 61 then (bif inB (x1) 61 then (bif inB (x1) 61 then (if (((q1.2).a 18 (ix (x1)) (((q1.2).2 18 (ix (x1))) + (1 : Int32))).2 5 (ix (x1))) = (1 : Int32) then (bif inB (x1) 61 then (bif inB (x1) 61 then ((f_M_add n ((q1.2).a 18 (ix (x1)) (((q1.2).2 18 (ix (x1))) + (1 : Int32))) (x1) (x2) (((q1.2).a 18 (ix (x1)) (((q1.2).2 18 (ix (x1))) + (1 : Int32))).2 16 (ix (x1))) (((q1.2).a 18 (ix (x1)) (((q1.2).2 18 (ix (x1))) + (1 : Int32))).2 17 (ix (x1)))).bind (fun q5 => some ((1 : Int32), q5))) else none) else none) else (if x2 = (10 : Int32) then ((f_M_nextRow n ((q1.2).a 18 (ix (x1)) (((q1.2).2 18 (ix (x1))) + (1 : Int32))) (x1)).bind (fun q6 => some ((1 : Int32), q6))) else (bif inB (x1) 61 then (bif inB (x1) 61 then (if (((q1.2).a 18 (ix (x1)) (((q1.2).2 18 (ix (x1))) + (1 : Int32))).2 34 (ix (x1))) < (((q1.2).a 18 (ix (x1)) (((q1.2).2 18 (ix (x1))) + (1 : Int32))).2 14 (ix (x1))) then f_M_sign_B126  n ((q1.2).a 18 (ix (x1)) (((q1.2).2 18 (ix (x1))) + (1 : Int32))) (x1) (x2)  else ((f_M_nextRow n ((q1.2).a 18 (ix (x1)) (((q1.2).2 18 (ix (x1))) + (1 : Int32))) (x1)).bind (fun q7 => f_M_sign_B126  n (q7) (x1) (x2) ))) else none) else none))) else none) else none) else none) else some ((-3 : Int32), q1.2)) else none))))
set_option maxHeartbeats 4000000 in
set_option maxRecDepth 100000 in
theorem t_M_sign_B27 {d m : Nat} {ad : Nat → Nat} {h0 : gHp} {Q : Option gv → gHp → Prop} {res : Int32 × MS} (hQ : ∀ h', MR h0 h' m ad res.2 → Q (some (.inl res.1)) h') (n : Nat) (S : MS) (x1 : Int32) (x2 : Int32) (h : gHp) (hf : f_M_sign_B27 n S x1 x2  = some res) (hM : MR h0 h m ad S) : gWP (gCall (d + 2)) m_M_sign Q 27 [some (.inr (some m)), some (.inl x1), some (.inl x2)] [] h 0 0 := by
  unfold f_M_sign_B27 at hf
  refine w_aload_n rfl rfl ?_
  refine w_iload_n rfl rfl ?_
  obtain ⟨q1, hc, hf⟩ := g_bind hf
  refine w_virtual [_] _ rfl rfl rfl rfl (Nat.le_of_ble_eq_true rfl) hM.1 rfl (Nat.le_of_ble_eq_true rfl) (Nat.le_of_ble_eq_true rfl) (t_M_isWritable (d := d + 1) hc hM (fun h hM => ?_))
  refine w_if (t := 48) rfl (by decide) (fun c2 => ?_) (fun c2 => ?_)
  · have c2 : q1.1 = (0 : Int32) := c2
    rw [if_pos c2] at hf
    refine w_bipush (v := (-3 : Int32)) rfl (by decide) ?_
    cases hf
    exact w_ireturn rfl (int_ret _) (Nat.le_refl _) (Nat.le_refl _) (hQ _ hM)
  · have c2 : ¬ (q1.1 = (0 : Int32)) := c2
    rw [if_neg c2] at hf
    refine w_aload_n rfl rfl ?_
    refine m_getR hM rfl rfl rfl (by decide) ?_
    refine w_iconst (v := (4 : Int32)) rfl (by decide) ?_
    refine w_iload_n rfl rfl ?_
    refine w_imul rfl ?_
    refine w_iconst (v := (1 : Int32)) rfl (by decide) ?_
    refine w_iadd rfl ?_
    obtain ⟨hb, hf⟩ := g_guard hf
    refine m_zld hM rfl rfl (by decide) rfl hb ?_
    refine w_if (t := 51) rfl (by decide) (fun c3 => ?_) (fun c3 => ?_)
    · have c3 : ((q1.2).2 21 (ix (((4 : Int32) * x1) + (1 : Int32)))) = (0 : Int32) := c3
      rw [if_pos c3] at hf
      refine w_aload_n rfl rfl ?_
      refine m_getR hM rfl rfl rfl (by decide) ?_
      refine w_iload_n rfl rfl ?_
      refine w_dup2 rfl ?_
      obtain ⟨hb, hf⟩ := g_guard hf
      refine m_ld hM rfl rfl (by decide) rfl hb ?_
      refine w_iconst (v := (1 : Int32)) rfl (by decide) ?_
      refine w_iadd rfl ?_
      obtain ⟨hb, hf⟩ := g_guard hf
      refine m_st hM rfl rfl (by decide) rfl hb (fun h hM => ?_)
      refine w_aload_n rfl rfl ?_
      refine m_getR hM rfl rfl rfl (by decide) ?_
      refine w_iload_n rfl rfl ?_
      obtain ⟨hb, hf⟩ := g_guard hf
      refine m_ld hM rfl rfl (by decide) rfl hb ?_
      refine w_iconst (v := (1 : Int32)) rfl (by decide) ?_
      refine w_icmp (t := 92) rfl (by decide) (fun c4 => ?_) (fun c4 => ?_)
      · have c4 : ¬ ((((q1.2).a 18 (ix (x1)) (((q1.2).2 18 (ix (x1))) + (1 : Int32))).2 5 (ix (x1))) = (1 : Int32)) := c4
        rw [if_neg c4] at hf
        refine w_iload_n rfl rfl ?_
        refine w_bipush (v := (10 : Int32)) rfl (by decide) ?_
        refine w_icmp (t := 106) rfl (by decide) (fun c5 => ?_) (fun c5 => ?_)
        · have c5 : ¬ (x2 = (10 : Int32)) := c5
          rw [if_neg c5] at hf
          refine w_aload_n rfl rfl ?_
          refine m_getR hM rfl rfl rfl (by decide) ?_
          refine w_iload_n rfl rfl ?_
          obtain ⟨hb, hf⟩ := g_guard hf
          refine m_ld hM rfl rfl (by decide) rfl hb ?_
          refine w_aload_n rfl rfl ?_
          refine m_getR hM rfl rfl rfl (by decide) ?_
          refine w_iload_n rfl rfl ?_
          obtain ⟨hb, hf⟩ := g_guard hf
          refine m_ld hM rfl rfl (by decide) rfl hb ?_
          refine w_icmp (t := 126) rfl (by decide) (fun c6 => ?_) (fun c6 => ?_)
          · have c6 : (((q1.2).a 18 (ix (x1)) (((q1.2).2 18 (ix (x1))) + (1 : Int32))).2 34 (ix (x1))) < (((q1.2).a 18 (ix (x1)) (((q1.2).2 18 (ix (x1))) + (1 : Int32))).2 14 (ix (x1))) := c6
            rw [if_pos c6] at hf
            exact t_M_sign_B126  hQ _ _ (x1) (x2)   _ hf hM
          · have c6 : ¬ ((((q1.2).a 18 (ix (x1)) (((q1.2).2 18 (ix (x1))) + (1 : Int32))).2 34 (ix (x1))) < (((q1.2).a 18 (ix (x1)) (((q1.2).2 18 (ix (x1))) + (1 : Int32))).2 14 (ix (x1)))) := c6
            rw [if_neg c6] at hf
            refine w_aload_n rfl rfl ?_
            refine w_iload_n rfl rfl ?_
            obtain ⟨q7, hc, hf⟩ := g_bind hf
            refine w_virtual [_] _ rfl rfl rfl rfl (Nat.le_of_ble_eq_true rfl) hM.1 rfl (Nat.le_of_ble_eq_true rfl) (Nat.le_of_ble_eq_true rfl) (t_M_nextRow (d := d + 1) hc hM (fun h hM => ?_))
            exact t_M_sign_B126  hQ _ _ (x1) (x2)   _ hf hM
        · have c5 : x2 = (10 : Int32) := Classical.not_not.mp c5
          rw [if_pos c5] at hf
          refine w_aload_n rfl rfl ?_
          refine w_iload_n rfl rfl ?_
          obtain ⟨q6, hc, hf⟩ := g_bind hf
          refine w_virtual [_] _ rfl rfl rfl rfl (Nat.le_of_ble_eq_true rfl) hM.1 rfl (Nat.le_of_ble_eq_true rfl) (Nat.le_of_ble_eq_true rfl) (t_M_nextRow (d := d + 1) hc hM (fun h hM => ?_))
          refine w_goto (t := 166) rfl (by decide) ?_
          refine w_iconst (v := (1 : Int32)) rfl (by decide) ?_
          cases hf
          exact w_ireturn rfl (int_ret _) (Nat.le_refl _) (Nat.le_refl _) (hQ _ hM)
      · have c4 : (((q1.2).a 18 (ix (x1)) (((q1.2).2 18 (ix (x1))) + (1 : Int32))).2 5 (ix (x1))) = (1 : Int32) := Classical.not_not.mp c4
        rw [if_pos c4] at hf
        refine w_aload_n rfl rfl ?_
        refine w_iload_n rfl rfl ?_
        refine w_iload_n rfl rfl ?_
        refine w_aload_n rfl rfl ?_
        refine m_getR hM rfl rfl rfl (by decide) ?_
        refine w_iload_n rfl rfl ?_
        obtain ⟨hb, hf⟩ := g_guard hf
        refine m_ld hM rfl rfl (by decide) rfl hb ?_
        refine w_aload_n rfl rfl ?_
        refine m_getR hM rfl rfl rfl (by decide) ?_
        refine w_iload_n rfl rfl ?_
        obtain ⟨hb, hf⟩ := g_guard hf
        refine m_ld hM rfl rfl (by decide) rfl hb ?_
        obtain ⟨q5, hc, hf⟩ := g_bind hf
        refine w_virtual [_, _, _, _] _ rfl rfl rfl rfl (Nat.le_of_ble_eq_true rfl) hM.1 rfl (Nat.le_of_ble_eq_true rfl) (Nat.le_of_ble_eq_true rfl) (t_M_add (d := d + 1) hc hM (fun h hM => ?_))
        refine w_goto (t := 166) rfl (by decide) ?_
        refine w_iconst (v := (1 : Int32)) rfl (by decide) ?_
        cases hf
        exact w_ireturn rfl (int_ret _) (Nat.le_refl _) (Nat.le_refl _) (hQ _ hM)
    · have c3 : ¬ (((q1.2).2 21 (ix (((4 : Int32) * x1) + (1 : Int32)))) = (0 : Int32)) := c3
      rw [if_neg c3] at hf
      refine w_bipush (v := (-3 : Int32)) rfl (by decide) ?_
      cases hf
      exact w_ireturn rfl (int_ret _) (Nat.le_refl _) (Nat.le_refl _) (hQ _ hM)
def f_M_sign (n : Nat) (S : MS) (x1 : Int32) (x2 : Int32) : Option (Int32 × MS) := ((f_M_isPane n (S) (x1)).bind (fun q1 => (if q1.1 = (0 : Int32) then some ((-1 : Int32), q1.2) else (if x2 = (10 : Int32) then f_M_sign_B27  n (q1.2) (x1) (x2)  else ((f_M_in n (q1.2) (x2) ((32 : Int32)) ((126 : Int32))).bind (fun q4 => (if q4.1 = (0 : Int32) then some ((-1 : Int32), q4.2) else f_M_sign_B27  n (q4.2) (x1) (x2) )))))))
set_option maxHeartbeats 4000000 in
set_option maxRecDepth 100000 in
theorem t_M_sign {d m n : Nat} {ad : Nat → Nat} {h0 h : gHp} {Q : Option gv → gHp → Prop} {S : MS} {x1 : Int32} {x2 : Int32} {res : Int32 × MS} (hf : f_M_sign n S x1 x2 = some res) (hM : MR h0 h m ad S) (hQ : ∀ h', MR h0 h' m ad res.2 → Q (some (.inl res.1)) h') : gCall (d + 3) m_M_sign [.inr (some m), .inl x1, .inl x2] h Q := by
  unfold f_M_sign at hf
  refine g_enter (d := d + 2) (Nat.le_of_ble_eq_true rfl) ?_
  show gWP (gCall (d + 2)) m_M_sign Q 0 [some (.inr (some m)), some (.inl x1), some (.inl x2)] [] h 0 0
  refine w_aload_n rfl rfl ?_
  refine w_iload_n rfl rfl ?_
  obtain ⟨q1, hc, hf⟩ := g_bind hf
  refine w_virtual [_] _ rfl rfl rfl rfl (Nat.le_of_ble_eq_true rfl) hM.1 rfl (Nat.le_of_ble_eq_true rfl) (Nat.le_of_ble_eq_true rfl) (t_M_isPane (d := d + 0) hc hM (fun h hM => ?_))
  refine w_if (t := 25) rfl (by decide) (fun c2 => ?_) (fun c2 => ?_)
  · have c2 : q1.1 = (0 : Int32) := c2
    rw [if_pos c2] at hf
    refine w_iconst (v := (-1 : Int32)) rfl (by decide) ?_
    cases hf
    exact w_ireturn rfl (int_ret _) (Nat.le_refl _) (Nat.le_refl _) (hQ _ hM)
  · have c2 : ¬ (q1.1 = (0 : Int32)) := c2
    rw [if_neg c2] at hf
    refine w_iload_n rfl rfl ?_
    refine w_bipush (v := (10 : Int32)) rfl (by decide) ?_
    refine w_icmp (t := 27) rfl (by decide) (fun c3 => ?_) (fun c3 => ?_)
    · have c3 : x2 = (10 : Int32) := c3
      rw [if_pos c3] at hf
      exact t_M_sign_B27  hQ _ _ (x1) (x2)   _ hf hM
    · have c3 : ¬ (x2 = (10 : Int32)) := c3
      rw [if_neg c3] at hf
      refine w_iload_n rfl rfl ?_
      refine w_bipush (v := (32 : Int32)) rfl (by decide) ?_
      refine w_bipush (v := (126 : Int32)) rfl (by decide) ?_
      obtain ⟨q4, hc, hf⟩ := g_bind hf
      refine w_static [_, _, _] _ rfl rfl rfl rfl (Nat.le_of_ble_eq_true rfl) (Nat.le_of_ble_eq_true rfl) (Nat.le_of_ble_eq_true rfl) (t_M_in (d := d + 1) hc hM (fun h hM => ?_))
      refine w_if (t := 27) rfl (by decide) (fun c5 => ?_) (fun c5 => ?_)
      · have c5 : ¬ (q4.1 = (0 : Int32)) := c5
        rw [if_neg c5] at hf
        exact t_M_sign_B27  hQ _ _ (x1) (x2)   _ hf hM
      · have c5 : q4.1 = (0 : Int32) := Classical.not_not.mp c5
        rw [if_pos c5] at hf
        refine w_iconst (v := (-1 : Int32)) rfl (by decide) ?_
        cases hf
        exact w_ireturn rfl (int_ret _) (Nat.le_refl _) (Nat.le_refl _) (hQ _ hM)
