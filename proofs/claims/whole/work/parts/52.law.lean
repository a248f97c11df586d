def w_law0 (n : Nat) (h : gHp) (b : Nat) (K : gHp → Nat → Nat → Prop) : Prop := (∀ a1, gtag (h) a1 = none → (w_Law_cell n (gnew (h) a1 9 2) (some b) ((0 : Int32)) (fun v h' => ∃ q2, v = some (.inl q2) ∧ (w_Law_cell n (h') (some b) ((1 : Int32)) (fun v h' => ∃ q3, v = some (.inl q3) ∧ (w_G_new n (h') a1 (q2) (q3) (fun v h' => v = none ∧ (∀ a5, gtag (h') a5 = none → (w_Law_cell n (gnew (h') a5 10 44) (some b) ((0 : Int32)) (fun v h' => ∃ q6, v = some (.inl q6) ∧ (w_Law_cell n (h') (some b) ((1 : Int32)) (fun v h' => ∃ q7, v = some (.inl q7) ∧ (w_M_new n (h') a5 (q6) (q7) (fun v h' => v = none ∧ K (h') a1 a5))))))))))))))
set_option maxHeartbeats 4000000 in
set_option maxRecDepth 100000 in
theorem t_law0 {n : Nat} {h : gHp} {b : Nat} {Q : Option gv → gHp → Prop} {K : gHp → Nat → Nat → Prop} (hK : ∀ (h' : gHp) (ax am : Nat), K h' ax am → gWP (gCall 100) m_Law_law Q 38 [some (.inr (some b)), some (.inr (some ax)), some (.inr (some am)), some (.inl 2)] [] h' 64 344958) (hw : w_law0 n h b K) : gWP (gCall 100) m_Law_law Q 0 [some (.inr (some b)), none, none, none] [] h 0 0 := by
  unfold w_law0 at hw
  refine xw_new (tg := 9) (n := 2) rfl rfl rfl rfl rfl (Nat.le_of_ble_eq_true rfl) (Nat.le_of_ble_eq_true rfl) (fun a1 ha1 => ?_)
  have hw := hw a1 ha1
  refine w_dup rfl ?_
  refine w_aload_n rfl rfl ?_
  refine w_iconst (v := (0 : Int32)) rfl (by decide) ?_
  refine w_static [_, _] _ rfl rfl rfl rfl (Nat.le_of_ble_eq_true rfl) (Nat.le_of_ble_eq_true rfl) (Nat.le_of_ble_eq_true rfl) ((t_Law_cell (d := 99) hw).mono (fun v h' hv => ?_))
  obtain ⟨q2, rfl, hw⟩ := hv
  refine w_aload_n rfl rfl ?_
  refine w_iconst (v := (1 : Int32)) rfl (by decide) ?_
  refine w_static [_, _] _ rfl rfl rfl rfl (Nat.le_of_ble_eq_true rfl) (Nat.le_of_ble_eq_true rfl) (Nat.le_of_ble_eq_true rfl) ((t_Law_cell (d := 99) hw).mono (fun v h' hv => ?_))
  obtain ⟨q3, rfl, hw⟩ := hv
  refine w_special [_, _] _ rfl rfl rfl rfl (Nat.le_of_ble_eq_true rfl) (Nat.le_of_ble_eq_true rfl) (Nat.le_of_ble_eq_true rfl) ((t_G_new (d := 97) hw).mono (fun v h' hv => ?_))
  obtain ⟨rfl, hw⟩ := hv
  refine w_astore_n rfl (Nat.le_of_ble_eq_true rfl) rfl ?_
  refine xw_new (tg := 10) (n := 44) rfl rfl rfl rfl rfl (Nat.le_of_ble_eq_true rfl) (Nat.le_of_ble_eq_true rfl) (fun a5 ha5 => ?_)
  have hw := hw a5 ha5
  refine w_dup rfl ?_
  refine w_aload_n rfl rfl ?_
  refine w_iconst (v := (0 : Int32)) rfl (by decide) ?_
  refine w_static [_, _] _ rfl rfl rfl rfl (Nat.le_of_ble_eq_true rfl) (Nat.le_of_ble_eq_true rfl) (Nat.le_of_ble_eq_true rfl) ((t_Law_cell (d := 99) hw).mono (fun v h' hv => ?_))
  obtain ⟨q6, rfl, hw⟩ := hv
  refine w_aload_n rfl rfl ?_
  refine w_iconst (v := (1 : Int32)) rfl (by decide) ?_
  refine w_static [_, _] _ rfl rfl rfl rfl (Nat.le_of_ble_eq_true rfl) (Nat.le_of_ble_eq_true rfl) (Nat.le_of_ble_eq_true rfl) ((t_Law_cell (d := 99) hw).mono (fun v h' hv => ?_))
  obtain ⟨q7, rfl, hw⟩ := hv
  refine w_special [_, _] _ rfl rfl rfl rfl (Nat.le_of_ble_eq_true rfl) (Nat.le_of_ble_eq_true rfl) (Nat.le_of_ble_eq_true rfl) ((t_M_new (d := 98) hw).mono (fun v h' hv => ?_))
  obtain ⟨rfl, hw⟩ := hv
  refine w_astore_n rfl (Nat.le_of_ble_eq_true rfl) rfl ?_
  refine w_iconst (v := (2 : Int32)) rfl (by decide) ?_
  refine w_istore_n rfl (Nat.le_of_ble_eq_true rfl) rfl ?_
  exact hK _ _ _ hw
def w_lawC0 (n : Nat) (h : gHp) (b ax am : Nat) (i : Int32) (Q : Option gv → gHp → Prop) (K : gHp → Int32 → Prop) : Prop := (gArr (gtag (h) b) 24 (i + (1 : Int32)) = true ∧ (gArr (gtag (h) b) 24 (i + (2 : Int32)) = true ∧ (gArr (gtag (h) b) 24 (i + (3 : Int32)) = true ∧ (gArr (gtag (h) b) 24 (i + (4 : Int32)) = true ∧ ((gtis (gtag (h) ax) 9 = true ∧ w_G_open n (h) ax (gint (h) b (ix (i + (1 : Int32)))) (gint (h) b (ix (i + (2 : Int32)))) (gint (h) b (ix (i + (3 : Int32)))) (gint (h) b (ix (i + (4 : Int32)))) (fun v h' => ∃ q4, v = some (.inl q4) ∧ (gArr (gtag (h') b) 24 (i + (1 : Int32)) = true ∧ (gArr (gtag (h') b) 24 (i + (2 : Int32)) = true ∧ (gArr (gtag (h') b) 24 (i + (3 : Int32)) = true ∧ (gArr (gtag (h') b) 24 (i + (4 : Int32)) = true ∧ (∃ (hOq5 : gHp) (adq5 : Nat → Nat) (Sq5 : MS) (q5 : Int32 × MS), MR hOq5 (h') am adq5 Sq5 ∧ f_M_open n Sq5 (gint (h') b (ix (i + (1 : Int32)))) (gint (h') b (ix (i + (2 : Int32)))) (gint (h') b (ix (i + (3 : Int32)))) (gint (h') b (ix (i + (4 : Int32)))) = some q5 ∧ ∀ h', MR hOq5 h' am adq5 q5.2 → ((q4 = q5.1 → K (h') (i + (5 : Int32))) ∧ (¬ (q4 = q5.1) → Q (some (.inl ((0 : Int32)))) (h')))))))))))))))
def w_lawC1 (n : Nat) (h : gHp) (b ax am : Nat) (i : Int32) (Q : Option gv → gHp → Prop) (K : gHp → Int32 → Prop) : Prop := (gArr (gtag (h) b) 24 (i + (1 : Int32)) = true ∧ (∃ q5, (bif gtis (gtag (h) ax) 9 then f_G_close n (h) ax (gint (h) b (ix (i + (1 : Int32)))) else none) = some q5 ∧ (gArr (gtag (q5.2) b) 24 (i + (1 : Int32)) = true ∧ (∃ (hOq6 : gHp) (adq6 : Nat → Nat) (Sq6 : MS) (q6 : Int32 × MS), MR hOq6 (q5.2) am adq6 Sq6 ∧ f_M_close n Sq6 (gint (q5.2) b (ix (i + (1 : Int32)))) = some q6 ∧ ∀ h', MR hOq6 h' am adq6 q6.2 → ((q5.1 = q6.1 → K (h') (i + (5 : Int32))) ∧ (¬ (q5.1 = q6.1) → Q (some (.inl ((0 : Int32)))) (h')))))))
def w_lawC2 (n : Nat) (h : gHp) (b ax am : Nat) (i : Int32) (Q : Option gv → gHp → Prop) (K : gHp → Int32 → Prop) : Prop := (gArr (gtag (h) b) 24 (i + (1 : Int32)) = true ∧ (gArr (gtag (h) b) 24 (i + (2 : Int32)) = true ∧ (gArr (gtag (h) b) 24 (i + (3 : Int32)) = true ∧ (gArr (gtag (h) b) 24 (i + (4 : Int32)) = true ∧ (∃ q6, (bif gtis (gtag (h) ax) 9 then f_G_arrange n (h) ax (gint (h) b (ix (i + (1 : Int32)))) (gint (h) b (ix (i + (2 : Int32)))) (gint (h) b (ix (i + (3 : Int32)))) (gint (h) b (ix (i + (4 : Int32)))) else none) = some q6 ∧ (gArr (gtag (q6.2) b) 24 (i + (1 : Int32)) = true ∧ (gArr (gtag (q6.2) b) 24 (i + (2 : Int32)) = true ∧ (gArr (gtag (q6.2) b) 24 (i + (3 : Int32)) = true ∧ (gArr (gtag (q6.2) b) 24 (i + (4 : Int32)) = true ∧ (∃ (hOq7 : gHp) (adq7 : Nat → Nat) (Sq7 : MS) (q7 : Int32 × MS), MR hOq7 (q6.2) am adq7 Sq7 ∧ f_M_arrange n Sq7 (gint (q6.2) b (ix (i + (1 : Int32)))) (gint (q6.2) b (ix (i + (2 : Int32)))) (gint (q6.2) b (ix (i + (3 : Int32)))) (gint (q6.2) b (ix (i + (4 : Int32)))) = some q7 ∧ ∀ h', MR hOq7 h' am adq7 q7.2 → ((q6.1 = q7.1 → K (h') (i + (5 : Int32))) ∧ (¬ (q6.1 = q7.1) → Q (some (.inl ((0 : Int32)))) (h')))))))))))))
def w_lawC3 (n : Nat) (h : gHp) (b ax am : Nat) (i : Int32) (Q : Option gv → gHp → Prop) (K : gHp → Int32 → Prop) : Prop := (gArr (gtag (h) b) 24 (i + (1 : Int32)) = true ∧ (gArr (gtag (h) b) 24 (i + (2 : Int32)) = true ∧ (∃ q7, (bif gtis (gtag (h) ax) 9 then f_G_pane n (h) ax (gint (h) b (ix (i + (1 : Int32)))) (gint (h) b (ix (i + (2 : Int32)))) else none) = some q7 ∧ (gArr (gtag (q7.2) b) 24 (i + (1 : Int32)) = true ∧ (gArr (gtag (q7.2) b) 24 (i + (2 : Int32)) = true ∧ (∃ (hOq8 : gHp) (adq8 : Nat → Nat) (Sq8 : MS) (q8 : Int32 × MS), MR hOq8 (q7.2) am adq8 Sq8 ∧ f_M_pane n Sq8 (gint (q7.2) b (ix (i + (1 : Int32)))) (gint (q7.2) b (ix (i + (2 : Int32)))) = some q8 ∧ ∀ h', MR hOq8 h' am adq8 q8.2 → ((q7.1 = q8.1 → K (h') (i + (5 : Int32))) ∧ (¬ (q7.1 = q8.1) → Q (some (.inl ((0 : Int32)))) (h')))))))))
def w_lawC4 (n : Nat) (h : gHp) (b ax am : Nat) (i : Int32) (Q : Option gv → gHp → Prop) (K : gHp → Int32 → Prop) : Prop := (gArr (gtag (h) b) 24 (i + (1 : Int32)) = true ∧ (gArr (gtag (h) b) 24 (i + (2 : Int32)) = true ∧ (∃ q8, (bif gtis (gtag (h) ax) 9 then f_G_pair n (h) ax (gint (h) b (ix (i + (1 : Int32)))) (gint (h) b (ix (i + (2 : Int32)))) else none) = some q8 ∧ (gArr (gtag (q8.2) b) 24 (i + (1 : Int32)) = true ∧ (gArr (gtag (q8.2) b) 24 (i + (2 : Int32)) = true ∧ (∃ (hOq9 : gHp) (adq9 : Nat → Nat) (Sq9 : MS) (q9 : Int32 × MS), MR hOq9 (q8.2) am adq9 Sq9 ∧ f_M_pair n Sq9 (gint (q8.2) b (ix (i + (1 : Int32)))) (gint (q8.2) b (ix (i + (2 : Int32)))) = some q9 ∧ ∀ h', MR hOq9 h' am adq9 q9.2 → ((q8.1 = q9.1 → K (h') (i + (5 : Int32))) ∧ (¬ (q8.1 = q9.1) → Q (some (.inl ((0 : Int32)))) (h')))))))))
def w_lawC5 (n : Nat) (h : gHp) (b ax am : Nat) (i : Int32) (Q : Option gv → gHp → Prop) (K : gHp → Int32 → Prop) : Prop := (∃ q9, (bif gtis (gtag (h) ax) 9 then f_G_root n (h) ax  else none) = some q9 ∧ (∃ (hOq10 : gHp) (adq10 : Nat → Nat) (Sq10 : MS) (q10 : Int32 × MS), MR hOq10 (q9.2) am adq10 Sq10 ∧ f_M_root n Sq10  = some q10 ∧ ∀ h', MR hOq10 h' am adq10 q10.2 → ((q9.1 = q10.1 → K (h') (i + (5 : Int32))) ∧ (¬ (q9.1 = q10.1) → Q (some (.inl ((0 : Int32)))) (h')))))
def w_lawC6 (n : Nat) (h : gHp) (b ax am : Nat) (i : Int32) (Q : Option gv → gHp → Prop) (K : gHp → Int32 → Prop) : Prop := (gArr (gtag (h) b) 24 (i + (1 : Int32)) = true ∧ (gArr (gtag (h) b) 24 (i + (2 : Int32)) = true ∧ (∃ q10, (bif gtis (gtag (h) ax) 9 then f_G_resize n (h) ax (gint (h) b (ix (i + (1 : Int32)))) (gint (h) b (ix (i + (2 : Int32)))) else none) = some q10 ∧ (gArr (gtag (q10.2) b) 24 (i + (1 : Int32)) = true ∧ (gArr (gtag (q10.2) b) 24 (i + (2 : Int32)) = true ∧ (∃ (hOq11 : gHp) (adq11 : Nat → Nat) (Sq11 : MS) (q11 : Int32 × MS), MR hOq11 (q10.2) am adq11 Sq11 ∧ f_M_resize n Sq11 (gint (q10.2) b (ix (i + (1 : Int32)))) (gint (q10.2) b (ix (i + (2 : Int32)))) = some q11 ∧ ∀ h', MR hOq11 h' am adq11 q11.2 → ((q10.1 = q11.1 → K (h') (i + (5 : Int32))) ∧ (¬ (q10.1 = q11.1) → Q (some (.inl ((0 : Int32)))) (h')))))))))
def w_lawC7 (n : Nat) (h : gHp) (b ax am : Nat) (i : Int32) (Q : Option gv → gHp → Prop) (K : gHp → Int32 → Prop) : Prop := (gArr (gtag (h) b) 24 (i + (1 : Int32)) = true ∧ (gArr (gtag (h) b) 24 (i + (2 : Int32)) = true ∧ (∃ q11, (bif gtis (gtag (h) ax) 9 then f_G_sign n (h) ax (gint (h) b (ix (i + (1 : Int32)))) (gint (h) b (ix (i + (2 : Int32)))) else none) = some q11 ∧ (gArr (gtag (q11.2) b) 24 (i + (1 : Int32)) = true ∧ (gArr (gtag (q11.2) b) 24 (i + (2 : Int32)) = true ∧ (∃ (hOq12 : gHp) (adq12 : Nat → Nat) (Sq12 : MS) (q12 : Int32 × MS), MR hOq12 (q11.2) am adq12 Sq12 ∧ f_M_sign n Sq12 (gint (q11.2) b (ix (i + (1 : Int32)))) (gint (q11.2) b (ix (i + (2 : Int32)))) = some q12 ∧ ∀ h', MR hOq12 h' am adq12 q12.2 → ((q11.1 = q12.1 → K (h') (i + (5 : Int32))) ∧ (¬ (q11.1 = q12.1) → Q (some (.inl ((0 : Int32)))) (h')))))))))
def w_lawC8 (n : Nat) (h : gHp) (b ax am : Nat) (i : Int32) (Q : Option gv → gHp → Prop) (K : gHp → Int32 → Prop) : Prop := (gArr (gtag (h) b) 24 (i + (1 : Int32)) = true ∧ (gArr (gtag (h) b) 24 (i + (2 : Int32)) = true ∧ (∃ q12, (bif gtis (gtag (h) ax) 9 then f_G_style n (h) ax (gint (h) b (ix (i + (1 : Int32)))) (gint (h) b (ix (i + (2 : Int32)))) else none) = some q12 ∧ (gArr (gtag (q12.2) b) 24 (i + (1 : Int32)) = true ∧ (gArr (gtag (q12.2) b) 24 (i + (2 : Int32)) = true ∧ (∃ (hOq13 : gHp) (adq13 : Nat → Nat) (Sq13 : MS) (q13 : Int32 × MS), MR hOq13 (q12.2) am adq13 Sq13 ∧ f_M_style n Sq13 (gint (q12.2) b (ix (i + (1 : Int32)))) (gint (q12.2) b (ix (i + (2 : Int32)))) = some q13 ∧ ∀ h', MR hOq13 h' am adq13 q13.2 → ((q12.1 = q13.1 → K (h') (i + (5 : Int32))) ∧ (¬ (q12.1 = q13.1) → Q (some (.inl ((0 : Int32)))) (h')))))))))
def w_lawC9 (n : Nat) (h : gHp) (b ax am : Nat) (i : Int32) (Q : Option gv → gHp → Prop) (K : gHp → Int32 → Prop) : Prop := (gArr (gtag (h) b) 24 (i + (1 : Int32)) = true ∧ (gArr (gtag (h) b) 24 (i + (2 : Int32)) = true ∧ (∃ q13, (bif gtis (gtag (h) ax) 9 then f_G_link n (h) ax (gint (h) b (ix (i + (1 : Int32)))) (gint (h) b (ix (i + (2 : Int32)))) else none) = some q13 ∧ (gArr (gtag (q13.2) b) 24 (i + (1 : Int32)) = true ∧ (gArr (gtag (q13.2) b) 24 (i + (2 : Int32)) = true ∧ (∃ (hOq14 : gHp) (adq14 : Nat → Nat) (Sq14 : MS) (q14 : Int32 × MS), MR hOq14 (q13.2) am adq14 Sq14 ∧ f_M_link n Sq14 (gint (q13.2) b (ix (i + (1 : Int32)))) (gint (q13.2) b (ix (i + (2 : Int32)))) = some q14 ∧ ∀ h', MR hOq14 h' am adq14 q14.2 → ((q13.1 = q14.1 → K (h') (i + (5 : Int32))) ∧ (¬ (q13.1 = q14.1) → Q (some (.inl ((0 : Int32)))) (h')))))))))
def w_lawC10 (n : Nat) (h : gHp) (b ax am : Nat) (i : Int32) (Q : Option gv → gHp → Prop) (K : gHp → Int32 → Prop) : Prop := (gArr (gtag (h) b) 24 (i + (1 : Int32)) = true ∧ (gArr (gtag (h) b) 24 (i + (2 : Int32)) = true ∧ (gArr (gtag (h) b) 24 (i + (3 : Int32)) = true ∧ (∃ q14, (bif gtis (gtag (h) ax) 9 then f_G_cursor n (h) ax (gint (h) b (ix (i + (1 : Int32)))) (gint (h) b (ix (i + (2 : Int32)))) (gint (h) b (ix (i + (3 : Int32)))) else none) = some q14 ∧ (gArr (gtag (q14.2) b) 24 (i + (1 : Int32)) = true ∧ (gArr (gtag (q14.2) b) 24 (i + (2 : Int32)) = true ∧ (gArr (gtag (q14.2) b) 24 (i + (3 : Int32)) = true ∧ (∃ (hOq15 : gHp) (adq15 : Nat → Nat) (Sq15 : MS) (q15 : Int32 × MS), MR hOq15 (q14.2) am adq15 Sq15 ∧ f_M_cursor n Sq15 (gint (q14.2) b (ix (i + (1 : Int32)))) (gint (q14.2) b (ix (i + (2 : Int32)))) (gint (q14.2) b (ix (i + (3 : Int32)))) = some q15 ∧ ∀ h', MR hOq15 h' am adq15 q15.2 → ((q14.1 = q15.1 → K (h') (i + (5 : Int32))) ∧ (¬ (q14.1 = q15.1) → Q (some (.inl ((0 : Int32)))) (h')))))))))))
def w_lawC11 (n : Nat) (h : gHp) (b ax am : Nat) (i : Int32) (Q : Option gv → gHp → Prop) (K : gHp → Int32 → Prop) : Prop := (gArr (gtag (h) b) 24 (i + (1 : Int32)) = true ∧ (gArr (gtag (h) b) 24 (i + (2 : Int32)) = true ∧ (∃ q15, (bif gtis (gtag (h) ax) 9 then f_G_at n (h) ax (gint (h) b (ix (i + (1 : Int32)))) (gint (h) b (ix (i + (2 : Int32)))) else none) = some q15 ∧ (gArr (gtag (q15.2) b) 24 (i + (1 : Int32)) = true ∧ (gArr (gtag (q15.2) b) 24 (i + (2 : Int32)) = true ∧ (∃ (hOq16 : gHp) (adq16 : Nat → Nat) (Sq16 : MS) (q16 : Int32 × MS), MR hOq16 (q15.2) am adq16 Sq16 ∧ f_M_at n Sq16 (gint (q15.2) b (ix (i + (1 : Int32)))) (gint (q15.2) b (ix (i + (2 : Int32)))) = some q16 ∧ ∀ h', MR hOq16 h' am adq16 q16.2 → ((q15.1 = q16.1 → K (h') (i + (5 : Int32))) ∧ (¬ (q15.1 = q16.1) → Q (some (.inl ((0 : Int32)))) (h')))))))))
def w_lawC12 (n : Nat) (h : gHp) (b ax am : Nat) (i : Int32) (Q : Option gv → gHp → Prop) (K : gHp → Int32 → Prop) : Prop := (gArr (gtag (h) b) 24 (i + (1 : Int32)) = true ∧ (∃ q16, (bif gtis (gtag (h) ax) 9 then f_G_wipe n (h) ax (gint (h) b (ix (i + (1 : Int32)))) else none) = some q16 ∧ (gArr (gtag (q16.2) b) 24 (i + (1 : Int32)) = true ∧ (∃ (hOq17 : gHp) (adq17 : Nat → Nat) (Sq17 : MS) (q17 : Int32 × MS), MR hOq17 (q16.2) am adq17 Sq17 ∧ f_M_wipe n Sq17 (gint (q16.2) b (ix (i + (1 : Int32)))) = some q17 ∧ ∀ h', MR hOq17 h' am adq17 q17.2 → ((q16.1 = q17.1 → K (h') (i + (5 : Int32))) ∧ (¬ (q16.1 = q17.1) → Q (some (.inl ((0 : Int32)))) (h')))))))
def w_lawC13 (n : Nat) (h : gHp) (b ax am : Nat) (i : Int32) (Q : Option gv → gHp → Prop) (K : gHp → Int32 → Prop) : Prop := (gArr (gtag (h) b) 24 (i + (1 : Int32)) = true ∧ (gArr (gtag (h) b) 24 (i + (2 : Int32)) = true ∧ (∃ q17, (bif gtis (gtag (h) ax) 9 then f_G_picture n (h) ax (gint (h) b (ix (i + (1 : Int32)))) (gint (h) b (ix (i + (2 : Int32)))) else none) = some q17 ∧ (gArr (gtag (q17.2) b) 24 (i + (1 : Int32)) = true ∧ (gArr (gtag (q17.2) b) 24 (i + (2 : Int32)) = true ∧ (∃ (hOq18 : gHp) (adq18 : Nat → Nat) (Sq18 : MS) (q18 : Int32 × MS), MR hOq18 (q17.2) am adq18 Sq18 ∧ f_M_picture n Sq18 (gint (q17.2) b (ix (i + (1 : Int32)))) (gint (q17.2) b (ix (i + (2 : Int32)))) = some q18 ∧ ∀ h', MR hOq18 h' am adq18 q18.2 → ((q17.1 = q18.1 → K (h') (i + (5 : Int32))) ∧ (¬ (q17.1 = q18.1) → Q (some (.inl ((0 : Int32)))) (h')))))))))
def w_lawC14 (n : Nat) (h : gHp) (b ax am : Nat) (i : Int32) (Q : Option gv → gHp → Prop) (K : gHp → Int32 → Prop) : Prop := (gArr (gtag (h) b) 24 (i + (1 : Int32)) = true ∧ (gArr (gtag (h) b) 24 (i + (2 : Int32)) = true ∧ (gArr (gtag (h) b) 24 (i + (3 : Int32)) = true ∧ (gArr (gtag (h) b) 24 (i + (4 : Int32)) = true ∧ (∃ q18, (bif gtis (gtag (h) ax) 9 then f_G_shown n (h) ax (gint (h) b (ix (i + (1 : Int32)))) (gint (h) b (ix (i + (2 : Int32)))) (gint (h) b (ix (i + (3 : Int32)))) (gint (h) b (ix (i + (4 : Int32)))) else none) = some q18 ∧ (gArr (gtag (q18.2) b) 24 (i + (1 : Int32)) = true ∧ (gArr (gtag (q18.2) b) 24 (i + (2 : Int32)) = true ∧ (gArr (gtag (q18.2) b) 24 (i + (3 : Int32)) = true ∧ (gArr (gtag (q18.2) b) 24 (i + (4 : Int32)) = true ∧ (∃ (hOq19 : gHp) (adq19 : Nat → Nat) (Sq19 : MS) (q19 : Int32 × MS), MR hOq19 (q18.2) am adq19 Sq19 ∧ f_M_shown n Sq19 (gint (q18.2) b (ix (i + (1 : Int32)))) (gint (q18.2) b (ix (i + (2 : Int32)))) (gint (q18.2) b (ix (i + (3 : Int32)))) (gint (q18.2) b (ix (i + (4 : Int32)))) = some q19 ∧ ∀ h', MR hOq19 h' am adq19 q19.2 → ((q18.1 = q19.1 → K (h') (i + (5 : Int32))) ∧ (¬ (q18.1 = q19.1) → Q (some (.inl ((0 : Int32)))) (h')))))))))))))
def w_lawC15 (n : Nat) (h : gHp) (b ax am : Nat) (i : Int32) (Q : Option gv → gHp → Prop) (K : gHp → Int32 → Prop) : Prop := (gArr (gtag (h) b) 24 (i + (1 : Int32)) = true ∧ (∃ q19, (bif gtis (gtag (h) ax) 9 then f_G_lines n (h) ax (gint (h) b (ix (i + (1 : Int32)))) else none) = some q19 ∧ (gArr (gtag (q19.2) b) 24 (i + (1 : Int32)) = true ∧ (∃ (hOq20 : gHp) (adq20 : Nat → Nat) (Sq20 : MS) (q20 : Int32 × MS), MR hOq20 (q19.2) am adq20 Sq20 ∧ f_M_lines n Sq20 (gint (q19.2) b (ix (i + (1 : Int32)))) = some q20 ∧ ∀ h', MR hOq20 h' am adq20 q20.2 → ((q19.1 = q20.1 → K (h') (i + (5 : Int32))) ∧ (¬ (q19.1 = q20.1) → Q (some (.inl ((0 : Int32)))) (h')))))))
def w_lawC16 (n : Nat) (h : gHp) (b ax am : Nat) (i : Int32) (Q : Option gv → gHp → Prop) (K : gHp → Int32 → Prop) : Prop := (gArr (gtag (h) b) 24 (i + (1 : Int32)) = true ∧ (gArr (gtag (h) b) 24 (i + (2 : Int32)) = true ∧ (∃ q20, (bif gtis (gtag (h) ax) 9 then f_G_drawn n (h) ax (gint (h) b (ix (i + (1 : Int32)))) (gint (h) b (ix (i + (2 : Int32)))) else none) = some q20 ∧ (gArr (gtag (q20.2) b) 24 (i + (1 : Int32)) = true ∧ (gArr (gtag (q20.2) b) 24 (i + (2 : Int32)) = true ∧ (∃ (hOq21 : gHp) (adq21 : Nat → Nat) (Sq21 : MS) (q21 : Int32 × MS), MR hOq21 (q20.2) am adq21 Sq21 ∧ f_M_drawn n Sq21 (gint (q20.2) b (ix (i + (1 : Int32)))) (gint (q20.2) b (ix (i + (2 : Int32)))) = some q21 ∧ ∀ h', MR hOq21 h' am adq21 q21.2 → ((q20.1 = q21.1 → K (h') (i + (5 : Int32))) ∧ (¬ (q20.1 = q21.1) → Q (some (.inl ((0 : Int32)))) (h')))))))))
def w_lawC17 (n : Nat) (h : gHp) (b ax am : Nat) (i : Int32) (Q : Option gv → gHp → Prop) (K : gHp → Int32 → Prop) : Prop := (gArr (gtag (h) b) 24 (i + (1 : Int32)) = true ∧ (gArr (gtag (h) b) 24 (i + (2 : Int32)) = true ∧ (∃ q21, (bif gtis (gtag (h) ax) 9 then f_G_under n (h) ax (gint (h) b (ix (i + (1 : Int32)))) (gint (h) b (ix (i + (2 : Int32)))) else none) = some q21 ∧ (gArr (gtag (q21.2) b) 24 (i + (1 : Int32)) = true ∧ (gArr (gtag (q21.2) b) 24 (i + (2 : Int32)) = true ∧ (∃ (hOq22 : gHp) (adq22 : Nat → Nat) (Sq22 : MS) (q22 : Int32 × MS), MR hOq22 (q21.2) am adq22 Sq22 ∧ f_M_under n Sq22 (gint (q21.2) b (ix (i + (1 : Int32)))) (gint (q21.2) b (ix (i + (2 : Int32)))) = some q22 ∧ ∀ h', MR hOq22 h' am adq22 q22.2 → ((q21.1 = q22.1 → K (h') (i + (5 : Int32))) ∧ (¬ (q21.1 = q22.1) → Q (some (.inl ((0 : Int32)))) (h')))))))))
def w_lawC18 (n : Nat) (h : gHp) (b ax am : Nat) (i : Int32) (Q : Option gv → gHp → Prop) (K : gHp → Int32 → Prop) : Prop := (gArr (gtag (h) b) 24 (i + (1 : Int32)) = true ∧ (gArr (gtag (h) b) 24 (i + (2 : Int32)) = true ∧ (gArr (gtag (h) b) 24 (i + (3 : Int32)) = true ∧ (∃ q22, (bif gtis (gtag (h) ax) 9 then f_G_ask n (h) ax (gint (h) b (ix (i + (1 : Int32)))) (gint (h) b (ix (i + (2 : Int32)))) (gint (h) b (ix (i + (3 : Int32)))) else none) = some q22 ∧ (gArr (gtag (q22.2) b) 24 (i + (1 : Int32)) = true ∧ (gArr (gtag (q22.2) b) 24 (i + (2 : Int32)) = true ∧ (gArr (gtag (q22.2) b) 24 (i + (3 : Int32)) = true ∧ (∃ (hOq23 : gHp) (adq23 : Nat → Nat) (Sq23 : MS) (q23 : Int32 × MS), MR hOq23 (q22.2) am adq23 Sq23 ∧ f_M_ask n Sq23 (gint (q22.2) b (ix (i + (1 : Int32)))) (gint (q22.2) b (ix (i + (2 : Int32)))) (gint (q22.2) b (ix (i + (3 : Int32)))) = some q23 ∧ ∀ h', MR hOq23 h' am adq23 q23.2 → ((q22.1 = q23.1 → K (h') (i + (5 : Int32))) ∧ (¬ (q22.1 = q23.1) → Q (some (.inl ((0 : Int32)))) (h')))))))))))
def w_lawC19 (n : Nat) (h : gHp) (b ax am : Nat) (i : Int32) (Q : Option gv → gHp → Prop) (K : gHp → Int32 → Prop) : Prop := (gArr (gtag (h) b) 24 (i + (1 : Int32)) = true ∧ (gArr (gtag (h) b) 24 (i + (2 : Int32)) = true ∧ (∃ q23, (bif gtis (gtag (h) ax) 9 then f_G_cancel n (h) ax (gint (h) b (ix (i + (1 : Int32)))) (gint (h) b (ix (i + (2 : Int32)))) else none) = some q23 ∧ (gArr (gtag (q23.2) b) 24 (i + (1 : Int32)) = true ∧ (gArr (gtag (q23.2) b) 24 (i + (2 : Int32)) = true ∧ (∃ (hOq24 : gHp) (adq24 : Nat → Nat) (Sq24 : MS) (q24 : Int32 × MS), MR hOq24 (q23.2) am adq24 Sq24 ∧ f_M_cancel n Sq24 (gint (q23.2) b (ix (i + (1 : Int32)))) (gint (q23.2) b (ix (i + (2 : Int32)))) = some q24 ∧ ∀ h', MR hOq24 h' am adq24 q24.2 → ((q23.1 = q24.1 → K (h') (i + (5 : Int32))) ∧ (¬ (q23.1 = q24.1) → Q (some (.inl ((0 : Int32)))) (h')))))))))
def w_lawC20 (n : Nat) (h : gHp) (b ax am : Nat) (i : Int32) (Q : Option gv → gHp → Prop) (K : gHp → Int32 → Prop) : Prop := (gArr (gtag (h) b) 24 (i + (1 : Int32)) = true ∧ (gArr (gtag (h) b) 24 (i + (2 : Int32)) = true ∧ (((gint (h) b (ix (i + (2 : Int32)))) = (0 : Int32) → (∃ q25, (bif gtis (gtag (h) ax) 9 then f_G_echo n (h) ax (gint (h) b (ix (i + (1 : Int32)))) ((0 : Int32)) else none) = some q25 ∧ (gArr (gtag (q25.2) b) 24 (i + (1 : Int32)) = true ∧ (gArr (gtag (q25.2) b) 24 (i + (2 : Int32)) = true ∧ (((gint (q25.2) b (ix (i + (2 : Int32)))) = (0 : Int32) → (∃ (hOq27 : gHp) (adq27 : Nat → Nat) (Sq27 : MS) (q27 : Int32 × MS), MR hOq27 (q25.2) am adq27 Sq27 ∧ f_M_echo n Sq27 (gint (q25.2) b (ix (i + (1 : Int32)))) ((0 : Int32)) = some q27 ∧ ∀ h', MR hOq27 h' am adq27 q27.2 → ((q25.1 = q27.1 → K (h') (i + (5 : Int32))) ∧ (¬ (q25.1 = q27.1) → Q (some (.inl ((0 : Int32)))) (h'))))) ∧ (¬ ((gint (q25.2) b (ix (i + (2 : Int32)))) = (0 : Int32)) → (∃ (hOq27 : gHp) (adq27 : Nat → Nat) (Sq27 : MS) (q27 : Int32 × MS), MR hOq27 (q25.2) am adq27 Sq27 ∧ f_M_echo n Sq27 (gint (q25.2) b (ix (i + (1 : Int32)))) ((1 : Int32)) = some q27 ∧ ∀ h', MR hOq27 h' am adq27 q27.2 → ((q25.1 = q27.1 → K (h') (i + (5 : Int32))) ∧ (¬ (q25.1 = q27.1) → Q (some (.inl ((0 : Int32)))) (h')))))))))) ∧ (¬ ((gint (h) b (ix (i + (2 : Int32)))) = (0 : Int32)) → (∃ q25, (bif gtis (gtag (h) ax) 9 then f_G_echo n (h) ax (gint (h) b (ix (i + (1 : Int32)))) ((1 : Int32)) else none) = some q25 ∧ (gArr (gtag (q25.2) b) 24 (i + (1 : Int32)) = true ∧ (gArr (gtag (q25.2) b) 24 (i + (2 : Int32)) = true ∧ (((gint (q25.2) b (ix (i + (2 : Int32)))) = (0 : Int32) → (∃ (hOq27 : gHp) (adq27 : Nat → Nat) (Sq27 : MS) (q27 : Int32 × MS), MR hOq27 (q25.2) am adq27 Sq27 ∧ f_M_echo n Sq27 (gint (q25.2) b (ix (i + (1 : Int32)))) ((0 : Int32)) = some q27 ∧ ∀ h', MR hOq27 h' am adq27 q27.2 → ((q25.1 = q27.1 → K (h') (i + (5 : Int32))) ∧ (¬ (q25.1 = q27.1) → Q (some (.inl ((0 : Int32)))) (h'))))) ∧ (¬ ((gint (q25.2) b (ix (i + (2 : Int32)))) = (0 : Int32)) → (∃ (hOq27 : gHp) (adq27 : Nat → Nat) (Sq27 : MS) (q27 : Int32 × MS), MR hOq27 (q25.2) am adq27 Sq27 ∧ f_M_echo n Sq27 (gint (q25.2) b (ix (i + (1 : Int32)))) ((1 : Int32)) = some q27 ∧ ∀ h', MR hOq27 h' am adq27 q27.2 → ((q25.1 = q27.1 → K (h') (i + (5 : Int32))) ∧ (¬ (q25.1 = q27.1) → Q (some (.inl ((0 : Int32)))) (h')))))))))))))
def w_lawC21 (n : Nat) (h : gHp) (b ax am : Nat) (i : Int32) (Q : Option gv → gHp → Prop) (K : gHp → Int32 → Prop) : Prop := (gArr (gtag (h) b) 24 (i + (1 : Int32)) = true ∧ (gArr (gtag (h) b) 24 (i + (2 : Int32)) = true ∧ (∃ q25, (bif gtis (gtag (h) ax) 9 then f_G_type n (h) ax (gint (h) b (ix (i + (1 : Int32)))) (gint (h) b (ix (i + (2 : Int32)))) else none) = some q25 ∧ (gArr (gtag (q25.2) b) 24 (i + (1 : Int32)) = true ∧ (gArr (gtag (q25.2) b) 24 (i + (2 : Int32)) = true ∧ (∃ (hOq26 : gHp) (adq26 : Nat → Nat) (Sq26 : MS) (q26 : Int32 × MS), MR hOq26 (q25.2) am adq26 Sq26 ∧ f_M_type n Sq26 (gint (q25.2) b (ix (i + (1 : Int32)))) (gint (q25.2) b (ix (i + (2 : Int32)))) = some q26 ∧ ∀ h', MR hOq26 h' am adq26 q26.2 → ((q25.1 = q26.1 → K (h') (i + (5 : Int32))) ∧ (¬ (q25.1 = q26.1) → Q (some (.inl ((0 : Int32)))) (h')))))))))
def w_lawC22 (n : Nat) (h : gHp) (b ax am : Nat) (i : Int32) (Q : Option gv → gHp → Prop) (K : gHp → Int32 → Prop) : Prop := (gArr (gtag (h) b) 24 (i + (1 : Int32)) = true ∧ (gArr (gtag (h) b) 24 (i + (2 : Int32)) = true ∧ (∃ q26, (bif gtis (gtag (h) ax) 9 then f_G_click n (h) ax (gint (h) b (ix (i + (1 : Int32)))) (gint (h) b (ix (i + (2 : Int32)))) else none) = some q26 ∧ (gArr (gtag (q26.2) b) 24 (i + (1 : Int32)) = true ∧ (gArr (gtag (q26.2) b) 24 (i + (2 : Int32)) = true ∧ (∃ (hOq27 : gHp) (adq27 : Nat → Nat) (Sq27 : MS) (q27 : Int32 × MS), MR hOq27 (q26.2) am adq27 Sq27 ∧ f_M_click n Sq27 (gint (q26.2) b (ix (i + (1 : Int32)))) (gint (q26.2) b (ix (i + (2 : Int32)))) = some q27 ∧ ∀ h', MR hOq27 h' am adq27 q27.2 → ((q26.1 = q27.1 → K (h') (i + (5 : Int32))) ∧ (¬ (q26.1 = q27.1) → Q (some (.inl ((0 : Int32)))) (h')))))))))
def w_lawC23 (n : Nat) (h : gHp) (b ax am : Nat) (i : Int32) (Q : Option gv → gHp → Prop) (K : gHp → Int32 → Prop) : Prop := (∃ q27, (bif gtis (gtag (h) ax) 9 then f_G_take n (h) ax  else none) = some q27 ∧ (∃ (hOq28 : gHp) (adq28 : Nat → Nat) (Sq28 : MS) (q28 : Int32 × MS), MR hOq28 (q27.2) am adq28 Sq28 ∧ f_M_take n Sq28  = some q28 ∧ ∀ h', MR hOq28 h' am adq28 q28.2 → ((q27.1 = q28.1 → K (h') (i + (5 : Int32))) ∧ (¬ (q27.1 = q28.1) → Q (some (.inl ((0 : Int32)))) (h')))))
def w_lawC24 (n : Nat) (h : gHp) (b ax am : Nat) (i : Int32) (Q : Option gv → gHp → Prop) (K : gHp → Int32 → Prop) : Prop := (gArr (gtag (h) b) 24 (i + (1 : Int32)) = true ∧ (∃ q28, (bif gtis (gtag (h) ax) 9 then f_G_event n (h) ax (gint (h) b (ix (i + (1 : Int32)))) else none) = some q28 ∧ (gArr (gtag (q28.2) b) 24 (i + (1 : Int32)) = true ∧ (∃ (hOq29 : gHp) (adq29 : Nat → Nat) (Sq29 : MS) (q29 : Int32 × MS), MR hOq29 (q28.2) am adq29 Sq29 ∧ f_M_event_1 n Sq29 (gint (q28.2) b (ix (i + (1 : Int32)))) = some q29 ∧ ∀ h', MR hOq29 h' am adq29 q29.2 → ((q28.1 = q29.1 → K (h') (i + (5 : Int32))) ∧ (¬ (q28.1 = q29.1) → Q (some (.inl ((0 : Int32)))) (h')))))))
def w_lawC25 (n : Nat) (h : gHp) (b ax am : Nat) (i : Int32) (Q : Option gv → gHp → Prop) (K : gHp → Int32 → Prop) : Prop := (gArr (gtag (h) b) 24 (i + (1 : Int32)) = true ∧ (∃ q29, (bif gtis (gtag (h) ax) 9 then f_G_count n (h) ax (gint (h) b (ix (i + (1 : Int32)))) else none) = some q29 ∧ (gArr (gtag (q29.2) b) 24 (i + (1 : Int32)) = true ∧ (∃ (hOq30 : gHp) (adq30 : Nat → Nat) (Sq30 : MS) (q30 : Int32 × MS), MR hOq30 (q29.2) am adq30 Sq30 ∧ f_M_count n Sq30 (gint (q29.2) b (ix (i + (1 : Int32)))) = some q30 ∧ ∀ h', MR hOq30 h' am adq30 q30.2 → ((q29.1 = q30.1 → K (h') (i + (5 : Int32))) ∧ (¬ (q29.1 = q30.1) → Q (some (.inl ((0 : Int32)))) (h')))))))
def w_lawB (n : Nat) (h : gHp) (b ax am : Nat) (i : Int32) (Q : Option gv → gHp → Prop) (K : gHp → Int32 → Prop) : Prop := (∃ t1, gtag (h) b = some t1 ∧ (Nat.ble 20 t1.1 && Nat.ble t1.1 24) = true ∧ ((((Int32.ofNat t1.2) - (5 : Int32)) < i → Q (some (.inl ((1 : Int32)))) (h)) ∧ (¬ (((Int32.ofNat t1.2) - (5 : Int32)) < i) → (gArr (gtag (h) b) 24 (i) = true ∧ ((((gint (h) b (ix (i))) &&& (31 : Int32)) = (0 : Int32) → w_lawC0 n h b ax am i Q K) ∧ (¬ (((gint (h) b (ix (i))) &&& (31 : Int32)) = (0 : Int32)) → ((((gint (h) b (ix (i))) &&& (31 : Int32)) = (1 : Int32) → w_lawC1 n h b ax am i Q K) ∧ (¬ (((gint (h) b (ix (i))) &&& (31 : Int32)) = (1 : Int32)) → ((((gint (h) b (ix (i))) &&& (31 : Int32)) = (2 : Int32) → w_lawC2 n h b ax am i Q K) ∧ (¬ (((gint (h) b (ix (i))) &&& (31 : Int32)) = (2 : Int32)) → ((((gint (h) b (ix (i))) &&& (31 : Int32)) = (3 : Int32) → w_lawC3 n h b ax am i Q K) ∧ (¬ (((gint (h) b (ix (i))) &&& (31 : Int32)) = (3 : Int32)) → ((((gint (h) b (ix (i))) &&& (31 : Int32)) = (4 : Int32) → w_lawC4 n h b ax am i Q K) ∧ (¬ (((gint (h) b (ix (i))) &&& (31 : Int32)) = (4 : Int32)) → ((((gint (h) b (ix (i))) &&& (31 : Int32)) = (5 : Int32) → w_lawC5 n h b ax am i Q K) ∧ (¬ (((gint (h) b (ix (i))) &&& (31 : Int32)) = (5 : Int32)) → ((((gint (h) b (ix (i))) &&& (31 : Int32)) = (6 : Int32) → w_lawC6 n h b ax am i Q K) ∧ (¬ (((gint (h) b (ix (i))) &&& (31 : Int32)) = (6 : Int32)) → ((((gint (h) b (ix (i))) &&& (31 : Int32)) = (7 : Int32) → w_lawC7 n h b ax am i Q K) ∧ (¬ (((gint (h) b (ix (i))) &&& (31 : Int32)) = (7 : Int32)) → ((((gint (h) b (ix (i))) &&& (31 : Int32)) = (8 : Int32) → w_lawC8 n h b ax am i Q K) ∧ (¬ (((gint (h) b (ix (i))) &&& (31 : Int32)) = (8 : Int32)) → ((((gint (h) b (ix (i))) &&& (31 : Int32)) = (9 : Int32) → w_lawC9 n h b ax am i Q K) ∧ (¬ (((gint (h) b (ix (i))) &&& (31 : Int32)) = (9 : Int32)) → ((((gint (h) b (ix (i))) &&& (31 : Int32)) = (10 : Int32) → w_lawC10 n h b ax am i Q K) ∧ (¬ (((gint (h) b (ix (i))) &&& (31 : Int32)) = (10 : Int32)) → ((((gint (h) b (ix (i))) &&& (31 : Int32)) = (11 : Int32) → w_lawC11 n h b ax am i Q K) ∧ (¬ (((gint (h) b (ix (i))) &&& (31 : Int32)) = (11 : Int32)) → ((((gint (h) b (ix (i))) &&& (31 : Int32)) = (12 : Int32) → w_lawC12 n h b ax am i Q K) ∧ (¬ (((gint (h) b (ix (i))) &&& (31 : Int32)) = (12 : Int32)) → ((((gint (h) b (ix (i))) &&& (31 : Int32)) = (13 : Int32) → w_lawC13 n h b ax am i Q K) ∧ (¬ (((gint (h) b (ix (i))) &&& (31 : Int32)) = (13 : Int32)) → ((((gint (h) b (ix (i))) &&& (31 : Int32)) = (14 : Int32) → w_lawC14 n h b ax am i Q K) ∧ (¬ (((gint (h) b (ix (i))) &&& (31 : Int32)) = (14 : Int32)) → ((((gint (h) b (ix (i))) &&& (31 : Int32)) = (15 : Int32) → w_lawC15 n h b ax am i Q K) ∧ (¬ (((gint (h) b (ix (i))) &&& (31 : Int32)) = (15 : Int32)) → ((((gint (h) b (ix (i))) &&& (31 : Int32)) = (16 : Int32) → w_lawC16 n h b ax am i Q K) ∧ (¬ (((gint (h) b (ix (i))) &&& (31 : Int32)) = (16 : Int32)) → ((((gint (h) b (ix (i))) &&& (31 : Int32)) = (17 : Int32) → w_lawC17 n h b ax am i Q K) ∧ (¬ (((gint (h) b (ix (i))) &&& (31 : Int32)) = (17 : Int32)) → ((((gint (h) b (ix (i))) &&& (31 : Int32)) = (18 : Int32) → w_lawC18 n h b ax am i Q K) ∧ (¬ (((gint (h) b (ix (i))) &&& (31 : Int32)) = (18 : Int32)) → ((((gint (h) b (ix (i))) &&& (31 : Int32)) = (19 : Int32) → w_lawC19 n h b ax am i Q K) ∧ (¬ (((gint (h) b (ix (i))) &&& (31 : Int32)) = (19 : Int32)) → ((((gint (h) b (ix (i))) &&& (31 : Int32)) = (20 : Int32) → w_lawC20 n h b ax am i Q K) ∧ (¬ (((gint (h) b (ix (i))) &&& (31 : Int32)) = (20 : Int32)) → ((((gint (h) b (ix (i))) &&& (31 : Int32)) = (21 : Int32) → w_lawC21 n h b ax am i Q K) ∧ (¬ (((gint (h) b (ix (i))) &&& (31 : Int32)) = (21 : Int32)) → ((((gint (h) b (ix (i))) &&& (31 : Int32)) = (22 : Int32) → w_lawC22 n h b ax am i Q K) ∧ (¬ (((gint (h) b (ix (i))) &&& (31 : Int32)) = (22 : Int32)) → ((((gint (h) b (ix (i))) &&& (31 : Int32)) = (23 : Int32) → w_lawC23 n h b ax am i Q K) ∧ (¬ (((gint (h) b (ix (i))) &&& (31 : Int32)) = (23 : Int32)) → ((((gint (h) b (ix (i))) &&& (31 : Int32)) = (24 : Int32) → w_lawC24 n h b ax am i Q K) ∧ (¬ (((gint (h) b (ix (i))) &&& (31 : Int32)) = (24 : Int32)) → ((((gint (h) b (ix (i))) &&& (31 : Int32)) = (25 : Int32) → w_lawC25 n h b ax am i Q K) ∧ (¬ (((gint (h) b (ix (i))) &&& (31 : Int32)) = (25 : Int32)) → K (h) (i + (5 : Int32))))))))))))))))))))))))))))))))))))))))))))))))))))))))))
set_option maxHeartbeats 4000000 in
set_option maxRecDepth 100000 in
theorem t_lawB {n : Nat} {h : gHp} {b ax am : Nat} {i : Int32} {Q : Option gv → gHp → Prop} {K : gHp → Int32 → Prop} {cc ss : Nat} (hcc : cc + 31 ≤ 600000) (hss : ss + 5764 ≤ 7302250) (hK : ∀ (h' : gHp) (i' : Int32) (cc' ss' : Nat), cc' ≤ cc + 31 → ss' ≤ ss + 5764 → K h' i' → gWP (gCall 100) m_Law_law Q 38 [some (.inr (some b)), some (.inr (some ax)), some (.inr (some am)), some (.inl i')] [] h' cc' ss') (hw : w_lawB n h b ax am i Q K) : gWP (gCall 100) m_Law_law Q 38 [some (.inr (some b)), some (.inr (some ax)), some (.inr (some am)), some (.inl i)] [] h cc ss := by
  unfold w_lawB at hw
  refine w_iload_n rfl rfl ?_
  refine w_aload_n rfl rfl ?_
  obtain ⟨t1, ht, hg, hw⟩ := hw
  refine x_len ht hg rfl ?_
  refine w_iconst (v := (5 : Int32)) rfl (by decide) ?_
  refine w_isub rfl ?_
  refine w_icmp (t := 1042) rfl (by decide) (fun c2 => ?_) (fun c2 => ?_)
  · have c2 : ((Int32.ofNat t1.2) - (5 : Int32)) < i := c2
    have hw := hw.1 c2
    refine w_iconst (v := (1 : Int32)) rfl (by decide) ?_
    exact w_ireturn rfl (isZ_ret rfl) (show cc ≤ 600000 by omega) (show ss ≤ 7302250 by omega) hw
  · have c2 : ¬ (((Int32.ofNat t1.2) - (5 : Int32)) < i) := c2
    have hw := hw.2 c2
    refine w_aload_n rfl rfl ?_
    refine w_iload_n rfl rfl ?_
    obtain ⟨hg, hw⟩ := hw
    refine x_lds hg rfl ?_
    refine w_bipush (v := (31 : Int32)) rfl (by decide) ?_
    refine w_iand rfl ?_
    by_cases c3 : ((gint (h) b (ix (i))) &&& (31 : Int32)) = (0 : Int32)
    · have hw := hw.1 c3
      refine w_tswIn (t := 172) c3 rfl (by decide) (by decide) rfl (by decide) ?_
      unfold w_lawC0 at hw
      refine w_aload_n rfl rfl ?_
      refine w_aload_n rfl rfl ?_
      refine w_iload_n rfl rfl ?_
      refine w_iconst (v := (1 : Int32)) rfl (by decide) ?_
      refine w_iadd rfl ?_
      obtain ⟨hg, hw⟩ := hw
      refine x_lds hg rfl ?_
      refine w_aload_n rfl rfl ?_
      refine w_iload_n rfl rfl ?_
      refine w_iconst (v := (2 : Int32)) rfl (by decide) ?_
      refine w_iadd rfl ?_
      obtain ⟨hg, hw⟩ := hw
      refine x_lds hg rfl ?_
      refine w_aload_n rfl rfl ?_
      refine w_iload_n rfl rfl ?_
      refine w_iconst (v := (3 : Int32)) rfl (by decide) ?_
      refine w_iadd rfl ?_
      obtain ⟨hg, hw⟩ := hw
      refine x_lds hg rfl ?_
      refine w_aload_n rfl rfl ?_
      refine w_iload_n rfl rfl ?_
      refine w_iconst (v := (4 : Int32)) rfl (by decide) ?_
      refine w_iadd rfl ?_
      obtain ⟨hg, hw⟩ := hw
      refine x_lds hg rfl ?_
      obtain ⟨hg, hw⟩ := hw
      refine x_virt 9 [_, _, _, _] _ hg rfl rfl rfl rfl (Nat.le_of_ble_eq_true rfl) rfl (show cc + 31 ≤ 600000 from (by omega)) (show ss + 5764 ≤ 7302250 from (by omega)) ((t_G_open (d := 46) hw).mono (fun v h' hv => ?_))
      obtain ⟨q4, rfl, hw⟩ := hv
      refine w_aload_n rfl rfl ?_
      refine w_aload_n rfl rfl ?_
      refine w_iload_n rfl rfl ?_
      refine w_iconst (v := (1 : Int32)) rfl (by decide) ?_
      refine w_iadd rfl ?_
      obtain ⟨hg, hw⟩ := hw
      refine x_lds hg rfl ?_
      refine w_aload_n rfl rfl ?_
      refine w_iload_n rfl rfl ?_
      refine w_iconst (v := (2 : Int32)) rfl (by decide) ?_
      refine w_iadd rfl ?_
      obtain ⟨hg, hw⟩ := hw
      refine x_lds hg rfl ?_
      refine w_aload_n rfl rfl ?_
      refine w_iload_n rfl rfl ?_
      refine w_iconst (v := (3 : Int32)) rfl (by decide) ?_
      refine w_iadd rfl ?_
      obtain ⟨hg, hw⟩ := hw
      refine x_lds hg rfl ?_
      refine w_aload_n rfl rfl ?_
      refine w_iload_n rfl rfl ?_
      refine w_iconst (v := (4 : Int32)) rfl (by decide) ?_
      refine w_iadd rfl ?_
      obtain ⟨hg, hw⟩ := hw
      refine x_lds hg rfl ?_
      obtain ⟨hOq5, adq5, Sq5, q5, hM, hc, hw⟩ := hw
      refine w_virtual [_, _, _, _] _ rfl rfl rfl rfl (Nat.le_of_ble_eq_true rfl) hM.1 rfl (show cc + 31 + 0 ≤ 600000 from (by omega)) (show ss + 5764 + 0 ≤ 7302250 from (by omega)) (t_M_open (d := 96) hc hM (fun h' hM' => ?_))
      have hw := hw h' hM'
      refine w_icmp (t := 1036) rfl (by decide) (fun c6 => ?_) (fun c6 => ?_)
      · have c6 : q4 = q5.1 := c6
        have hw := hw.1 c6
        refine w_iinc (v := (5 : Int32)) rfl rfl (by decide) rfl ?_
        refine w_goto (t := 38) rfl (by decide) ?_
        exact hK _ _ _ _ (show cc + 31 + 0 ≤ cc + 31 by omega) (show ss + 5764 + 0 ≤ ss + 5764 by omega) hw
      · have c6 : ¬ (q4 = q5.1) := c6
        have hw := hw.2 c6
        refine w_iconst (v := (0 : Int32)) rfl (by decide) ?_
        exact w_ireturn rfl (isZ_ret rfl) (show cc + 31 + 0 ≤ 600000 by omega) (show ss + 5764 + 0 ≤ 7302250 by omega) hw
    have hw := hw.2 c3
    by_cases c4 : ((gint (h) b (ix (i))) &&& (31 : Int32)) = (1 : Int32)
    · have hw := hw.1 c4
      refine w_tswIn (t := 225) c4 rfl (by decide) (by decide) rfl (by decide) ?_
      unfold w_lawC1 at hw
      refine w_aload_n rfl rfl ?_
      refine w_aload_n rfl rfl ?_
      refine w_iload_n rfl rfl ?_
      refine w_iconst (v := (1 : Int32)) rfl (by decide) ?_
      refine w_iadd rfl ?_
      obtain ⟨hg, hw⟩ := hw
      refine x_lds hg rfl ?_
      obtain ⟨q5, hc, hw⟩ := hw
      obtain ⟨hg, hc⟩ := g_guard hc
      refine x_virt 9 [_] _ hg rfl rfl rfl rfl (Nat.le_of_ble_eq_true rfl) rfl (show cc + 0 ≤ 600000 from (by omega)) (show ss + 0 ≤ 7302250 from (by omega)) (t_G_close (d := 47) hc ?_)
      refine w_aload_n rfl rfl ?_
      refine w_aload_n rfl rfl ?_
      refine w_iload_n rfl rfl ?_
      refine w_iconst (v := (1 : Int32)) rfl (by decide) ?_
      refine w_iadd rfl ?_
      obtain ⟨hg, hw⟩ := hw
      refine x_lds hg rfl ?_
      obtain ⟨hOq6, adq6, Sq6, q6, hM, hc, hw⟩ := hw
      refine w_virtual [_] _ rfl rfl rfl rfl (Nat.le_of_ble_eq_true rfl) hM.1 rfl (show cc + 0 + 0 ≤ 600000 from (by omega)) (show ss + 0 + 0 ≤ 7302250 from (by omega)) (t_M_close (d := 96) hc hM (fun h' hM' => ?_))
      have hw := hw h' hM'
      refine w_icmp (t := 1036) rfl (by decide) (fun c7 => ?_) (fun c7 => ?_)
      · have c7 : q5.1 = q6.1 := c7
        have hw := hw.1 c7
        refine w_iinc (v := (5 : Int32)) rfl rfl (by decide) rfl ?_
        refine w_goto (t := 38) rfl (by decide) ?_
        exact hK _ _ _ _ (show cc + 0 + 0 ≤ cc + 31 by omega) (show ss + 0 + 0 ≤ ss + 5764 by omega) hw
      · have c7 : ¬ (q5.1 = q6.1) := c7
        have hw := hw.2 c7
        refine w_iconst (v := (0 : Int32)) rfl (by decide) ?_
        exact w_ireturn rfl (isZ_ret rfl) (show cc + 0 + 0 ≤ 600000 by omega) (show ss + 0 + 0 ≤ 7302250 by omega) hw
    have hw := hw.2 c4
    by_cases c5 : ((gint (h) b (ix (i))) &&& (31 : Int32)) = (2 : Int32)
    · have hw := hw.1 c5
      refine w_tswIn (t := 248) c5 rfl (by decide) (by decide) rfl (by decide) ?_
      unfold w_lawC2 at hw
      refine w_aload_n rfl rfl ?_
      refine w_aload_n rfl rfl ?_
      refine w_iload_n rfl rfl ?_
      refine w_iconst (v := (1 : Int32)) rfl (by decide) ?_
      refine w_iadd rfl ?_
      obtain ⟨hg, hw⟩ := hw
      refine x_lds hg rfl ?_
      refine w_aload_n rfl rfl ?_
      refine w_iload_n rfl rfl ?_
      refine w_iconst (v := (2 : Int32)) rfl (by decide) ?_
      refine w_iadd rfl ?_
      obtain ⟨hg, hw⟩ := hw
      refine x_lds hg rfl ?_
      refine w_aload_n rfl rfl ?_
      refine w_iload_n rfl rfl ?_
      refine w_iconst (v := (3 : Int32)) rfl (by decide) ?_
      refine w_iadd rfl ?_
      obtain ⟨hg, hw⟩ := hw
      refine x_lds hg rfl ?_
      refine w_aload_n rfl rfl ?_
      refine w_iload_n rfl rfl ?_
      refine w_iconst (v := (4 : Int32)) rfl (by decide) ?_
      refine w_iadd rfl ?_
      obtain ⟨hg, hw⟩ := hw
      refine x_lds hg rfl ?_
      obtain ⟨q6, hc, hw⟩ := hw
      obtain ⟨hg, hc⟩ := g_guard hc
      refine x_virt 9 [_, _, _, _] _ hg rfl rfl rfl rfl (Nat.le_of_ble_eq_true rfl) rfl (show cc + 0 ≤ 600000 from (by omega)) (show ss + 0 ≤ 7302250 from (by omega)) (t_G_arrange (d := 48) hc ?_)
      refine w_aload_n rfl rfl ?_
      refine w_aload_n rfl rfl ?_
      refine w_iload_n rfl rfl ?_
      refine w_iconst (v := (1 : Int32)) rfl (by decide) ?_
      refine w_iadd rfl ?_
      obtain ⟨hg, hw⟩ := hw
      refine x_lds hg rfl ?_
      refine w_aload_n rfl rfl ?_
      refine w_iload_n rfl rfl ?_
      refine w_iconst (v := (2 : Int32)) rfl (by decide) ?_
      refine w_iadd rfl ?_
      obtain ⟨hg, hw⟩ := hw
      refine x_lds hg rfl ?_
      refine w_aload_n rfl rfl ?_
      refine w_iload_n rfl rfl ?_
      refine w_iconst (v := (3 : Int32)) rfl (by decide) ?_
      refine w_iadd rfl ?_
      obtain ⟨hg, hw⟩ := hw
      refine x_lds hg rfl ?_
      refine w_aload_n rfl rfl ?_
      refine w_iload_n rfl rfl ?_
      refine w_iconst (v := (4 : Int32)) rfl (by decide) ?_
      refine w_iadd rfl ?_
      obtain ⟨hg, hw⟩ := hw
      refine x_lds hg rfl ?_
      obtain ⟨hOq7, adq7, Sq7, q7, hM, hc, hw⟩ := hw
      refine w_virtual [_, _, _, _] _ rfl rfl rfl rfl (Nat.le_of_ble_eq_true rfl) hM.1 rfl (show cc + 0 + 0 ≤ 600000 from (by omega)) (show ss + 0 + 0 ≤ 7302250 from (by omega)) (t_M_arrange (d := 96) hc hM (fun h' hM' => ?_))
      have hw := hw h' hM'
      refine w_icmp (t := 1036) rfl (by decide) (fun c8 => ?_) (fun c8 => ?_)
      · have c8 : q6.1 = q7.1 := c8
        have hw := hw.1 c8
        refine w_iinc (v := (5 : Int32)) rfl rfl (by decide) rfl ?_
        refine w_goto (t := 38) rfl (by decide) ?_
        exact hK _ _ _ _ (show cc + 0 + 0 ≤ cc + 31 by omega) (show ss + 0 + 0 ≤ ss + 5764 by omega) hw
      · have c8 : ¬ (q6.1 = q7.1) := c8
        have hw := hw.2 c8
        refine w_iconst (v := (0 : Int32)) rfl (by decide) ?_
        exact w_ireturn rfl (isZ_ret rfl) (show cc + 0 + 0 ≤ 600000 by omega) (show ss + 0 + 0 ≤ 7302250 by omega) hw
    have hw := hw.2 c5
    by_cases c6 : ((gint (h) b (ix (i))) &&& (31 : Int32)) = (3 : Int32)
    · have hw := hw.1 c6
      refine w_tswIn (t := 301) c6 rfl (by decide) (by decide) rfl (by decide) ?_
      unfold w_lawC3 at hw
      refine w_aload_n rfl rfl ?_
      refine w_aload_n rfl rfl ?_
      refine w_iload_n rfl rfl ?_
      refine w_iconst (v := (1 : Int32)) rfl (by decide) ?_
      refine w_iadd rfl ?_
      obtain ⟨hg, hw⟩ := hw
      refine x_lds hg rfl ?_
      refine w_aload_n rfl rfl ?_
      refine w_iload_n rfl rfl ?_
      refine w_iconst (v := (2 : Int32)) rfl (by decide) ?_
      refine w_iadd rfl ?_
      obtain ⟨hg, hw⟩ := hw
      refine x_lds hg rfl ?_
      obtain ⟨q7, hc, hw⟩ := hw
      obtain ⟨hg, hc⟩ := g_guard hc
      refine x_virt 9 [_, _] _ hg rfl rfl rfl rfl (Nat.le_of_ble_eq_true rfl) rfl (show cc + 0 ≤ 600000 from (by omega)) (show ss + 0 ≤ 7302250 from (by omega)) (t_G_pane (d := 98) hc ?_)
      refine w_aload_n rfl rfl ?_
      refine w_aload_n rfl rfl ?_
      refine w_iload_n rfl rfl ?_
      refine w_iconst (v := (1 : Int32)) rfl (by decide) ?_
      refine w_iadd rfl ?_
      obtain ⟨hg, hw⟩ := hw
      refine x_lds hg rfl ?_
      refine w_aload_n rfl rfl ?_
      refine w_iload_n rfl rfl ?_
      refine w_iconst (v := (2 : Int32)) rfl (by decide) ?_
      refine w_iadd rfl ?_
      obtain ⟨hg, hw⟩ := hw
      refine x_lds hg rfl ?_
      obtain ⟨hOq8, adq8, Sq8, q8, hM, hc, hw⟩ := hw
      refine w_virtual [_, _] _ rfl rfl rfl rfl (Nat.le_of_ble_eq_true rfl) hM.1 rfl (show cc + 0 + 0 ≤ 600000 from (by omega)) (show ss + 0 + 0 ≤ 7302250 from (by omega)) (t_M_pane (d := 97) hc hM (fun h' hM' => ?_))
      have hw := hw h' hM'
      refine w_icmp (t := 1036) rfl (by decide) (fun c9 => ?_) (fun c9 => ?_)
      · have c9 : q7.1 = q8.1 := c9
        have hw := hw.1 c9
        refine w_iinc (v := (5 : Int32)) rfl rfl (by decide) rfl ?_
        refine w_goto (t := 38) rfl (by decide) ?_
        exact hK _ _ _ _ (show cc + 0 + 0 ≤ cc + 31 by omega) (show ss + 0 + 0 ≤ ss + 5764 by omega) hw
      · have c9 : ¬ (q7.1 = q8.1) := c9
        have hw := hw.2 c9
        refine w_iconst (v := (0 : Int32)) rfl (by decide) ?_
        exact w_ireturn rfl (isZ_ret rfl) (show cc + 0 + 0 ≤ 600000 by omega) (show ss + 0 + 0 ≤ 7302250 by omega) hw
    have hw := hw.2 c6
    by_cases c7 : ((gint (h) b (ix (i))) &&& (31 : Int32)) = (4 : Int32)
    · have hw := hw.1 c7
      refine w_tswIn (t := 334) c7 rfl (by decide) (by decide) rfl (by decide) ?_
      unfold w_lawC4 at hw
      refine w_aload_n rfl rfl ?_
      refine w_aload_n rfl rfl ?_
      refine w_iload_n rfl rfl ?_
      refine w_iconst (v := (1 : Int32)) rfl (by decide) ?_
      refine w_iadd rfl ?_
      obtain ⟨hg, hw⟩ := hw
      refine x_lds hg rfl ?_
      refine w_aload_n rfl rfl ?_
      refine w_iload_n rfl rfl ?_
      refine w_iconst (v := (2 : Int32)) rfl (by decide) ?_
      refine w_iadd rfl ?_
      obtain ⟨hg, hw⟩ := hw
      refine x_lds hg rfl ?_
      obtain ⟨q8, hc, hw⟩ := hw
      obtain ⟨hg, hc⟩ := g_guard hc
      refine x_virt 9 [_, _] _ hg rfl rfl rfl rfl (Nat.le_of_ble_eq_true rfl) rfl (show cc + 0 ≤ 600000 from (by omega)) (show ss + 0 ≤ 7302250 from (by omega)) (t_G_pair (d := 98) hc ?_)
      refine w_aload_n rfl rfl ?_
      refine w_aload_n rfl rfl ?_
      refine w_iload_n rfl rfl ?_
      refine w_iconst (v := (1 : Int32)) rfl (by decide) ?_
      refine w_iadd rfl ?_
      obtain ⟨hg, hw⟩ := hw
      refine x_lds hg rfl ?_
      refine w_aload_n rfl rfl ?_
      refine w_iload_n rfl rfl ?_
      refine w_iconst (v := (2 : Int32)) rfl (by decide) ?_
      refine w_iadd rfl ?_
      obtain ⟨hg, hw⟩ := hw
      refine x_lds hg rfl ?_
      obtain ⟨hOq9, adq9, Sq9, q9, hM, hc, hw⟩ := hw
      refine w_virtual [_, _] _ rfl rfl rfl rfl (Nat.le_of_ble_eq_true rfl) hM.1 rfl (show cc + 0 + 0 ≤ 600000 from (by omega)) (show ss + 0 + 0 ≤ 7302250 from (by omega)) (t_M_pair (d := 97) hc hM (fun h' hM' => ?_))
      have hw := hw h' hM'
      refine w_icmp (t := 1036) rfl (by decide) (fun c10 => ?_) (fun c10 => ?_)
      · have c10 : q8.1 = q9.1 := c10
        have hw := hw.1 c10
        refine w_iinc (v := (5 : Int32)) rfl rfl (by decide) rfl ?_
        refine w_goto (t := 38) rfl (by decide) ?_
        exact hK _ _ _ _ (show cc + 0 + 0 ≤ cc + 31 by omega) (show ss + 0 + 0 ≤ ss + 5764 by omega) hw
      · have c10 : ¬ (q8.1 = q9.1) := c10
        have hw := hw.2 c10
        refine w_iconst (v := (0 : Int32)) rfl (by decide) ?_
        exact w_ireturn rfl (isZ_ret rfl) (show cc + 0 + 0 ≤ 600000 by omega) (show ss + 0 + 0 ≤ 7302250 by omega) hw
    have hw := hw.2 c7
    by_cases c8 : ((gint (h) b (ix (i))) &&& (31 : Int32)) = (5 : Int32)
    · have hw := hw.1 c8
      refine w_tswIn (t := 367) c8 rfl (by decide) (by decide) rfl (by decide) ?_
      unfold w_lawC5 at hw
      refine w_aload_n rfl rfl ?_
      obtain ⟨q9, hc, hw⟩ := hw
      obtain ⟨hg, hc⟩ := g_guard hc
      refine x_virt 9 [] _ hg rfl rfl rfl rfl (Nat.le_of_ble_eq_true rfl) rfl (show cc + 0 ≤ 600000 from (by omega)) (show ss + 0 ≤ 7302250 from (by omega)) (t_G_root (d := 98) hc ?_)
      refine w_aload_n rfl rfl ?_
      obtain ⟨hOq10, adq10, Sq10, q10, hM, hc, hw⟩ := hw
      refine w_virtual [] _ rfl rfl rfl rfl (Nat.le_of_ble_eq_true rfl) hM.1 rfl (show cc + 0 + 0 ≤ 600000 from (by omega)) (show ss + 0 + 0 ≤ 7302250 from (by omega)) (t_M_root (d := 99) hc hM (fun h' hM' => ?_))
      have hw := hw h' hM'
      refine w_icmp (t := 1036) rfl (by decide) (fun c11 => ?_) (fun c11 => ?_)
      · have c11 : q9.1 = q10.1 := c11
        have hw := hw.1 c11
        refine w_iinc (v := (5 : Int32)) rfl rfl (by decide) rfl ?_
        refine w_goto (t := 38) rfl (by decide) ?_
        exact hK _ _ _ _ (show cc + 0 + 0 ≤ cc + 31 by omega) (show ss + 0 + 0 ≤ ss + 5764 by omega) hw
      · have c11 : ¬ (q9.1 = q10.1) := c11
        have hw := hw.2 c11
        refine w_iconst (v := (0 : Int32)) rfl (by decide) ?_
        exact w_ireturn rfl (isZ_ret rfl) (show cc + 0 + 0 ≤ 600000 by omega) (show ss + 0 + 0 ≤ 7302250 by omega) hw
    have hw := hw.2 c8
    by_cases c9 : ((gint (h) b (ix (i))) &&& (31 : Int32)) = (6 : Int32)
    · have hw := hw.1 c9
      refine w_tswIn (t := 380) c9 rfl (by decide) (by decide) rfl (by decide) ?_
      unfold w_lawC6 at hw
      refine w_aload_n rfl rfl ?_
      refine w_aload_n rfl rfl ?_
      refine w_iload_n rfl rfl ?_
      refine w_iconst (v := (1 : Int32)) rfl (by decide) ?_
      refine w_iadd rfl ?_
      obtain ⟨hg, hw⟩ := hw
      refine x_lds hg rfl ?_
      refine w_aload_n rfl rfl ?_
      refine w_iload_n rfl rfl ?_
      refine w_iconst (v := (2 : Int32)) rfl (by decide) ?_
      refine w_iadd rfl ?_
      obtain ⟨hg, hw⟩ := hw
      refine x_lds hg rfl ?_
      obtain ⟨q10, hc, hw⟩ := hw
      obtain ⟨hg, hc⟩ := g_guard hc
      refine x_virt 9 [_, _] _ hg rfl rfl rfl rfl (Nat.le_of_ble_eq_true rfl) rfl (show cc + 0 ≤ 600000 from (by omega)) (show ss + 0 ≤ 7302250 from (by omega)) (t_G_resize (d := 48) hc ?_)
      refine w_aload_n rfl rfl ?_
      refine w_aload_n rfl rfl ?_
      refine w_iload_n rfl rfl ?_
      refine w_iconst (v := (1 : Int32)) rfl (by decide) ?_
      refine w_iadd rfl ?_
      obtain ⟨hg, hw⟩ := hw
      refine x_lds hg rfl ?_
      refine w_aload_n rfl rfl ?_
      refine w_iload_n rfl rfl ?_
      refine w_iconst (v := (2 : Int32)) rfl (by decide) ?_
      refine w_iadd rfl ?_
      obtain ⟨hg, hw⟩ := hw
      refine x_lds hg rfl ?_
      obtain ⟨hOq11, adq11, Sq11, q11, hM, hc, hw⟩ := hw
      refine w_virtual [_, _] _ rfl rfl rfl rfl (Nat.le_of_ble_eq_true rfl) hM.1 rfl (show cc + 0 + 0 ≤ 600000 from (by omega)) (show ss + 0 + 0 ≤ 7302250 from (by omega)) (t_M_resize (d := 96) hc hM (fun h' hM' => ?_))
      have hw := hw h' hM'
      refine w_icmp (t := 1036) rfl (by decide) (fun c12 => ?_) (fun c12 => ?_)
      · have c12 : q10.1 = q11.1 := c12
        have hw := hw.1 c12
        refine w_iinc (v := (5 : Int32)) rfl rfl (by decide) rfl ?_
        refine w_goto (t := 38) rfl (by decide) ?_
        exact hK _ _ _ _ (show cc + 0 + 0 ≤ cc + 31 by omega) (show ss + 0 + 0 ≤ ss + 5764 by omega) hw
      · have c12 : ¬ (q10.1 = q11.1) := c12
        have hw := hw.2 c12
        refine w_iconst (v := (0 : Int32)) rfl (by decide) ?_
        exact w_ireturn rfl (isZ_ret rfl) (show cc + 0 + 0 ≤ 600000 by omega) (show ss + 0 + 0 ≤ 7302250 by omega) hw
    have hw := hw.2 c9
    by_cases c10 : ((gint (h) b (ix (i))) &&& (31 : Int32)) = (7 : Int32)
    · have hw := hw.1 c10
      refine w_tswIn (t := 413) c10 rfl (by decide) (by decide) rfl (by decide) ?_
      unfold w_lawC7 at hw
      refine w_aload_n rfl rfl ?_
      refine w_aload_n rfl rfl ?_
      refine w_iload_n rfl rfl ?_
      refine w_iconst (v := (1 : Int32)) rfl (by decide) ?_
      refine w_iadd rfl ?_
      obtain ⟨hg, hw⟩ := hw
      refine x_lds hg rfl ?_
      refine w_aload_n rfl rfl ?_
      refine w_iload_n rfl rfl ?_
      refine w_iconst (v := (2 : Int32)) rfl (by decide) ?_
      refine w_iadd rfl ?_
      obtain ⟨hg, hw⟩ := hw
      refine x_lds hg rfl ?_
      obtain ⟨q11, hc, hw⟩ := hw
      obtain ⟨hg, hc⟩ := g_guard hc
      refine x_virt 9 [_, _] _ hg rfl rfl rfl rfl (Nat.le_of_ble_eq_true rfl) rfl (show cc + 0 ≤ 600000 from (by omega)) (show ss + 0 ≤ 7302250 from (by omega)) (t_G_sign (d := 95) hc ?_)
      refine w_aload_n rfl rfl ?_
      refine w_aload_n rfl rfl ?_
      refine w_iload_n rfl rfl ?_
      refine w_iconst (v := (1 : Int32)) rfl (by decide) ?_
      refine w_iadd rfl ?_
      obtain ⟨hg, hw⟩ := hw
      refine x_lds hg rfl ?_
      refine w_aload_n rfl rfl ?_
      refine w_iload_n rfl rfl ?_
      refine w_iconst (v := (2 : Int32)) rfl (by decide) ?_
      refine w_iadd rfl ?_
      obtain ⟨hg, hw⟩ := hw
      refine x_lds hg rfl ?_
      obtain ⟨hOq12, adq12, Sq12, q12, hM, hc, hw⟩ := hw
      refine w_virtual [_, _] _ rfl rfl rfl rfl (Nat.le_of_ble_eq_true rfl) hM.1 rfl (show cc + 0 + 0 ≤ 600000 from (by omega)) (show ss + 0 + 0 ≤ 7302250 from (by omega)) (t_M_sign (d := 97) hc hM (fun h' hM' => ?_))
      have hw := hw h' hM'
      refine w_icmp (t := 1036) rfl (by decide) (fun c13 => ?_) (fun c13 => ?_)
      · have c13 : q11.1 = q12.1 := c13
        have hw := hw.1 c13
        refine w_iinc (v := (5 : Int32)) rfl rfl (by decide) rfl ?_
        refine w_goto (t := 38) rfl (by decide) ?_
        exact hK _ _ _ _ (show cc + 0 + 0 ≤ cc + 31 by omega) (show ss + 0 + 0 ≤ ss + 5764 by omega) hw
      · have c13 : ¬ (q11.1 = q12.1) := c13
        have hw := hw.2 c13
        refine w_iconst (v := (0 : Int32)) rfl (by decide) ?_
        exact w_ireturn rfl (isZ_ret rfl) (show cc + 0 + 0 ≤ 600000 by omega) (show ss + 0 + 0 ≤ 7302250 by omega) hw
    have hw := hw.2 c10
    by_cases c11 : ((gint (h) b (ix (i))) &&& (31 : Int32)) = (8 : Int32)
    · have hw := hw.1 c11
      refine w_tswIn (t := 446) c11 rfl (by decide) (by decide) rfl (by decide) ?_
      unfold w_lawC8 at hw
      refine w_aload_n rfl rfl ?_
      refine w_aload_n rfl rfl ?_
      refine w_iload_n rfl rfl ?_
      refine w_iconst (v := (1 : Int32)) rfl (by decide) ?_
      refine w_iadd rfl ?_
      obtain ⟨hg, hw⟩ := hw
      refine x_lds hg rfl ?_
      refine w_aload_n rfl rfl ?_
      refine w_iload_n rfl rfl ?_
      refine w_iconst (v := (2 : Int32)) rfl (by decide) ?_
      refine w_iadd rfl ?_
      obtain ⟨hg, hw⟩ := hw
      refine x_lds hg rfl ?_
      obtain ⟨q12, hc, hw⟩ := hw
      obtain ⟨hg, hc⟩ := g_guard hc
      refine x_virt 9 [_, _] _ hg rfl rfl rfl rfl (Nat.le_of_ble_eq_true rfl) rfl (show cc + 0 ≤ 600000 from (by omega)) (show ss + 0 ≤ 7302250 from (by omega)) (t_G_style (d := 98) hc ?_)
      refine w_aload_n rfl rfl ?_
      refine w_aload_n rfl rfl ?_
      refine w_iload_n rfl rfl ?_
      refine w_iconst (v := (1 : Int32)) rfl (by decide) ?_
      refine w_iadd rfl ?_
      obtain ⟨hg, hw⟩ := hw
      refine x_lds hg rfl ?_
      refine w_aload_n rfl rfl ?_
      refine w_iload_n rfl rfl ?_
      refine w_iconst (v := (2 : Int32)) rfl (by decide) ?_
      refine w_iadd rfl ?_
      obtain ⟨hg, hw⟩ := hw
      refine x_lds hg rfl ?_
      obtain ⟨hOq13, adq13, Sq13, q13, hM, hc, hw⟩ := hw
      refine w_virtual [_, _] _ rfl rfl rfl rfl (Nat.le_of_ble_eq_true rfl) hM.1 rfl (show cc + 0 + 0 ≤ 600000 from (by omega)) (show ss + 0 + 0 ≤ 7302250 from (by omega)) (t_M_style (d := 97) hc hM (fun h' hM' => ?_))
      have hw := hw h' hM'
      refine w_icmp (t := 1036) rfl (by decide) (fun c14 => ?_) (fun c14 => ?_)
      · have c14 : q12.1 = q13.1 := c14
        have hw := hw.1 c14
        refine w_iinc (v := (5 : Int32)) rfl rfl (by decide) rfl ?_
        refine w_goto (t := 38) rfl (by decide) ?_
        exact hK _ _ _ _ (show cc + 0 + 0 ≤ cc + 31 by omega) (show ss + 0 + 0 ≤ ss + 5764 by omega) hw
      · have c14 : ¬ (q12.1 = q13.1) := c14
        have hw := hw.2 c14
        refine w_iconst (v := (0 : Int32)) rfl (by decide) ?_
        exact w_ireturn rfl (isZ_ret rfl) (show cc + 0 + 0 ≤ 600000 by omega) (show ss + 0 + 0 ≤ 7302250 by omega) hw
    have hw := hw.2 c11
    by_cases c12 : ((gint (h) b (ix (i))) &&& (31 : Int32)) = (9 : Int32)
    · have hw := hw.1 c12
      refine w_tswIn (t := 479) c12 rfl (by decide) (by decide) rfl (by decide) ?_
      unfold w_lawC9 at hw
      refine w_aload_n rfl rfl ?_
      refine w_aload_n rfl rfl ?_
      refine w_iload_n rfl rfl ?_
      refine w_iconst (v := (1 : Int32)) rfl (by decide) ?_
      refine w_iadd rfl ?_
      obtain ⟨hg, hw⟩ := hw
      refine x_lds hg rfl ?_
      refine w_aload_n rfl rfl ?_
      refine w_iload_n rfl rfl ?_
      refine w_iconst (v := (2 : Int32)) rfl (by decide) ?_
      refine w_iadd rfl ?_
      obtain ⟨hg, hw⟩ := hw
      refine x_lds hg rfl ?_
      obtain ⟨q13, hc, hw⟩ := hw
      obtain ⟨hg, hc⟩ := g_guard hc
      refine x_virt 9 [_, _] _ hg rfl rfl rfl rfl (Nat.le_of_ble_eq_true rfl) rfl (show cc + 0 ≤ 600000 from (by omega)) (show ss + 0 ≤ 7302250 from (by omega)) (t_G_link (d := 98) hc ?_)
      refine w_aload_n rfl rfl ?_
      refine w_aload_n rfl rfl ?_
      refine w_iload_n rfl rfl ?_
      refine w_iconst (v := (1 : Int32)) rfl (by decide) ?_
      refine w_iadd rfl ?_
      obtain ⟨hg, hw⟩ := hw
      refine x_lds hg rfl ?_
      refine w_aload_n rfl rfl ?_
      refine w_iload_n rfl rfl ?_
      refine w_iconst (v := (2 : Int32)) rfl (by decide) ?_
      refine w_iadd rfl ?_
      obtain ⟨hg, hw⟩ := hw
      refine x_lds hg rfl ?_
      obtain ⟨hOq14, adq14, Sq14, q14, hM, hc, hw⟩ := hw
      refine w_virtual [_, _] _ rfl rfl rfl rfl (Nat.le_of_ble_eq_true rfl) hM.1 rfl (show cc + 0 + 0 ≤ 600000 from (by omega)) (show ss + 0 + 0 ≤ 7302250 from (by omega)) (t_M_link (d := 97) hc hM (fun h' hM' => ?_))
      have hw := hw h' hM'
      refine w_icmp (t := 1036) rfl (by decide) (fun c15 => ?_) (fun c15 => ?_)
      · have c15 : q13.1 = q14.1 := c15
        have hw := hw.1 c15
        refine w_iinc (v := (5 : Int32)) rfl rfl (by decide) rfl ?_
        refine w_goto (t := 38) rfl (by decide) ?_
        exact hK _ _ _ _ (show cc + 0 + 0 ≤ cc + 31 by omega) (show ss + 0 + 0 ≤ ss + 5764 by omega) hw
      · have c15 : ¬ (q13.1 = q14.1) := c15
        have hw := hw.2 c15
        refine w_iconst (v := (0 : Int32)) rfl (by decide) ?_
        exact w_ireturn rfl (isZ_ret rfl) (show cc + 0 + 0 ≤ 600000 by omega) (show ss + 0 + 0 ≤ 7302250 by omega) hw
    have hw := hw.2 c12
    by_cases c13 : ((gint (h) b (ix (i))) &&& (31 : Int32)) = (10 : Int32)
    · have hw := hw.1 c13
      refine w_tswIn (t := 512) c13 rfl (by decide) (by decide) rfl (by decide) ?_
      unfold w_lawC10 at hw
      refine w_aload_n rfl rfl ?_
      refine w_aload_n rfl rfl ?_
      refine w_iload_n rfl rfl ?_
      refine w_iconst (v := (1 : Int32)) rfl (by decide) ?_
      refine w_iadd rfl ?_
      obtain ⟨hg, hw⟩ := hw
      refine x_lds hg rfl ?_
      refine w_aload_n rfl rfl ?_
      refine w_iload_n rfl rfl ?_
      refine w_iconst (v := (2 : Int32)) rfl (by decide) ?_
      refine w_iadd rfl ?_
      obtain ⟨hg, hw⟩ := hw
      refine x_lds hg rfl ?_
      refine w_aload_n rfl rfl ?_
      refine w_iload_n rfl rfl ?_
      refine w_iconst (v := (3 : Int32)) rfl (by decide) ?_
      refine w_iadd rfl ?_
      obtain ⟨hg, hw⟩ := hw
      refine x_lds hg rfl ?_
      obtain ⟨q14, hc, hw⟩ := hw
      obtain ⟨hg, hc⟩ := g_guard hc
      refine x_virt 9 [_, _, _] _ hg rfl rfl rfl rfl (Nat.le_of_ble_eq_true rfl) rfl (show cc + 0 ≤ 600000 from (by omega)) (show ss + 0 ≤ 7302250 from (by omega)) (t_G_cursor (d := 98) hc ?_)
      refine w_aload_n rfl rfl ?_
      refine w_aload_n rfl rfl ?_
      refine w_iload_n rfl rfl ?_
      refine w_iconst (v := (1 : Int32)) rfl (by decide) ?_
      refine w_iadd rfl ?_
      obtain ⟨hg, hw⟩ := hw
      refine x_lds hg rfl ?_
      refine w_aload_n rfl rfl ?_
      refine w_iload_n rfl rfl ?_
      refine w_iconst (v := (2 : Int32)) rfl (by decide) ?_
      refine w_iadd rfl ?_
      obtain ⟨hg, hw⟩ := hw
      refine x_lds hg rfl ?_
      refine w_aload_n rfl rfl ?_
      refine w_iload_n rfl rfl ?_
      refine w_iconst (v := (3 : Int32)) rfl (by decide) ?_
      refine w_iadd rfl ?_
      obtain ⟨hg, hw⟩ := hw
      refine x_lds hg rfl ?_
      obtain ⟨hOq15, adq15, Sq15, q15, hM, hc, hw⟩ := hw
      refine w_virtual [_, _, _] _ rfl rfl rfl rfl (Nat.le_of_ble_eq_true rfl) hM.1 rfl (show cc + 0 + 0 ≤ 600000 from (by omega)) (show ss + 0 + 0 ≤ 7302250 from (by omega)) (t_M_cursor (d := 97) hc hM (fun h' hM' => ?_))
      have hw := hw h' hM'
      refine w_icmp (t := 1036) rfl (by decide) (fun c16 => ?_) (fun c16 => ?_)
      · have c16 : q14.1 = q15.1 := c16
        have hw := hw.1 c16
        refine w_iinc (v := (5 : Int32)) rfl rfl (by decide) rfl ?_
        refine w_goto (t := 38) rfl (by decide) ?_
        exact hK _ _ _ _ (show cc + 0 + 0 ≤ cc + 31 by omega) (show ss + 0 + 0 ≤ ss + 5764 by omega) hw
      · have c16 : ¬ (q14.1 = q15.1) := c16
        have hw := hw.2 c16
        refine w_iconst (v := (0 : Int32)) rfl (by decide) ?_
        exact w_ireturn rfl (isZ_ret rfl) (show cc + 0 + 0 ≤ 600000 by omega) (show ss + 0 + 0 ≤ 7302250 by omega) hw
    have hw := hw.2 c13
    by_cases c14 : ((gint (h) b (ix (i))) &&& (31 : Int32)) = (11 : Int32)
    · have hw := hw.1 c14
      refine w_tswIn (t := 555) c14 rfl (by decide) (by decide) rfl (by decide) ?_
      unfold w_lawC11 at hw
      refine w_aload_n rfl rfl ?_
      refine w_aload_n rfl rfl ?_
      refine w_iload_n rfl rfl ?_
      refine w_iconst (v := (1 : Int32)) rfl (by decide) ?_
      refine w_iadd rfl ?_
      obtain ⟨hg, hw⟩ := hw
      refine x_lds hg rfl ?_
      refine w_aload_n rfl rfl ?_
      refine w_iload_n rfl rfl ?_
      refine w_iconst (v := (2 : Int32)) rfl (by decide) ?_
      refine w_iadd rfl ?_
      obtain ⟨hg, hw⟩ := hw
      refine x_lds hg rfl ?_
      obtain ⟨q15, hc, hw⟩ := hw
      obtain ⟨hg, hc⟩ := g_guard hc
      refine x_virt 9 [_, _] _ hg rfl rfl rfl rfl (Nat.le_of_ble_eq_true rfl) rfl (show cc + 0 ≤ 600000 from (by omega)) (show ss + 0 ≤ 7302250 from (by omega)) (t_G_at (d := 98) hc ?_)
      refine w_aload_n rfl rfl ?_
      refine w_aload_n rfl rfl ?_
      refine w_iload_n rfl rfl ?_
      refine w_iconst (v := (1 : Int32)) rfl (by decide) ?_
      refine w_iadd rfl ?_
      obtain ⟨hg, hw⟩ := hw
      refine x_lds hg rfl ?_
      refine w_aload_n rfl rfl ?_
      refine w_iload_n rfl rfl ?_
      refine w_iconst (v := (2 : Int32)) rfl (by decide) ?_
      refine w_iadd rfl ?_
      obtain ⟨hg, hw⟩ := hw
      refine x_lds hg rfl ?_
      obtain ⟨hOq16, adq16, Sq16, q16, hM, hc, hw⟩ := hw
      refine w_virtual [_, _] _ rfl rfl rfl rfl (Nat.le_of_ble_eq_true rfl) hM.1 rfl (show cc + 0 + 0 ≤ 600000 from (by omega)) (show ss + 0 + 0 ≤ 7302250 from (by omega)) (t_M_at (d := 97) hc hM (fun h' hM' => ?_))
      have hw := hw h' hM'
      refine w_icmp (t := 1036) rfl (by decide) (fun c17 => ?_) (fun c17 => ?_)
      · have c17 : q15.1 = q16.1 := c17
        have hw := hw.1 c17
        refine w_iinc (v := (5 : Int32)) rfl rfl (by decide) rfl ?_
        refine w_goto (t := 38) rfl (by decide) ?_
        exact hK _ _ _ _ (show cc + 0 + 0 ≤ cc + 31 by omega) (show ss + 0 + 0 ≤ ss + 5764 by omega) hw
      · have c17 : ¬ (q15.1 = q16.1) := c17
        have hw := hw.2 c17
        refine w_iconst (v := (0 : Int32)) rfl (by decide) ?_
        exact w_ireturn rfl (isZ_ret rfl) (show cc + 0 + 0 ≤ 600000 by omega) (show ss + 0 + 0 ≤ 7302250 by omega) hw
    have hw := hw.2 c14
    by_cases c15 : ((gint (h) b (ix (i))) &&& (31 : Int32)) = (12 : Int32)
    · have hw := hw.1 c15
      refine w_tswIn (t := 588) c15 rfl (by decide) (by decide) rfl (by decide) ?_
      unfold w_lawC12 at hw
      refine w_aload_n rfl rfl ?_
      refine w_aload_n rfl rfl ?_
      refine w_iload_n rfl rfl ?_
      refine w_iconst (v := (1 : Int32)) rfl (by decide) ?_
      refine w_iadd rfl ?_
      obtain ⟨hg, hw⟩ := hw
      refine x_lds hg rfl ?_
      obtain ⟨q16, hc, hw⟩ := hw
      obtain ⟨hg, hc⟩ := g_guard hc
      refine x_virt 9 [_] _ hg rfl rfl rfl rfl (Nat.le_of_ble_eq_true rfl) rfl (show cc + 0 ≤ 600000 from (by omega)) (show ss + 0 ≤ 7302250 from (by omega)) (t_G_wipe (d := 97) hc ?_)
      refine w_aload_n rfl rfl ?_
      refine w_aload_n rfl rfl ?_
      refine w_iload_n rfl rfl ?_
      refine w_iconst (v := (1 : Int32)) rfl (by decide) ?_
      refine w_iadd rfl ?_
      obtain ⟨hg, hw⟩ := hw
      refine x_lds hg rfl ?_
      obtain ⟨hOq17, adq17, Sq17, q17, hM, hc, hw⟩ := hw
      refine w_virtual [_] _ rfl rfl rfl rfl (Nat.le_of_ble_eq_true rfl) hM.1 rfl (show cc + 0 + 0 ≤ 600000 from (by omega)) (show ss + 0 + 0 ≤ 7302250 from (by omega)) (t_M_wipe (d := 97) hc hM (fun h' hM' => ?_))
      have hw := hw h' hM'
      refine w_icmp (t := 1036) rfl (by decide) (fun c18 => ?_) (fun c18 => ?_)
      · have c18 : q16.1 = q17.1 := c18
        have hw := hw.1 c18
        refine w_iinc (v := (5 : Int32)) rfl rfl (by decide) rfl ?_
        refine w_goto (t := 38) rfl (by decide) ?_
        exact hK _ _ _ _ (show cc + 0 + 0 ≤ cc + 31 by omega) (show ss + 0 + 0 ≤ ss + 5764 by omega) hw
      · have c18 : ¬ (q16.1 = q17.1) := c18
        have hw := hw.2 c18
        refine w_iconst (v := (0 : Int32)) rfl (by decide) ?_
        exact w_ireturn rfl (isZ_ret rfl) (show cc + 0 + 0 ≤ 600000 by omega) (show ss + 0 + 0 ≤ 7302250 by omega) hw
    have hw := hw.2 c15
    by_cases c16 : ((gint (h) b (ix (i))) &&& (31 : Int32)) = (13 : Int32)
    · have hw := hw.1 c16
      refine w_tswIn (t := 611) c16 rfl (by decide) (by decide) rfl (by decide) ?_
      unfold w_lawC13 at hw
      refine w_aload_n rfl rfl ?_
      refine w_aload_n rfl rfl ?_
      refine w_iload_n rfl rfl ?_
      refine w_iconst (v := (1 : Int32)) rfl (by decide) ?_
      refine w_iadd rfl ?_
      obtain ⟨hg, hw⟩ := hw
      refine x_lds hg rfl ?_
      refine w_aload_n rfl rfl ?_
      refine w_iload_n rfl rfl ?_
      refine w_iconst (v := (2 : Int32)) rfl (by decide) ?_
      refine w_iadd rfl ?_
      obtain ⟨hg, hw⟩ := hw
      refine x_lds hg rfl ?_
      obtain ⟨q17, hc, hw⟩ := hw
      obtain ⟨hg, hc⟩ := g_guard hc
      refine x_virt 9 [_, _] _ hg rfl rfl rfl rfl (Nat.le_of_ble_eq_true rfl) rfl (show cc + 0 ≤ 600000 from (by omega)) (show ss + 0 ≤ 7302250 from (by omega)) (t_G_picture (d := 98) hc ?_)
      refine w_aload_n rfl rfl ?_
      refine w_aload_n rfl rfl ?_
      refine w_iload_n rfl rfl ?_
      refine w_iconst (v := (1 : Int32)) rfl (by decide) ?_
      refine w_iadd rfl ?_
      obtain ⟨hg, hw⟩ := hw
      refine x_lds hg rfl ?_
      refine w_aload_n rfl rfl ?_
      refine w_iload_n rfl rfl ?_
      refine w_iconst (v := (2 : Int32)) rfl (by decide) ?_
      refine w_iadd rfl ?_
      obtain ⟨hg, hw⟩ := hw
      refine x_lds hg rfl ?_
      obtain ⟨hOq18, adq18, Sq18, q18, hM, hc, hw⟩ := hw
      refine w_virtual [_, _] _ rfl rfl rfl rfl (Nat.le_of_ble_eq_true rfl) hM.1 rfl (show cc + 0 + 0 ≤ 600000 from (by omega)) (show ss + 0 + 0 ≤ 7302250 from (by omega)) (t_M_picture (d := 97) hc hM (fun h' hM' => ?_))
      have hw := hw h' hM'
      refine w_icmp (t := 1036) rfl (by decide) (fun c19 => ?_) (fun c19 => ?_)
      · have c19 : q17.1 = q18.1 := c19
        have hw := hw.1 c19
        refine w_iinc (v := (5 : Int32)) rfl rfl (by decide) rfl ?_
        refine w_goto (t := 38) rfl (by decide) ?_
        exact hK _ _ _ _ (show cc + 0 + 0 ≤ cc + 31 by omega) (show ss + 0 + 0 ≤ ss + 5764 by omega) hw
      · have c19 : ¬ (q17.1 = q18.1) := c19
        have hw := hw.2 c19
        refine w_iconst (v := (0 : Int32)) rfl (by decide) ?_
        exact w_ireturn rfl (isZ_ret rfl) (show cc + 0 + 0 ≤ 600000 by omega) (show ss + 0 + 0 ≤ 7302250 by omega) hw
    have hw := hw.2 c16
    by_cases c17 : ((gint (h) b (ix (i))) &&& (31 : Int32)) = (14 : Int32)
    · have hw := hw.1 c17
      refine w_tswIn (t := 644) c17 rfl (by decide) (by decide) rfl (by decide) ?_
      unfold w_lawC14 at hw
      refine w_aload_n rfl rfl ?_
      refine w_aload_n rfl rfl ?_
      refine w_iload_n rfl rfl ?_
      refine w_iconst (v := (1 : Int32)) rfl (by decide) ?_
      refine w_iadd rfl ?_
      obtain ⟨hg, hw⟩ := hw
      refine x_lds hg rfl ?_
      refine w_aload_n rfl rfl ?_
      refine w_iload_n rfl rfl ?_
      refine w_iconst (v := (2 : Int32)) rfl (by decide) ?_
      refine w_iadd rfl ?_
      obtain ⟨hg, hw⟩ := hw
      refine x_lds hg rfl ?_
      refine w_aload_n rfl rfl ?_
      refine w_iload_n rfl rfl ?_
      refine w_iconst (v := (3 : Int32)) rfl (by decide) ?_
      refine w_iadd rfl ?_
      obtain ⟨hg, hw⟩ := hw
      refine x_lds hg rfl ?_
      refine w_aload_n rfl rfl ?_
      refine w_iload_n rfl rfl ?_
      refine w_iconst (v := (4 : Int32)) rfl (by decide) ?_
      refine w_iadd rfl ?_
      obtain ⟨hg, hw⟩ := hw
      refine x_lds hg rfl ?_
      obtain ⟨q18, hc, hw⟩ := hw
      obtain ⟨hg, hc⟩ := g_guard hc
      refine x_virt 9 [_, _, _, _] _ hg rfl rfl rfl rfl (Nat.le_of_ble_eq_true rfl) rfl (show cc + 0 ≤ 600000 from (by omega)) (show ss + 0 ≤ 7302250 from (by omega)) (t_G_shown (d := 93) hc ?_)
      refine w_aload_n rfl rfl ?_
      refine w_aload_n rfl rfl ?_
      refine w_iload_n rfl rfl ?_
      refine w_iconst (v := (1 : Int32)) rfl (by decide) ?_
      refine w_iadd rfl ?_
      obtain ⟨hg, hw⟩ := hw
      refine x_lds hg rfl ?_
      refine w_aload_n rfl rfl ?_
      refine w_iload_n rfl rfl ?_
      refine w_iconst (v := (2 : Int32)) rfl (by decide) ?_
      refine w_iadd rfl ?_
      obtain ⟨hg, hw⟩ := hw
      refine x_lds hg rfl ?_
      refine w_aload_n rfl rfl ?_
      refine w_iload_n rfl rfl ?_
      refine w_iconst (v := (3 : Int32)) rfl (by decide) ?_
      refine w_iadd rfl ?_
      obtain ⟨hg, hw⟩ := hw
      refine x_lds hg rfl ?_
      refine w_aload_n rfl rfl ?_
      refine w_iload_n rfl rfl ?_
      refine w_iconst (v := (4 : Int32)) rfl (by decide) ?_
      refine w_iadd rfl ?_
      obtain ⟨hg, hw⟩ := hw
      refine x_lds hg rfl ?_
      obtain ⟨hOq19, adq19, Sq19, q19, hM, hc, hw⟩ := hw
      refine w_virtual [_, _, _, _] _ rfl rfl rfl rfl (Nat.le_of_ble_eq_true rfl) hM.1 rfl (show cc + 0 + 0 ≤ 600000 from (by omega)) (show ss + 0 + 0 ≤ 7302250 from (by omega)) (t_M_shown (d := 94) hc hM (fun h' hM' => ?_))
      have hw := hw h' hM'
      refine w_icmp (t := 1036) rfl (by decide) (fun c20 => ?_) (fun c20 => ?_)
      · have c20 : q18.1 = q19.1 := c20
        have hw := hw.1 c20
        refine w_iinc (v := (5 : Int32)) rfl rfl (by decide) rfl ?_
        refine w_goto (t := 38) rfl (by decide) ?_
        exact hK _ _ _ _ (show cc + 0 + 0 ≤ cc + 31 by omega) (show ss + 0 + 0 ≤ ss + 5764 by omega) hw
      · have c20 : ¬ (q18.1 = q19.1) := c20
        have hw := hw.2 c20
        refine w_iconst (v := (0 : Int32)) rfl (by decide) ?_
        exact w_ireturn rfl (isZ_ret rfl) (show cc + 0 + 0 ≤ 600000 by omega) (show ss + 0 + 0 ≤ 7302250 by omega) hw
    have hw := hw.2 c17
    by_cases c18 : ((gint (h) b (ix (i))) &&& (31 : Int32)) = (15 : Int32)
    · have hw := hw.1 c18
      refine w_tswIn (t := 697) c18 rfl (by decide) (by decide) rfl (by decide) ?_
      unfold w_lawC15 at hw
      refine w_aload_n rfl rfl ?_
      refine w_aload_n rfl rfl ?_
      refine w_iload_n rfl rfl ?_
      refine w_iconst (v := (1 : Int32)) rfl (by decide) ?_
      refine w_iadd rfl ?_
      obtain ⟨hg, hw⟩ := hw
      refine x_lds hg rfl ?_
      obtain ⟨q19, hc, hw⟩ := hw
      obtain ⟨hg, hc⟩ := g_guard hc
      refine x_virt 9 [_] _ hg rfl rfl rfl rfl (Nat.le_of_ble_eq_true rfl) rfl (show cc + 0 ≤ 600000 from (by omega)) (show ss + 0 ≤ 7302250 from (by omega)) (t_G_lines (d := 93) hc ?_)
      refine w_aload_n rfl rfl ?_
      refine w_aload_n rfl rfl ?_
      refine w_iload_n rfl rfl ?_
      refine w_iconst (v := (1 : Int32)) rfl (by decide) ?_
      refine w_iadd rfl ?_
      obtain ⟨hg, hw⟩ := hw
      refine x_lds hg rfl ?_
      obtain ⟨hOq20, adq20, Sq20, q20, hM, hc, hw⟩ := hw
      refine w_virtual [_] _ rfl rfl rfl rfl (Nat.le_of_ble_eq_true rfl) hM.1 rfl (show cc + 0 + 0 ≤ 600000 from (by omega)) (show ss + 0 + 0 ≤ 7302250 from (by omega)) (t_M_lines (d := 96) hc hM (fun h' hM' => ?_))
      have hw := hw h' hM'
      refine w_icmp (t := 1036) rfl (by decide) (fun c21 => ?_) (fun c21 => ?_)
      · have c21 : q19.1 = q20.1 := c21
        have hw := hw.1 c21
        refine w_iinc (v := (5 : Int32)) rfl rfl (by decide) rfl ?_
        refine w_goto (t := 38) rfl (by decide) ?_
        exact hK _ _ _ _ (show cc + 0 + 0 ≤ cc + 31 by omega) (show ss + 0 + 0 ≤ ss + 5764 by omega) hw
      · have c21 : ¬ (q19.1 = q20.1) := c21
        have hw := hw.2 c21
        refine w_iconst (v := (0 : Int32)) rfl (by decide) ?_
        exact w_ireturn rfl (isZ_ret rfl) (show cc + 0 + 0 ≤ 600000 by omega) (show ss + 0 + 0 ≤ 7302250 by omega) hw
    have hw := hw.2 c18
    by_cases c19 : ((gint (h) b (ix (i))) &&& (31 : Int32)) = (16 : Int32)
    · have hw := hw.1 c19
      refine w_tswIn (t := 720) c19 rfl (by decide) (by decide) rfl (by decide) ?_
      unfold w_lawC16 at hw
      refine w_aload_n rfl rfl ?_
      refine w_aload_n rfl rfl ?_
      refine w_iload_n rfl rfl ?_
      refine w_iconst (v := (1 : Int32)) rfl (by decide) ?_
      refine w_iadd rfl ?_
      obtain ⟨hg, hw⟩ := hw
      refine x_lds hg rfl ?_
      refine w_aload_n rfl rfl ?_
      refine w_iload_n rfl rfl ?_
      refine w_iconst (v := (2 : Int32)) rfl (by decide) ?_
      refine w_iadd rfl ?_
      obtain ⟨hg, hw⟩ := hw
      refine x_lds hg rfl ?_
      obtain ⟨q20, hc, hw⟩ := hw
      obtain ⟨hg, hc⟩ := g_guard hc
      refine x_virt 9 [_, _] _ hg rfl rfl rfl rfl (Nat.le_of_ble_eq_true rfl) rfl (show cc + 0 ≤ 600000 from (by omega)) (show ss + 0 ≤ 7302250 from (by omega)) (t_G_drawn (d := 93) hc ?_)
      refine w_aload_n rfl rfl ?_
      refine w_aload_n rfl rfl ?_
      refine w_iload_n rfl rfl ?_
      refine w_iconst (v := (1 : Int32)) rfl (by decide) ?_
      refine w_iadd rfl ?_
      obtain ⟨hg, hw⟩ := hw
      refine x_lds hg rfl ?_
      refine w_aload_n rfl rfl ?_
      refine w_iload_n rfl rfl ?_
      refine w_iconst (v := (2 : Int32)) rfl (by decide) ?_
      refine w_iadd rfl ?_
      obtain ⟨hg, hw⟩ := hw
      refine x_lds hg rfl ?_
      obtain ⟨hOq21, adq21, Sq21, q21, hM, hc, hw⟩ := hw
      refine w_virtual [_, _] _ rfl rfl rfl rfl (Nat.le_of_ble_eq_true rfl) hM.1 rfl (show cc + 0 + 0 ≤ 600000 from (by omega)) (show ss + 0 + 0 ≤ 7302250 from (by omega)) (t_M_drawn (d := 94) hc hM (fun h' hM' => ?_))
      have hw := hw h' hM'
      refine w_icmp (t := 1036) rfl (by decide) (fun c22 => ?_) (fun c22 => ?_)
      · have c22 : q20.1 = q21.1 := c22
        have hw := hw.1 c22
        refine w_iinc (v := (5 : Int32)) rfl rfl (by decide) rfl ?_
        refine w_goto (t := 38) rfl (by decide) ?_
        exact hK _ _ _ _ (show cc + 0 + 0 ≤ cc + 31 by omega) (show ss + 0 + 0 ≤ ss + 5764 by omega) hw
      · have c22 : ¬ (q20.1 = q21.1) := c22
        have hw := hw.2 c22
        refine w_iconst (v := (0 : Int32)) rfl (by decide) ?_
        exact w_ireturn rfl (isZ_ret rfl) (show cc + 0 + 0 ≤ 600000 by omega) (show ss + 0 + 0 ≤ 7302250 by omega) hw
    have hw := hw.2 c19
    by_cases c20 : ((gint (h) b (ix (i))) &&& (31 : Int32)) = (17 : Int32)
    · have hw := hw.1 c20
      refine w_tswIn (t := 753) c20 rfl (by decide) (by decide) rfl (by decide) ?_
      unfold w_lawC17 at hw
      refine w_aload_n rfl rfl ?_
      refine w_aload_n rfl rfl ?_
      refine w_iload_n rfl rfl ?_
      refine w_iconst (v := (1 : Int32)) rfl (by decide) ?_
      refine w_iadd rfl ?_
      obtain ⟨hg, hw⟩ := hw
      refine x_lds hg rfl ?_
      refine w_aload_n rfl rfl ?_
      refine w_iload_n rfl rfl ?_
      refine w_iconst (v := (2 : Int32)) rfl (by decide) ?_
      refine w_iadd rfl ?_
      obtain ⟨hg, hw⟩ := hw
      refine x_lds hg rfl ?_
      obtain ⟨q21, hc, hw⟩ := hw
      obtain ⟨hg, hc⟩ := g_guard hc
      refine x_virt 9 [_, _] _ hg rfl rfl rfl rfl (Nat.le_of_ble_eq_true rfl) rfl (show cc + 0 ≤ 600000 from (by omega)) (show ss + 0 ≤ 7302250 from (by omega)) (t_G_under (d := 96) hc ?_)
      refine w_aload_n rfl rfl ?_
      refine w_aload_n rfl rfl ?_
      refine w_iload_n rfl rfl ?_
      refine w_iconst (v := (1 : Int32)) rfl (by decide) ?_
      refine w_iadd rfl ?_
      obtain ⟨hg, hw⟩ := hw
      refine x_lds hg rfl ?_
      refine w_aload_n rfl rfl ?_
      refine w_iload_n rfl rfl ?_
      refine w_iconst (v := (2 : Int32)) rfl (by decide) ?_
      refine w_iadd rfl ?_
      obtain ⟨hg, hw⟩ := hw
      refine x_lds hg rfl ?_
      obtain ⟨hOq22, adq22, Sq22, q22, hM, hc, hw⟩ := hw
      refine w_virtual [_, _] _ rfl rfl rfl rfl (Nat.le_of_ble_eq_true rfl) hM.1 rfl (show cc + 0 + 0 ≤ 600000 from (by omega)) (show ss + 0 + 0 ≤ 7302250 from (by omega)) (t_M_under (d := 96) hc hM (fun h' hM' => ?_))
      have hw := hw h' hM'
      refine w_icmp (t := 1036) rfl (by decide) (fun c23 => ?_) (fun c23 => ?_)
      · have c23 : q21.1 = q22.1 := c23
        have hw := hw.1 c23
        refine w_iinc (v := (5 : Int32)) rfl rfl (by decide) rfl ?_
        refine w_goto (t := 38) rfl (by decide) ?_
        exact hK _ _ _ _ (show cc + 0 + 0 ≤ cc + 31 by omega) (show ss + 0 + 0 ≤ ss + 5764 by omega) hw
      · have c23 : ¬ (q21.1 = q22.1) := c23
        have hw := hw.2 c23
        refine w_iconst (v := (0 : Int32)) rfl (by decide) ?_
        exact w_ireturn rfl (isZ_ret rfl) (show cc + 0 + 0 ≤ 600000 by omega) (show ss + 0 + 0 ≤ 7302250 by omega) hw
    have hw := hw.2 c20
    by_cases c21 : ((gint (h) b (ix (i))) &&& (31 : Int32)) = (18 : Int32)
    · have hw := hw.1 c21
      refine w_tswIn (t := 786) c21 rfl (by decide) (by decide) rfl (by decide) ?_
      unfold w_lawC18 at hw
      refine w_aload_n rfl rfl ?_
      refine w_aload_n rfl rfl ?_
      refine w_iload_n rfl rfl ?_
      refine w_iconst (v := (1 : Int32)) rfl (by decide) ?_
      refine w_iadd rfl ?_
      obtain ⟨hg, hw⟩ := hw
      refine x_lds hg rfl ?_
      refine w_aload_n rfl rfl ?_
      refine w_iload_n rfl rfl ?_
      refine w_iconst (v := (2 : Int32)) rfl (by decide) ?_
      refine w_iadd rfl ?_
      obtain ⟨hg, hw⟩ := hw
      refine x_lds hg rfl ?_
      refine w_aload_n rfl rfl ?_
      refine w_iload_n rfl rfl ?_
      refine w_iconst (v := (3 : Int32)) rfl (by decide) ?_
      refine w_iadd rfl ?_
      obtain ⟨hg, hw⟩ := hw
      refine x_lds hg rfl ?_
      obtain ⟨q22, hc, hw⟩ := hw
      obtain ⟨hg, hc⟩ := g_guard hc
      refine x_virt 9 [_, _, _] _ hg rfl rfl rfl rfl (Nat.le_of_ble_eq_true rfl) rfl (show cc + 0 ≤ 600000 from (by omega)) (show ss + 0 ≤ 7302250 from (by omega)) (t_G_ask (d := 98) hc ?_)
      refine w_aload_n rfl rfl ?_
      refine w_aload_n rfl rfl ?_
      refine w_iload_n rfl rfl ?_
      refine w_iconst (v := (1 : Int32)) rfl (by decide) ?_
      refine w_iadd rfl ?_
      obtain ⟨hg, hw⟩ := hw
      refine x_lds hg rfl ?_
      refine w_aload_n rfl rfl ?_
      refine w_iload_n rfl rfl ?_
      refine w_iconst (v := (2 : Int32)) rfl (by decide) ?_
      refine w_iadd rfl ?_
      obtain ⟨hg, hw⟩ := hw
      refine x_lds hg rfl ?_
      refine w_aload_n rfl rfl ?_
      refine w_iload_n rfl rfl ?_
      refine w_iconst (v := (3 : Int32)) rfl (by decide) ?_
      refine w_iadd rfl ?_
      obtain ⟨hg, hw⟩ := hw
      refine x_lds hg rfl ?_
      obtain ⟨hOq23, adq23, Sq23, q23, hM, hc, hw⟩ := hw
      refine w_virtual [_, _, _] _ rfl rfl rfl rfl (Nat.le_of_ble_eq_true rfl) hM.1 rfl (show cc + 0 + 0 ≤ 600000 from (by omega)) (show ss + 0 + 0 ≤ 7302250 from (by omega)) (t_M_ask (d := 97) hc hM (fun h' hM' => ?_))
      have hw := hw h' hM'
      refine w_icmp (t := 1036) rfl (by decide) (fun c24 => ?_) (fun c24 => ?_)
      · have c24 : q22.1 = q23.1 := c24
        have hw := hw.1 c24
        refine w_iinc (v := (5 : Int32)) rfl rfl (by decide) rfl ?_
        refine w_goto (t := 38) rfl (by decide) ?_
        exact hK _ _ _ _ (show cc + 0 + 0 ≤ cc + 31 by omega) (show ss + 0 + 0 ≤ ss + 5764 by omega) hw
      · have c24 : ¬ (q22.1 = q23.1) := c24
        have hw := hw.2 c24
        refine w_iconst (v := (0 : Int32)) rfl (by decide) ?_
        exact w_ireturn rfl (isZ_ret rfl) (show cc + 0 + 0 ≤ 600000 by omega) (show ss + 0 + 0 ≤ 7302250 by omega) hw
    have hw := hw.2 c21
    by_cases c22 : ((gint (h) b (ix (i))) &&& (31 : Int32)) = (19 : Int32)
    · have hw := hw.1 c22
      refine w_tswIn (t := 829) c22 rfl (by decide) (by decide) rfl (by decide) ?_
      unfold w_lawC19 at hw
      refine w_aload_n rfl rfl ?_
      refine w_aload_n rfl rfl ?_
      refine w_iload_n rfl rfl ?_
      refine w_iconst (v := (1 : Int32)) rfl (by decide) ?_
      refine w_iadd rfl ?_
      obtain ⟨hg, hw⟩ := hw
      refine x_lds hg rfl ?_
      refine w_aload_n rfl rfl ?_
      refine w_iload_n rfl rfl ?_
      refine w_iconst (v := (2 : Int32)) rfl (by decide) ?_
      refine w_iadd rfl ?_
      obtain ⟨hg, hw⟩ := hw
      refine x_lds hg rfl ?_
      obtain ⟨q23, hc, hw⟩ := hw
      obtain ⟨hg, hc⟩ := g_guard hc
      refine x_virt 9 [_, _] _ hg rfl rfl rfl rfl (Nat.le_of_ble_eq_true rfl) rfl (show cc + 0 ≤ 600000 from (by omega)) (show ss + 0 ≤ 7302250 from (by omega)) (t_G_cancel (d := 94) hc ?_)
      refine w_aload_n rfl rfl ?_
      refine w_aload_n rfl rfl ?_
      refine w_iload_n rfl rfl ?_
      refine w_iconst (v := (1 : Int32)) rfl (by decide) ?_
      refine w_iadd rfl ?_
      obtain ⟨hg, hw⟩ := hw
      refine x_lds hg rfl ?_
      refine w_aload_n rfl rfl ?_
      refine w_iload_n rfl rfl ?_
      refine w_iconst (v := (2 : Int32)) rfl (by decide) ?_
      refine w_iadd rfl ?_
      obtain ⟨hg, hw⟩ := hw
      refine x_lds hg rfl ?_
      obtain ⟨hOq24, adq24, Sq24, q24, hM, hc, hw⟩ := hw
      refine w_virtual [_, _] _ rfl rfl rfl rfl (Nat.le_of_ble_eq_true rfl) hM.1 rfl (show cc + 0 + 0 ≤ 600000 from (by omega)) (show ss + 0 + 0 ≤ 7302250 from (by omega)) (t_M_cancel (d := 96) hc hM (fun h' hM' => ?_))
      have hw := hw h' hM'
      refine w_icmp (t := 1036) rfl (by decide) (fun c25 => ?_) (fun c25 => ?_)
      · have c25 : q23.1 = q24.1 := c25
        have hw := hw.1 c25
        refine w_iinc (v := (5 : Int32)) rfl rfl (by decide) rfl ?_
        refine w_goto (t := 38) rfl (by decide) ?_
        exact hK _ _ _ _ (show cc + 0 + 0 ≤ cc + 31 by omega) (show ss + 0 + 0 ≤ ss + 5764 by omega) hw
      · have c25 : ¬ (q23.1 = q24.1) := c25
        have hw := hw.2 c25
        refine w_iconst (v := (0 : Int32)) rfl (by decide) ?_
        exact w_ireturn rfl (isZ_ret rfl) (show cc + 0 + 0 ≤ 600000 by omega) (show ss + 0 + 0 ≤ 7302250 by omega) hw
    have hw := hw.2 c22
    by_cases c23 : ((gint (h) b (ix (i))) &&& (31 : Int32)) = (20 : Int32)
    · have hw := hw.1 c23
      refine w_tswIn (t := 862) c23 rfl (by decide) (by decide) rfl (by decide) ?_
      unfold w_lawC20 at hw
      refine w_aload_n rfl rfl ?_
      refine w_aload_n rfl rfl ?_
      refine w_iload_n rfl rfl ?_
      refine w_iconst (v := (1 : Int32)) rfl (by decide) ?_
      refine w_iadd rfl ?_
      obtain ⟨hg, hw⟩ := hw
      refine x_lds hg rfl ?_
      refine w_aload_n rfl rfl ?_
      refine w_iload_n rfl rfl ?_
      refine w_iconst (v := (2 : Int32)) rfl (by decide) ?_
      refine w_iadd rfl ?_
      obtain ⟨hg, hw⟩ := hw
      refine x_lds hg rfl ?_
      refine w_if (t := 880) rfl (by decide) (fun c24 => ?_) (fun c24 => ?_)
      · have c24 : (gint (h) b (ix (i + (2 : Int32)))) = (0 : Int32) := c24
        have hw := hw.1 c24
        refine w_iconst (v := (0 : Int32)) rfl (by decide) ?_
        obtain ⟨q25, hc, hw⟩ := hw
        obtain ⟨hg, hc⟩ := g_guard hc
        refine x_virt 9 [_, _] _ hg rfl rfl rfl rfl (Nat.le_of_ble_eq_true rfl) rfl (show cc + 0 ≤ 600000 from (by omega)) (show ss + 0 ≤ 7302250 from (by omega)) (t_G_echo (d := 98) hc ?_)
        refine w_aload_n rfl rfl ?_
        refine w_aload_n rfl rfl ?_
        refine w_iload_n rfl rfl ?_
        refine w_iconst (v := (1 : Int32)) rfl (by decide) ?_
        refine w_iadd rfl ?_
        obtain ⟨hg, hw⟩ := hw
        refine x_lds hg rfl ?_
        refine w_aload_n rfl rfl ?_
        refine w_iload_n rfl rfl ?_
        refine w_iconst (v := (2 : Int32)) rfl (by decide) ?_
        refine w_iadd rfl ?_
        obtain ⟨hg, hw⟩ := hw
        refine x_lds hg rfl ?_
        refine w_if (t := 902) rfl (by decide) (fun c26 => ?_) (fun c26 => ?_)
        · have c26 : (gint (q25.2) b (ix (i + (2 : Int32)))) = (0 : Int32) := c26
          have hw := hw.1 c26
          refine w_iconst (v := (0 : Int32)) rfl (by decide) ?_
          obtain ⟨hOq27, adq27, Sq27, q27, hM, hc, hw⟩ := hw
          refine w_virtual [_, _] _ rfl rfl rfl rfl (Nat.le_of_ble_eq_true rfl) hM.1 rfl (show cc + 0 + 0 ≤ 600000 from (by omega)) (show ss + 0 + 0 ≤ 7302250 from (by omega)) (t_M_echo (d := 97) hc hM (fun h' hM' => ?_))
          have hw := hw h' hM'
          refine w_icmp (t := 1036) rfl (by decide) (fun c28 => ?_) (fun c28 => ?_)
          · have c28 : q25.1 = q27.1 := c28
            have hw := hw.1 c28
            refine w_iinc (v := (5 : Int32)) rfl rfl (by decide) rfl ?_
            refine w_goto (t := 38) rfl (by decide) ?_
            exact hK _ _ _ _ (show cc + 0 + 0 ≤ cc + 31 by omega) (show ss + 0 + 0 ≤ ss + 5764 by omega) hw
          · have c28 : ¬ (q25.1 = q27.1) := c28
            have hw := hw.2 c28
            refine w_iconst (v := (0 : Int32)) rfl (by decide) ?_
            exact w_ireturn rfl (isZ_ret rfl) (show cc + 0 + 0 ≤ 600000 by omega) (show ss + 0 + 0 ≤ 7302250 by omega) hw
        · have c26 : ¬ ((gint (q25.2) b (ix (i + (2 : Int32)))) = (0 : Int32)) := c26
          have hw := hw.2 c26
          refine w_iconst (v := (1 : Int32)) rfl (by decide) ?_
          refine w_goto (t := 903) rfl (by decide) ?_
          obtain ⟨hOq27, adq27, Sq27, q27, hM, hc, hw⟩ := hw
          refine w_virtual [_, _] _ rfl rfl rfl rfl (Nat.le_of_ble_eq_true rfl) hM.1 rfl (show cc + 0 + 0 ≤ 600000 from (by omega)) (show ss + 0 + 0 ≤ 7302250 from (by omega)) (t_M_echo (d := 97) hc hM (fun h' hM' => ?_))
          have hw := hw h' hM'
          refine w_icmp (t := 1036) rfl (by decide) (fun c28 => ?_) (fun c28 => ?_)
          · have c28 : q25.1 = q27.1 := c28
            have hw := hw.1 c28
            refine w_iinc (v := (5 : Int32)) rfl rfl (by decide) rfl ?_
            refine w_goto (t := 38) rfl (by decide) ?_
            exact hK _ _ _ _ (show cc + 0 + 0 ≤ cc + 31 by omega) (show ss + 0 + 0 ≤ ss + 5764 by omega) hw
          · have c28 : ¬ (q25.1 = q27.1) := c28
            have hw := hw.2 c28
            refine w_iconst (v := (0 : Int32)) rfl (by decide) ?_
            exact w_ireturn rfl (isZ_ret rfl) (show cc + 0 + 0 ≤ 600000 by omega) (show ss + 0 + 0 ≤ 7302250 by omega) hw
      · have c24 : ¬ ((gint (h) b (ix (i + (2 : Int32)))) = (0 : Int32)) := c24
        have hw := hw.2 c24
        refine w_iconst (v := (1 : Int32)) rfl (by decide) ?_
        refine w_goto (t := 881) rfl (by decide) ?_
        obtain ⟨q25, hc, hw⟩ := hw
        obtain ⟨hg, hc⟩ := g_guard hc
        refine x_virt 9 [_, _] _ hg rfl rfl rfl rfl (Nat.le_of_ble_eq_true rfl) rfl (show cc + 0 ≤ 600000 from (by omega)) (show ss + 0 ≤ 7302250 from (by omega)) (t_G_echo (d := 98) hc ?_)
        refine w_aload_n rfl rfl ?_
        refine w_aload_n rfl rfl ?_
        refine w_iload_n rfl rfl ?_
        refine w_iconst (v := (1 : Int32)) rfl (by decide) ?_
        refine w_iadd rfl ?_
        obtain ⟨hg, hw⟩ := hw
        refine x_lds hg rfl ?_
        refine w_aload_n rfl rfl ?_
        refine w_iload_n rfl rfl ?_
        refine w_iconst (v := (2 : Int32)) rfl (by decide) ?_
        refine w_iadd rfl ?_
        obtain ⟨hg, hw⟩ := hw
        refine x_lds hg rfl ?_
        refine w_if (t := 902) rfl (by decide) (fun c26 => ?_) (fun c26 => ?_)
        · have c26 : (gint (q25.2) b (ix (i + (2 : Int32)))) = (0 : Int32) := c26
          have hw := hw.1 c26
          refine w_iconst (v := (0 : Int32)) rfl (by decide) ?_
          obtain ⟨hOq27, adq27, Sq27, q27, hM, hc, hw⟩ := hw
          refine w_virtual [_, _] _ rfl rfl rfl rfl (Nat.le_of_ble_eq_true rfl) hM.1 rfl (show cc + 0 + 0 ≤ 600000 from (by omega)) (show ss + 0 + 0 ≤ 7302250 from (by omega)) (t_M_echo (d := 97) hc hM (fun h' hM' => ?_))
          have hw := hw h' hM'
          refine w_icmp (t := 1036) rfl (by decide) (fun c28 => ?_) (fun c28 => ?_)
          · have c28 : q25.1 = q27.1 := c28
            have hw := hw.1 c28
            refine w_iinc (v := (5 : Int32)) rfl rfl (by decide) rfl ?_
            refine w_goto (t := 38) rfl (by decide) ?_
            exact hK _ _ _ _ (show cc + 0 + 0 ≤ cc + 31 by omega) (show ss + 0 + 0 ≤ ss + 5764 by omega) hw
          · have c28 : ¬ (q25.1 = q27.1) := c28
            have hw := hw.2 c28
            refine w_iconst (v := (0 : Int32)) rfl (by decide) ?_
            exact w_ireturn rfl (isZ_ret rfl) (show cc + 0 + 0 ≤ 600000 by omega) (show ss + 0 + 0 ≤ 7302250 by omega) hw
        · have c26 : ¬ ((gint (q25.2) b (ix (i + (2 : Int32)))) = (0 : Int32)) := c26
          have hw := hw.2 c26
          refine w_iconst (v := (1 : Int32)) rfl (by decide) ?_
          refine w_goto (t := 903) rfl (by decide) ?_
          obtain ⟨hOq27, adq27, Sq27, q27, hM, hc, hw⟩ := hw
          refine w_virtual [_, _] _ rfl rfl rfl rfl (Nat.le_of_ble_eq_true rfl) hM.1 rfl (show cc + 0 + 0 ≤ 600000 from (by omega)) (show ss + 0 + 0 ≤ 7302250 from (by omega)) (t_M_echo (d := 97) hc hM (fun h' hM' => ?_))
          have hw := hw h' hM'
          refine w_icmp (t := 1036) rfl (by decide) (fun c28 => ?_) (fun c28 => ?_)
          · have c28 : q25.1 = q27.1 := c28
            have hw := hw.1 c28
            refine w_iinc (v := (5 : Int32)) rfl rfl (by decide) rfl ?_
            refine w_goto (t := 38) rfl (by decide) ?_
            exact hK _ _ _ _ (show cc + 0 + 0 ≤ cc + 31 by omega) (show ss + 0 + 0 ≤ ss + 5764 by omega) hw
          · have c28 : ¬ (q25.1 = q27.1) := c28
            have hw := hw.2 c28
            refine w_iconst (v := (0 : Int32)) rfl (by decide) ?_
            exact w_ireturn rfl (isZ_ret rfl) (show cc + 0 + 0 ≤ 600000 by omega) (show ss + 0 + 0 ≤ 7302250 by omega) hw
    have hw := hw.2 c23
    by_cases c24 : ((gint (h) b (ix (i))) &&& (31 : Int32)) = (21 : Int32)
    · have hw := hw.1 c24
      refine w_tswIn (t := 911) c24 rfl (by decide) (by decide) rfl (by decide) ?_
      unfold w_lawC21 at hw
      refine w_aload_n rfl rfl ?_
      refine w_aload_n rfl rfl ?_
      refine w_iload_n rfl rfl ?_
      refine w_iconst (v := (1 : Int32)) rfl (by decide) ?_
      refine w_iadd rfl ?_
      obtain ⟨hg, hw⟩ := hw
      refine x_lds hg rfl ?_
      refine w_aload_n rfl rfl ?_
      refine w_iload_n rfl rfl ?_
      refine w_iconst (v := (2 : Int32)) rfl (by decide) ?_
      refine w_iadd rfl ?_
      obtain ⟨hg, hw⟩ := hw
      refine x_lds hg rfl ?_
      obtain ⟨q25, hc, hw⟩ := hw
      obtain ⟨hg, hc⟩ := g_guard hc
      refine x_virt 9 [_, _] _ hg rfl rfl rfl rfl (Nat.le_of_ble_eq_true rfl) rfl (show cc + 0 ≤ 600000 from (by omega)) (show ss + 0 ≤ 7302250 from (by omega)) (t_G_type (d := 93) hc ?_)
      refine w_aload_n rfl rfl ?_
      refine w_aload_n rfl rfl ?_
      refine w_iload_n rfl rfl ?_
      refine w_iconst (v := (1 : Int32)) rfl (by decide) ?_
      refine w_iadd rfl ?_
      obtain ⟨hg, hw⟩ := hw
      refine x_lds hg rfl ?_
      refine w_aload_n rfl rfl ?_
      refine w_iload_n rfl rfl ?_
      refine w_iconst (v := (2 : Int32)) rfl (by decide) ?_
      refine w_iadd rfl ?_
      obtain ⟨hg, hw⟩ := hw
      refine x_lds hg rfl ?_
      obtain ⟨hOq26, adq26, Sq26, q26, hM, hc, hw⟩ := hw
      refine w_virtual [_, _] _ rfl rfl rfl rfl (Nat.le_of_ble_eq_true rfl) hM.1 rfl (show cc + 0 + 0 ≤ 600000 from (by omega)) (show ss + 0 + 0 ≤ 7302250 from (by omega)) (t_M_type (d := 96) hc hM (fun h' hM' => ?_))
      have hw := hw h' hM'
      refine w_icmp (t := 1036) rfl (by decide) (fun c27 => ?_) (fun c27 => ?_)
      · have c27 : q25.1 = q26.1 := c27
        have hw := hw.1 c27
        refine w_iinc (v := (5 : Int32)) rfl rfl (by decide) rfl ?_
        refine w_goto (t := 38) rfl (by decide) ?_
        exact hK _ _ _ _ (show cc + 0 + 0 ≤ cc + 31 by omega) (show ss + 0 + 0 ≤ ss + 5764 by omega) hw
      · have c27 : ¬ (q25.1 = q26.1) := c27
        have hw := hw.2 c27
        refine w_iconst (v := (0 : Int32)) rfl (by decide) ?_
        exact w_ireturn rfl (isZ_ret rfl) (show cc + 0 + 0 ≤ 600000 by omega) (show ss + 0 + 0 ≤ 7302250 by omega) hw
    have hw := hw.2 c24
    by_cases c25 : ((gint (h) b (ix (i))) &&& (31 : Int32)) = (22 : Int32)
    · have hw := hw.1 c25
      refine w_tswIn (t := 944) c25 rfl (by decide) (by decide) rfl (by decide) ?_
      unfold w_lawC22 at hw
      refine w_aload_n rfl rfl ?_
      refine w_aload_n rfl rfl ?_
      refine w_iload_n rfl rfl ?_
      refine w_iconst (v := (1 : Int32)) rfl (by decide) ?_
      refine w_iadd rfl ?_
      obtain ⟨hg, hw⟩ := hw
      refine x_lds hg rfl ?_
      refine w_aload_n rfl rfl ?_
      refine w_iload_n rfl rfl ?_
      refine w_iconst (v := (2 : Int32)) rfl (by decide) ?_
      refine w_iadd rfl ?_
      obtain ⟨hg, hw⟩ := hw
      refine x_lds hg rfl ?_
      obtain ⟨q26, hc, hw⟩ := hw
      obtain ⟨hg, hc⟩ := g_guard hc
      refine x_virt 9 [_, _] _ hg rfl rfl rfl rfl (Nat.le_of_ble_eq_true rfl) rfl (show cc + 0 ≤ 600000 from (by omega)) (show ss + 0 ≤ 7302250 from (by omega)) (t_G_click (d := 93) hc ?_)
      refine w_aload_n rfl rfl ?_
      refine w_aload_n rfl rfl ?_
      refine w_iload_n rfl rfl ?_
      refine w_iconst (v := (1 : Int32)) rfl (by decide) ?_
      refine w_iadd rfl ?_
      obtain ⟨hg, hw⟩ := hw
      refine x_lds hg rfl ?_
      refine w_aload_n rfl rfl ?_
      refine w_iload_n rfl rfl ?_
      refine w_iconst (v := (2 : Int32)) rfl (by decide) ?_
      refine w_iadd rfl ?_
      obtain ⟨hg, hw⟩ := hw
      refine x_lds hg rfl ?_
      obtain ⟨hOq27, adq27, Sq27, q27, hM, hc, hw⟩ := hw
      refine w_virtual [_, _] _ rfl rfl rfl rfl (Nat.le_of_ble_eq_true rfl) hM.1 rfl (show cc + 0 + 0 ≤ 600000 from (by omega)) (show ss + 0 + 0 ≤ 7302250 from (by omega)) (t_M_click (d := 94) hc hM (fun h' hM' => ?_))
      have hw := hw h' hM'
      refine w_icmp (t := 1036) rfl (by decide) (fun c28 => ?_) (fun c28 => ?_)
      · have c28 : q26.1 = q27.1 := c28
        have hw := hw.1 c28
        refine w_iinc (v := (5 : Int32)) rfl rfl (by decide) rfl ?_
        refine w_goto (t := 38) rfl (by decide) ?_
        exact hK _ _ _ _ (show cc + 0 + 0 ≤ cc + 31 by omega) (show ss + 0 + 0 ≤ ss + 5764 by omega) hw
      · have c28 : ¬ (q26.1 = q27.1) := c28
        have hw := hw.2 c28
        refine w_iconst (v := (0 : Int32)) rfl (by decide) ?_
        exact w_ireturn rfl (isZ_ret rfl) (show cc + 0 + 0 ≤ 600000 by omega) (show ss + 0 + 0 ≤ 7302250 by omega) hw
    have hw := hw.2 c25
    by_cases c26 : ((gint (h) b (ix (i))) &&& (31 : Int32)) = (23 : Int32)
    · have hw := hw.1 c26
      refine w_tswIn (t := 977) c26 rfl (by decide) (by decide) rfl (by decide) ?_
      unfold w_lawC23 at hw
      refine w_aload_n rfl rfl ?_
      obtain ⟨q27, hc, hw⟩ := hw
      obtain ⟨hg, hc⟩ := g_guard hc
      refine x_virt 9 [] _ hg rfl rfl rfl rfl (Nat.le_of_ble_eq_true rfl) rfl (show cc + 0 ≤ 600000 from (by omega)) (show ss + 0 ≤ 7302250 from (by omega)) (t_G_take (d := 98) hc ?_)
      refine w_aload_n rfl rfl ?_
      obtain ⟨hOq28, adq28, Sq28, q28, hM, hc, hw⟩ := hw
      refine w_virtual [] _ rfl rfl rfl rfl (Nat.le_of_ble_eq_true rfl) hM.1 rfl (show cc + 0 + 0 ≤ 600000 from (by omega)) (show ss + 0 + 0 ≤ 7302250 from (by omega)) (t_M_take (d := 97) hc hM (fun h' hM' => ?_))
      have hw := hw h' hM'
      refine w_icmp (t := 1036) rfl (by decide) (fun c29 => ?_) (fun c29 => ?_)
      · have c29 : q27.1 = q28.1 := c29
        have hw := hw.1 c29
        refine w_iinc (v := (5 : Int32)) rfl rfl (by decide) rfl ?_
        refine w_goto (t := 38) rfl (by decide) ?_
        exact hK _ _ _ _ (show cc + 0 + 0 ≤ cc + 31 by omega) (show ss + 0 + 0 ≤ ss + 5764 by omega) hw
      · have c29 : ¬ (q27.1 = q28.1) := c29
        have hw := hw.2 c29
        refine w_iconst (v := (0 : Int32)) rfl (by decide) ?_
        exact w_ireturn rfl (isZ_ret rfl) (show cc + 0 + 0 ≤ 600000 by omega) (show ss + 0 + 0 ≤ 7302250 by omega) hw
    have hw := hw.2 c26
    by_cases c27 : ((gint (h) b (ix (i))) &&& (31 : Int32)) = (24 : Int32)
    · have hw := hw.1 c27
      refine w_tswIn (t := 990) c27 rfl (by decide) (by decide) rfl (by decide) ?_
      unfold w_lawC24 at hw
      refine w_aload_n rfl rfl ?_
      refine w_aload_n rfl rfl ?_
      refine w_iload_n rfl rfl ?_
      refine w_iconst (v := (1 : Int32)) rfl (by decide) ?_
      refine w_iadd rfl ?_
      obtain ⟨hg, hw⟩ := hw
      refine x_lds hg rfl ?_
      obtain ⟨q28, hc, hw⟩ := hw
      obtain ⟨hg, hc⟩ := g_guard hc
      refine x_virt 9 [_] _ hg rfl rfl rfl rfl (Nat.le_of_ble_eq_true rfl) rfl (show cc + 0 ≤ 600000 from (by omega)) (show ss + 0 ≤ 7302250 from (by omega)) (t_G_event (d := 98) hc ?_)
      refine w_aload_n rfl rfl ?_
      refine w_aload_n rfl rfl ?_
      refine w_iload_n rfl rfl ?_
      refine w_iconst (v := (1 : Int32)) rfl (by decide) ?_
      refine w_iadd rfl ?_
      obtain ⟨hg, hw⟩ := hw
      refine x_lds hg rfl ?_
      obtain ⟨hOq29, adq29, Sq29, q29, hM, hc, hw⟩ := hw
      refine w_virtual [_] _ rfl rfl rfl rfl (Nat.le_of_ble_eq_true rfl) hM.1 rfl (show cc + 0 + 0 ≤ 600000 from (by omega)) (show ss + 0 + 0 ≤ 7302250 from (by omega)) (t_M_event_1 (d := 98) hc hM (fun h' hM' => ?_))
      have hw := hw h' hM'
      refine w_icmp (t := 1036) rfl (by decide) (fun c30 => ?_) (fun c30 => ?_)
      · have c30 : q28.1 = q29.1 := c30
        have hw := hw.1 c30
        refine w_iinc (v := (5 : Int32)) rfl rfl (by decide) rfl ?_
        refine w_goto (t := 38) rfl (by decide) ?_
        exact hK _ _ _ _ (show cc + 0 + 0 ≤ cc + 31 by omega) (show ss + 0 + 0 ≤ ss + 5764 by omega) hw
      · have c30 : ¬ (q28.1 = q29.1) := c30
        have hw := hw.2 c30
        refine w_iconst (v := (0 : Int32)) rfl (by decide) ?_
        exact w_ireturn rfl (isZ_ret rfl) (show cc + 0 + 0 ≤ 600000 by omega) (show ss + 0 + 0 ≤ 7302250 by omega) hw
    have hw := hw.2 c27
    by_cases c28 : ((gint (h) b (ix (i))) &&& (31 : Int32)) = (25 : Int32)
    · have hw := hw.1 c28
      refine w_tswIn (t := 1013) c28 rfl (by decide) (by decide) rfl (by decide) ?_
      unfold w_lawC25 at hw
      refine w_aload_n rfl rfl ?_
      refine w_aload_n rfl rfl ?_
      refine w_iload_n rfl rfl ?_
      refine w_iconst (v := (1 : Int32)) rfl (by decide) ?_
      refine w_iadd rfl ?_
      obtain ⟨hg, hw⟩ := hw
      refine x_lds hg rfl ?_
      obtain ⟨q29, hc, hw⟩ := hw
      obtain ⟨hg, hc⟩ := g_guard hc
      refine x_virt 9 [_] _ hg rfl rfl rfl rfl (Nat.le_of_ble_eq_true rfl) rfl (show cc + 0 ≤ 600000 from (by omega)) (show ss + 0 ≤ 7302250 from (by omega)) (t_G_count (d := 98) hc ?_)
      refine w_aload_n rfl rfl ?_
      refine w_aload_n rfl rfl ?_
      refine w_iload_n rfl rfl ?_
      refine w_iconst (v := (1 : Int32)) rfl (by decide) ?_
      refine w_iadd rfl ?_
      obtain ⟨hg, hw⟩ := hw
      refine x_lds hg rfl ?_
      obtain ⟨hOq30, adq30, Sq30, q30, hM, hc, hw⟩ := hw
      refine w_virtual [_] _ rfl rfl rfl rfl (Nat.le_of_ble_eq_true rfl) hM.1 rfl (show cc + 0 + 0 ≤ 600000 from (by omega)) (show ss + 0 + 0 ≤ 7302250 from (by omega)) (t_M_count (d := 98) hc hM (fun h' hM' => ?_))
      have hw := hw h' hM'
      refine w_icmp (t := 1036) rfl (by decide) (fun c31 => ?_) (fun c31 => ?_)
      · have c31 : q29.1 = q30.1 := c31
        have hw := hw.1 c31
        refine w_iinc (v := (5 : Int32)) rfl rfl (by decide) rfl ?_
        refine w_goto (t := 38) rfl (by decide) ?_
        exact hK _ _ _ _ (show cc + 0 + 0 ≤ cc + 31 by omega) (show ss + 0 + 0 ≤ ss + 5764 by omega) hw
      · have c31 : ¬ (q29.1 = q30.1) := c31
        have hw := hw.2 c31
        refine w_iconst (v := (0 : Int32)) rfl (by decide) ?_
        exact w_ireturn rfl (isZ_ret rfl) (show cc + 0 + 0 ≤ 600000 by omega) (show ss + 0 + 0 ≤ 7302250 by omega) hw
    have hw := hw.2 c28
    refine w_tswOut (t := 1036) rfl (g_out26 c3 c4 c5 c6 c7 c8 c9 c10 c11 c12 c13 c14 c15 c16 c17 c18 c19 c20 c21 c22 c23 c24 c25 c26 c27 c28) (by decide) ?_
    refine w_iinc (v := (5 : Int32)) rfl rfl (by decide) rfl ?_
    refine w_goto (t := 38) rfl (by decide) ?_
    exact hK _ _ _ _ (show cc ≤ cc + 31 by omega) (show ss ≤ ss + 5764 by omega) hw
