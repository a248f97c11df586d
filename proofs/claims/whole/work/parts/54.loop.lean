/-- one turn of the law, out of what each call gives -/
theorem lawB_of {n b L ax am : Nat} {Iv Iv' : gHp → Prop} (hL : L ≤ 2562) (hmono : ∀ h, Iv h → Iv' h) (iv0 : ∀ h, Iv h → gtag h b = some (24, L) ∧ gtag h ax = some (9, 2)) (p0 : ∀ h (i : Int32), Iv h → (∀ c : Int32, c = 1 ∨ c = 2 ∨ c = 3 ∨ c = 4 → inB (i + c) L = true) → w_lawC0 n h b ax am i (fun v _ => v = some (.inl 1)) (fun h' i' => Iv' h' ∧ i' = i + 5)) (p1 : ∀ h, Iv h → ∀ z1, PO_close n Iv' b L ax am h z1) (p2 : ∀ h, Iv h → ∀ z1 z2 z3 z4, PO_arrange n Iv' b L ax am h z1 z2 z3 z4) (p3 : ∀ h, Iv h → ∀ z1 z2, PO_pane n Iv' b L ax am h z1 z2) (p4 : ∀ h, Iv h → ∀ z1 z2, PO_pair n Iv' b L ax am h z1 z2) (p5 : ∀ h, Iv h → PO_root n Iv' b L ax am h) (p6 : ∀ h, Iv h → ∀ z1 z2, PO_resize n Iv' b L ax am h z1 z2) (p7 : ∀ h, Iv h → ∀ z1 z2, PO_sign n Iv' b L ax am h z1 z2) (p8 : ∀ h, Iv h → ∀ z1 z2, PO_style n Iv' b L ax am h z1 z2) (p9 : ∀ h, Iv h → ∀ z1 z2, PO_link n Iv' b L ax am h z1 z2) (p10 : ∀ h, Iv h → ∀ z1 z2 z3, PO_cursor n Iv' b L ax am h z1 z2 z3) (p11 : ∀ h, Iv h → ∀ z1 z2, PO_at n Iv' b L ax am h z1 z2) (p12 : ∀ h, Iv h → ∀ z1, PO_wipe n Iv' b L ax am h z1) (p13 : ∀ h, Iv h → ∀ z1 z2, PO_picture n Iv' b L ax am h z1 z2) (p14 : ∀ h, Iv h → ∀ z1 z2 z3 z4, PO_shown n Iv' b L ax am h z1 z2 z3 z4) (p15 : ∀ h, Iv h → ∀ z1, PO_lines n Iv' b L ax am h z1) (p16 : ∀ h, Iv h → ∀ z1 z2, PO_drawn n Iv' b L ax am h z1 z2) (p17 : ∀ h, Iv h → ∀ z1 z2, PO_under n Iv' b L ax am h z1 z2) (p18 : ∀ h, Iv h → ∀ z1 z2 z3, PO_ask n Iv' b L ax am h z1 z2 z3) (p19 : ∀ h, Iv h → ∀ z1 z2, PO_cancel n Iv' b L ax am h z1 z2) (p21 : ∀ h, Iv h → ∀ z1 z2, PO_type n Iv' b L ax am h z1 z2) (p22 : ∀ h, Iv h → ∀ z1 z2, PO_click n Iv' b L ax am h z1 z2) (p23 : ∀ h, Iv h → PO_take n Iv' b L ax am h) (p24 : ∀ h, Iv h → ∀ z1, PO_event n Iv' b L ax am h z1) (p25 : ∀ h, Iv h → ∀ z1, PO_count n Iv' b L ax am h z1) (p20 : ∀ h, Iv h → ∀ z1 z2, (z2 = 0 ∨ z2 = 1) → PO_echo n Iv' b L ax am h z1 z2) {h : gHp} {j : Nat} (hI : Iv h) (hj : j ≤ 512) : w_lawB n h b ax am (nI (2 + 5 * j)) (fun v _ => v = some (.inl 1)) (fun h' i' => (Iv' h' ∧ i' = nI (2 + 5 * j) + 5) ∧ 2 + 5 * j + 5 ≤ L) := by
  obtain ⟨hb, hx⟩ := iv0 h hI
  unfold w_lawB
  refine ⟨(24, L), hb, rfl, fun _ => rfl, fun hlt => ?_⟩
  have hlt : ¬ (Int32.ofNat L - 5 < nI (2 + 5 * j)) := hlt
  have h5 : 2 + 5 * j + 5 ≤ L := by
    refine Nat.not_lt.mp (fun q => hlt ?_)
    rw [Int32.lt_iff_toInt_lt, nI_toInt (by omega)]
    rcases Nat.lt_or_ge L 5 with c | c
    · have e : (Int32.ofNat L - 5).toInt = (L : Int) - 5 := pk_sub_toInt (a := L) (b := 5) (by omega) (by decide)
      rw [e]
      omega
    · have e : (Int32.ofNat L - 5).toInt = (L : Int) - 5 := pk_sub_toInt (a := L) (b := 5) (by omega) (by decide)
      rw [e]
      omega
  have hadd : ∀ c : Nat, c ≤ 4 → nI (2 + 5 * j) + nI c = nI (2 + 5 * j + c) := fun c _ => nI_add _ _
  have hin : ∀ c : Nat, c ≤ 4 → inB (nI (2 + 5 * j + c)) L = true := fun c hc => by
    simp only [inB, Bool.and_eq_true, decide_eq_true_eq, nI_toInt (show 2 + 5 * j + c < 2 ^ 31 by omega)]
    omega
  have hr : ∀ c : Int32, c = 1 ∨ c = 2 ∨ c = 3 ∨ c = 4 → inB (nI (2 + 5 * j) + c) L = true := by
    intro c hc
    rcases hc with rfl | rfl | rfl | rfl
    · exact (hadd 1 (by omega)) ▸ hin 1 (by omega)
    · exact (hadd 2 (by omega)) ▸ hin 2 (by omega)
    · exact (hadd 3 (by omega)) ▸ hin 3 (by omega)
    · exact (hadd 4 (by omega)) ▸ hin 4 (by omega)
  have hK : ∀ {Q : Option gv → gHp → Prop} (h' : gHp) (i' : Int32), Iv' h' ∧ i' = nI (2 + 5 * j) + 5 → (Iv' h' ∧ i' = nI (2 + 5 * j) + 5) ∧ 2 + 5 * j + 5 ≤ L := fun _ _ q => ⟨q, h5⟩
  have e0 : (fun (h' : gHp) (i' : Int32) => (Iv' h' ∧ i' = nI (2 + 5 * j) + 5) ∧ 2 + 5 * j + 5 ≤ L) = (fun (h' : gHp) (i' : Int32) => Iv' h' ∧ i' = nI (2 + 5 * j) + 5) := by
    funext h' i'
    exact propext ⟨fun q => q.1, fun q => ⟨q, h5⟩⟩
  rw [e0]
  refine ⟨by rw [hb]; exact hin 0 (by omega), ?_⟩
  refine ⟨fun _ => p0 h _ hI hr, fun _ => ?_⟩
  refine ⟨fun _ => lawC_close hb hx hr (p1 h hI _), fun _ => ?_⟩
  refine ⟨fun _ => lawC_arrange hb hx hr (p2 h hI _ _ _ _), fun _ => ?_⟩
  refine ⟨fun _ => lawC_pane hb hx hr (p3 h hI _ _), fun _ => ?_⟩
  refine ⟨fun _ => lawC_pair hb hx hr (p4 h hI _ _), fun _ => ?_⟩
  refine ⟨fun _ => lawC_root hb hx hr (p5 h hI), fun _ => ?_⟩
  refine ⟨fun _ => lawC_resize hb hx hr (p6 h hI _ _), fun _ => ?_⟩
  refine ⟨fun _ => lawC_sign hb hx hr (p7 h hI _ _), fun _ => ?_⟩
  refine ⟨fun _ => lawC_style hb hx hr (p8 h hI _ _), fun _ => ?_⟩
  refine ⟨fun _ => lawC_link hb hx hr (p9 h hI _ _), fun _ => ?_⟩
  refine ⟨fun _ => lawC_cursor hb hx hr (p10 h hI _ _ _), fun _ => ?_⟩
  refine ⟨fun _ => lawC_at hb hx hr (p11 h hI _ _), fun _ => ?_⟩
  refine ⟨fun _ => lawC_wipe hb hx hr (p12 h hI _), fun _ => ?_⟩
  refine ⟨fun _ => lawC_picture hb hx hr (p13 h hI _ _), fun _ => ?_⟩
  refine ⟨fun _ => lawC_shown hb hx hr (p14 h hI _ _ _ _), fun _ => ?_⟩
  refine ⟨fun _ => lawC_lines hb hx hr (p15 h hI _), fun _ => ?_⟩
  refine ⟨fun _ => lawC_drawn hb hx hr (p16 h hI _ _), fun _ => ?_⟩
  refine ⟨fun _ => lawC_under hb hx hr (p17 h hI _ _), fun _ => ?_⟩
  refine ⟨fun _ => lawC_ask hb hx hr (p18 h hI _ _ _), fun _ => ?_⟩
  refine ⟨fun _ => lawC_cancel hb hx hr (p19 h hI _ _), fun _ => ?_⟩
  refine ⟨fun _ => lawC_echo hb hx hr (fun z hz => p20 h hI _ z hz), fun _ => ?_⟩
  refine ⟨fun _ => lawC_type hb hx hr (p21 h hI _ _), fun _ => ?_⟩
  refine ⟨fun _ => lawC_click hb hx hr (p22 h hI _ _), fun _ => ?_⟩
  refine ⟨fun _ => lawC_take hb hx hr (p23 h hI), fun _ => ?_⟩
  refine ⟨fun _ => lawC_event hb hx hr (p24 h hI _), fun _ => ?_⟩
  refine ⟨fun _ => lawC_count hb hx hr (p25 h hI _), fun _ => ?_⟩
  exact ⟨hmono h hI, rfl⟩
set_option maxRecDepth 100000 in
/-- the law's loop -/
theorem law_loop {n b L ax am : Nat} {Iv : Nat → gHp → Prop} (hL : L ≤ 2562) (hs : ∀ h j, j ≤ 512 → Iv j h → w_lawB n h b ax am (nI (2 + 5 * j)) (fun v _ => v = some (.inl 1)) (fun h' i' => (Iv (j + 1) h' ∧ i' = nI (2 + 5 * j) + 5) ∧ 2 + 5 * j + 5 ≤ L)) :
    ∀ (k j : Nat) (h : gHp) (cc ss : Nat), L < 2 + 5 * j + 5 * (k + 1) → j ≤ 512 → Iv j h → cc ≤ 64 + 31 * j → ss ≤ 344958 + 5764 * j → gWP (gCall 100) m_Law_law (fun v _ => v = some (.inl 1)) 38 [some (.inr (some b)), some (.inr (some ax)), some (.inr (some am)), some (.inl (nI (2 + 5 * j)))] [] h cc ss := by
  intro k
  induction k with
  | zero =>
    intro j h cc ss h1 h2 hI h3 h4
    refine t_lawB (by omega) (by omega) (fun h' i' cc' ss' h5 h6 h7 => ?_) (hs h j h2 hI)
    have := h7.2
    omega
  | succ k ih =>
    intro j h cc ss h1 h2 hI h3 h4
    refine t_lawB (by omega) (by omega) (fun h' i' cc' ss' h5 h6 h7 => ?_) (hs h j h2 hI)
    obtain ⟨⟨h8, rfl⟩, h9⟩ := h7
    have e : nI (2 + 5 * j) + 5 = nI (2 + 5 * (j + 1)) := nI_add (2 + 5 * j) 5
    rw [e]
    exact ih (j + 1) h' cc' ss' (by omega) (by omega) h8 (by omega) (by omega)
set_option maxRecDepth 100000 in
/-- the law, out of an invariant that holds at the loop's head and is kept -/
theorem law_of {n b L : Nat} {xs : Nat → Int32} (hL : L ≤ 2562) (Iv : Nat → Nat → Nat → gHp → Prop) (hi : w_law0 n (gh0 b L xs) b (fun h ax am => Iv ax am 0 h)) (hs : ∀ ax am h j, j ≤ 512 → Iv ax am j h → w_lawB n h b ax am (nI (2 + 5 * j)) (fun v _ => v = some (.inl 1)) (fun h' i' => (Iv ax am (j + 1) h' ∧ i' = nI (2 + 5 * j) + 5) ∧ 2 + 5 * j + 5 ≤ L)) : gWP (gCall 100) m_Law_law (fun v _ => v = some (.inl 1)) 0 (gEntry m_Law_law [.inr (some b)]) [] (gh0 b L xs) 0 0 := by
  show gWP (gCall 100) m_Law_law (fun v _ => v = some (.inl 1)) 0 [some (.inr (some b)), none, none, none] [] (gh0 b L xs) 0 0
  refine t_law0 (n := n) (fun h ax am hI => ?_) hi
  exact law_loop (Iv := Iv ax am) hL (fun h j hj hI => hs ax am h j hj hI) 512 0 h 64 344958 (by omega) (by omega) hI (by omega) (by omega)
