/-- close: class and reference answer alike, and what holds between them is kept -/
def PO_close (n : Nat) (Iv : gHp → Prop) (b L ax am : Nat) (h : gHp) (z1 : Int32) : Prop := ∃ (q1 : Int32 × gHp), f_G_close n h ax z1 = some q1 ∧ gtag q1.2 b = some (24, L) ∧ (∀ j, gint q1.2 b j = gint h b j) ∧ ∃ (hO : gHp) (ad : Nat → Nat) (S : MS) (q2 : Int32 × MS), MR hO q1.2 am ad S ∧ f_M_close n S z1 = some q2 ∧ q1.1 = q2.1 ∧ ∀ h', MR hO h' am ad q2.2 → Iv h'
theorem lawC_close {n : Nat} {Iv : gHp → Prop} {b L ax am : Nat} {h : gHp} {i : Int32} (hb : gtag h b = some (24, L)) (hx : gtag h ax = some (9, 2)) (hr : ∀ c : Int32, c = 1 ∨ c = 2 ∨ c = 3 ∨ c = 4 → inB (i + c) L = true) (hp : PO_close n Iv b L ax am h (gint h b (ix (i + (1 : Int32))))) : w_lawC1 n h b ax am i (fun v _ => v = some (.inl 1)) (fun h' i' => Iv h' ∧ i' = i + 5) := by
  have g : ∀ (h9 : gHp) (c : Int32), gtag h9 b = some (24, L) → (c = 1 ∨ c = 2 ∨ c = 3 ∨ c = 4) → gArr (gtag h9 b) 24 (i + c) = true := fun h9 c e1 e2 => by rw [e1]; exact hr c e2
  have gx : gtis (gtag h ax) 9 = true := by rw [hx]; rfl
  obtain ⟨q1, h1, h2, h3, hO, ad, S, q2, h4, h5, h6, h7⟩ := hp
  unfold w_lawC1
  exact ⟨g h _ hb (by decide), q1, by rw [gx]; exact h1, g _ _ h2 (by decide), hO, ad, S, q2, h4, by simp only [h3]; exact h5, fun h' hM => ⟨fun _ => ⟨h7 h' hM, rfl⟩, fun c => absurd h6 c⟩⟩
/-- arrange: class and reference answer alike, and what holds between them is kept -/
def PO_arrange (n : Nat) (Iv : gHp → Prop) (b L ax am : Nat) (h : gHp) (z1 : Int32) (z2 : Int32) (z3 : Int32) (z4 : Int32) : Prop := ∃ (q1 : Int32 × gHp), f_G_arrange n h ax z1 z2 z3 z4 = some q1 ∧ gtag q1.2 b = some (24, L) ∧ (∀ j, gint q1.2 b j = gint h b j) ∧ ∃ (hO : gHp) (ad : Nat → Nat) (S : MS) (q2 : Int32 × MS), MR hO q1.2 am ad S ∧ f_M_arrange n S z1 z2 z3 z4 = some q2 ∧ q1.1 = q2.1 ∧ ∀ h', MR hO h' am ad q2.2 → Iv h'
theorem lawC_arrange {n : Nat} {Iv : gHp → Prop} {b L ax am : Nat} {h : gHp} {i : Int32} (hb : gtag h b = some (24, L)) (hx : gtag h ax = some (9, 2)) (hr : ∀ c : Int32, c = 1 ∨ c = 2 ∨ c = 3 ∨ c = 4 → inB (i + c) L = true) (hp : PO_arrange n Iv b L ax am h (gint h b (ix (i + (1 : Int32)))) (gint h b (ix (i + (2 : Int32)))) (gint h b (ix (i + (3 : Int32)))) (gint h b (ix (i + (4 : Int32))))) : w_lawC2 n h b ax am i (fun v _ => v = some (.inl 1)) (fun h' i' => Iv h' ∧ i' = i + 5) := by
  have g : ∀ (h9 : gHp) (c : Int32), gtag h9 b = some (24, L) → (c = 1 ∨ c = 2 ∨ c = 3 ∨ c = 4) → gArr (gtag h9 b) 24 (i + c) = true := fun h9 c e1 e2 => by rw [e1]; exact hr c e2
  have gx : gtis (gtag h ax) 9 = true := by rw [hx]; rfl
  obtain ⟨q1, h1, h2, h3, hO, ad, S, q2, h4, h5, h6, h7⟩ := hp
  unfold w_lawC2
  exact ⟨g h _ hb (by decide), g h _ hb (by decide), g h _ hb (by decide), g h _ hb (by decide), q1, by rw [gx]; exact h1, g _ _ h2 (by decide), g _ _ h2 (by decide), g _ _ h2 (by decide), g _ _ h2 (by decide), hO, ad, S, q2, h4, by simp only [h3]; exact h5, fun h' hM => ⟨fun _ => ⟨h7 h' hM, rfl⟩, fun c => absurd h6 c⟩⟩
/-- pane: class and reference answer alike, and what holds between them is kept -/
def PO_pane (n : Nat) (Iv : gHp → Prop) (b L ax am : Nat) (h : gHp) (z1 : Int32) (z2 : Int32) : Prop := ∃ (q1 : Int32 × gHp), f_G_pane n h ax z1 z2 = some q1 ∧ gtag q1.2 b = some (24, L) ∧ (∀ j, gint q1.2 b j = gint h b j) ∧ ∃ (hO : gHp) (ad : Nat → Nat) (S : MS) (q2 : Int32 × MS), MR hO q1.2 am ad S ∧ f_M_pane n S z1 z2 = some q2 ∧ q1.1 = q2.1 ∧ ∀ h', MR hO h' am ad q2.2 → Iv h'
theorem lawC_pane {n : Nat} {Iv : gHp → Prop} {b L ax am : Nat} {h : gHp} {i : Int32} (hb : gtag h b = some (24, L)) (hx : gtag h ax = some (9, 2)) (hr : ∀ c : Int32, c = 1 ∨ c = 2 ∨ c = 3 ∨ c = 4 → inB (i + c) L = true) (hp : PO_pane n Iv b L ax am h (gint h b (ix (i + (1 : Int32)))) (gint h b (ix (i + (2 : Int32))))) : w_lawC3 n h b ax am i (fun v _ => v = some (.inl 1)) (fun h' i' => Iv h' ∧ i' = i + 5) := by
  have g : ∀ (h9 : gHp) (c : Int32), gtag h9 b = some (24, L) → (c = 1 ∨ c = 2 ∨ c = 3 ∨ c = 4) → gArr (gtag h9 b) 24 (i + c) = true := fun h9 c e1 e2 => by rw [e1]; exact hr c e2
  have gx : gtis (gtag h ax) 9 = true := by rw [hx]; rfl
  obtain ⟨q1, h1, h2, h3, hO, ad, S, q2, h4, h5, h6, h7⟩ := hp
  unfold w_lawC3
  exact ⟨g h _ hb (by decide), g h _ hb (by decide), q1, by rw [gx]; exact h1, g _ _ h2 (by decide), g _ _ h2 (by decide), hO, ad, S, q2, h4, by simp only [h3]; exact h5, fun h' hM => ⟨fun _ => ⟨h7 h' hM, rfl⟩, fun c => absurd h6 c⟩⟩
/-- pair: class and reference answer alike, and what holds between them is kept -/
def PO_pair (n : Nat) (Iv : gHp → Prop) (b L ax am : Nat) (h : gHp) (z1 : Int32) (z2 : Int32) : Prop := ∃ (q1 : Int32 × gHp), f_G_pair n h ax z1 z2 = some q1 ∧ gtag q1.2 b = some (24, L) ∧ (∀ j, gint q1.2 b j = gint h b j) ∧ ∃ (hO : gHp) (ad : Nat → Nat) (S : MS) (q2 : Int32 × MS), MR hO q1.2 am ad S ∧ f_M_pair n S z1 z2 = some q2 ∧ q1.1 = q2.1 ∧ ∀ h', MR hO h' am ad q2.2 → Iv h'
theorem lawC_pair {n : Nat} {Iv : gHp → Prop} {b L ax am : Nat} {h : gHp} {i : Int32} (hb : gtag h b = some (24, L)) (hx : gtag h ax = some (9, 2)) (hr : ∀ c : Int32, c = 1 ∨ c = 2 ∨ c = 3 ∨ c = 4 → inB (i + c) L = true) (hp : PO_pair n Iv b L ax am h (gint h b (ix (i + (1 : Int32)))) (gint h b (ix (i + (2 : Int32))))) : w_lawC4 n h b ax am i (fun v _ => v = some (.inl 1)) (fun h' i' => Iv h' ∧ i' = i + 5) := by
  have g : ∀ (h9 : gHp) (c : Int32), gtag h9 b = some (24, L) → (c = 1 ∨ c = 2 ∨ c = 3 ∨ c = 4) → gArr (gtag h9 b) 24 (i + c) = true := fun h9 c e1 e2 => by rw [e1]; exact hr c e2
  have gx : gtis (gtag h ax) 9 = true := by rw [hx]; rfl
  obtain ⟨q1, h1, h2, h3, hO, ad, S, q2, h4, h5, h6, h7⟩ := hp
  unfold w_lawC4
  exact ⟨g h _ hb (by decide), g h _ hb (by decide), q1, by rw [gx]; exact h1, g _ _ h2 (by decide), g _ _ h2 (by decide), hO, ad, S, q2, h4, by simp only [h3]; exact h5, fun h' hM => ⟨fun _ => ⟨h7 h' hM, rfl⟩, fun c => absurd h6 c⟩⟩
/-- root: class and reference answer alike, and what holds between them is kept -/
def PO_root (n : Nat) (Iv : gHp → Prop) (b L ax am : Nat) (h : gHp) : Prop := ∃ (q1 : Int32 × gHp), f_G_root n h ax  = some q1 ∧ gtag q1.2 b = some (24, L) ∧ (∀ j, gint q1.2 b j = gint h b j) ∧ ∃ (hO : gHp) (ad : Nat → Nat) (S : MS) (q2 : Int32 × MS), MR hO q1.2 am ad S ∧ f_M_root n S  = some q2 ∧ q1.1 = q2.1 ∧ ∀ h', MR hO h' am ad q2.2 → Iv h'
theorem lawC_root {n : Nat} {Iv : gHp → Prop} {b L ax am : Nat} {h : gHp} {i : Int32} (hb : gtag h b = some (24, L)) (hx : gtag h ax = some (9, 2)) (hr : ∀ c : Int32, c = 1 ∨ c = 2 ∨ c = 3 ∨ c = 4 → inB (i + c) L = true) (hp : PO_root n Iv b L ax am h ) : w_lawC5 n h b ax am i (fun v _ => v = some (.inl 1)) (fun h' i' => Iv h' ∧ i' = i + 5) := by
  have g : ∀ (h9 : gHp) (c : Int32), gtag h9 b = some (24, L) → (c = 1 ∨ c = 2 ∨ c = 3 ∨ c = 4) → gArr (gtag h9 b) 24 (i + c) = true := fun h9 c e1 e2 => by rw [e1]; exact hr c e2
  have gx : gtis (gtag h ax) 9 = true := by rw [hx]; rfl
  obtain ⟨q1, h1, h2, h3, hO, ad, S, q2, h4, h5, h6, h7⟩ := hp
  unfold w_lawC5
  exact ⟨q1, by rw [gx]; exact h1, hO, ad, S, q2, h4, by exact h5, fun h' hM => ⟨fun _ => ⟨h7 h' hM, rfl⟩, fun c => absurd h6 c⟩⟩
/-- resize: class and reference answer alike, and what holds between them is kept -/
def PO_resize (n : Nat) (Iv : gHp → Prop) (b L ax am : Nat) (h : gHp) (z1 : Int32) (z2 : Int32) : Prop := ∃ (q1 : Int32 × gHp), f_G_resize n h ax z1 z2 = some q1 ∧ gtag q1.2 b = some (24, L) ∧ (∀ j, gint q1.2 b j = gint h b j) ∧ ∃ (hO : gHp) (ad : Nat → Nat) (S : MS) (q2 : Int32 × MS), MR hO q1.2 am ad S ∧ f_M_resize n S z1 z2 = some q2 ∧ q1.1 = q2.1 ∧ ∀ h', MR hO h' am ad q2.2 → Iv h'
theorem lawC_resize {n : Nat} {Iv : gHp → Prop} {b L ax am : Nat} {h : gHp} {i : Int32} (hb : gtag h b = some (24, L)) (hx : gtag h ax = some (9, 2)) (hr : ∀ c : Int32, c = 1 ∨ c = 2 ∨ c = 3 ∨ c = 4 → inB (i + c) L = true) (hp : PO_resize n Iv b L ax am h (gint h b (ix (i + (1 : Int32)))) (gint h b (ix (i + (2 : Int32))))) : w_lawC6 n h b ax am i (fun v _ => v = some (.inl 1)) (fun h' i' => Iv h' ∧ i' = i + 5) := by
  have g : ∀ (h9 : gHp) (c : Int32), gtag h9 b = some (24, L) → (c = 1 ∨ c = 2 ∨ c = 3 ∨ c = 4) → gArr (gtag h9 b) 24 (i + c) = true := fun h9 c e1 e2 => by rw [e1]; exact hr c e2
  have gx : gtis (gtag h ax) 9 = true := by rw [hx]; rfl
  obtain ⟨q1, h1, h2, h3, hO, ad, S, q2, h4, h5, h6, h7⟩ := hp
  unfold w_lawC6
  exact ⟨g h _ hb (by decide), g h _ hb (by decide), q1, by rw [gx]; exact h1, g _ _ h2 (by decide), g _ _ h2 (by decide), hO, ad, S, q2, h4, by simp only [h3]; exact h5, fun h' hM => ⟨fun _ => ⟨h7 h' hM, rfl⟩, fun c => absurd h6 c⟩⟩
/-- sign: class and reference answer alike, and what holds between them is kept -/
def PO_sign (n : Nat) (Iv : gHp → Prop) (b L ax am : Nat) (h : gHp) (z1 : Int32) (z2 : Int32) : Prop := ∃ (q1 : Int32 × gHp), f_G_sign n h ax z1 z2 = some q1 ∧ gtag q1.2 b = some (24, L) ∧ (∀ j, gint q1.2 b j = gint h b j) ∧ ∃ (hO : gHp) (ad : Nat → Nat) (S : MS) (q2 : Int32 × MS), MR hO q1.2 am ad S ∧ f_M_sign n S z1 z2 = some q2 ∧ q1.1 = q2.1 ∧ ∀ h', MR hO h' am ad q2.2 → Iv h'
theorem lawC_sign {n : Nat} {Iv : gHp → Prop} {b L ax am : Nat} {h : gHp} {i : Int32} (hb : gtag h b = some (24, L)) (hx : gtag h ax = some (9, 2)) (hr : ∀ c : Int32, c = 1 ∨ c = 2 ∨ c = 3 ∨ c = 4 → inB (i + c) L = true) (hp : PO_sign n Iv b L ax am h (gint h b (ix (i + (1 : Int32)))) (gint h b (ix (i + (2 : Int32))))) : w_lawC7 n h b ax am i (fun v _ => v = some (.inl 1)) (fun h' i' => Iv h' ∧ i' = i + 5) := by
  have g : ∀ (h9 : gHp) (c : Int32), gtag h9 b = some (24, L) → (c = 1 ∨ c = 2 ∨ c = 3 ∨ c = 4) → gArr (gtag h9 b) 24 (i + c) = true := fun h9 c e1 e2 => by rw [e1]; exact hr c e2
  have gx : gtis (gtag h ax) 9 = true := by rw [hx]; rfl
  obtain ⟨q1, h1, h2, h3, hO, ad, S, q2, h4, h5, h6, h7⟩ := hp
  unfold w_lawC7
  exact ⟨g h _ hb (by decide), g h _ hb (by decide), q1, by rw [gx]; exact h1, g _ _ h2 (by decide), g _ _ h2 (by decide), hO, ad, S, q2, h4, by simp only [h3]; exact h5, fun h' hM => ⟨fun _ => ⟨h7 h' hM, rfl⟩, fun c => absurd h6 c⟩⟩
/-- style: class and reference answer alike, and what holds between them is kept -/
def PO_style (n : Nat) (Iv : gHp → Prop) (b L ax am : Nat) (h : gHp) (z1 : Int32) (z2 : Int32) : Prop := ∃ (q1 : Int32 × gHp), f_G_style n h ax z1 z2 = some q1 ∧ gtag q1.2 b = some (24, L) ∧ (∀ j, gint q1.2 b j = gint h b j) ∧ ∃ (hO : gHp) (ad : Nat → Nat) (S : MS) (q2 : Int32 × MS), MR hO q1.2 am ad S ∧ f_M_style n S z1 z2 = some q2 ∧ q1.1 = q2.1 ∧ ∀ h', MR hO h' am ad q2.2 → Iv h'
theorem lawC_style {n : Nat} {Iv : gHp → Prop} {b L ax am : Nat} {h : gHp} {i : Int32} (hb : gtag h b = some (24, L)) (hx : gtag h ax = some (9, 2)) (hr : ∀ c : Int32, c = 1 ∨ c = 2 ∨ c = 3 ∨ c = 4 → inB (i + c) L = true) (hp : PO_style n Iv b L ax am h (gint h b (ix (i + (1 : Int32)))) (gint h b (ix (i + (2 : Int32))))) : w_lawC8 n h b ax am i (fun v _ => v = some (.inl 1)) (fun h' i' => Iv h' ∧ i' = i + 5) := by
  have g : ∀ (h9 : gHp) (c : Int32), gtag h9 b = some (24, L) → (c = 1 ∨ c = 2 ∨ c = 3 ∨ c = 4) → gArr (gtag h9 b) 24 (i + c) = true := fun h9 c e1 e2 => by rw [e1]; exact hr c e2
  have gx : gtis (gtag h ax) 9 = true := by rw [hx]; rfl
  obtain ⟨q1, h1, h2, h3, hO, ad, S, q2, h4, h5, h6, h7⟩ := hp
  unfold w_lawC8
  exact ⟨g h _ hb (by decide), g h _ hb (by decide), q1, by rw [gx]; exact h1, g _ _ h2 (by decide), g _ _ h2 (by decide), hO, ad, S, q2, h4, by simp only [h3]; exact h5, fun h' hM => ⟨fun _ => ⟨h7 h' hM, rfl⟩, fun c => absurd h6 c⟩⟩
/-- link: class and reference answer alike, and what holds between them is kept -/
def PO_link (n : Nat) (Iv : gHp → Prop) (b L ax am : Nat) (h : gHp) (z1 : Int32) (z2 : Int32) : Prop := ∃ (q1 : Int32 × gHp), f_G_link n h ax z1 z2 = some q1 ∧ gtag q1.2 b = some (24, L) ∧ (∀ j, gint q1.2 b j = gint h b j) ∧ ∃ (hO : gHp) (ad : Nat → Nat) (S : MS) (q2 : Int32 × MS), MR hO q1.2 am ad S ∧ f_M_link n S z1 z2 = some q2 ∧ q1.1 = q2.1 ∧ ∀ h', MR hO h' am ad q2.2 → Iv h'
theorem lawC_link {n : Nat} {Iv : gHp → Prop} {b L ax am : Nat} {h : gHp} {i : Int32} (hb : gtag h b = some (24, L)) (hx : gtag h ax = some (9, 2)) (hr : ∀ c : Int32, c = 1 ∨ c = 2 ∨ c = 3 ∨ c = 4 → inB (i + c) L = true) (hp : PO_link n Iv b L ax am h (gint h b (ix (i + (1 : Int32)))) (gint h b (ix (i + (2 : Int32))))) : w_lawC9 n h b ax am i (fun v _ => v = some (.inl 1)) (fun h' i' => Iv h' ∧ i' = i + 5) := by
  have g : ∀ (h9 : gHp) (c : Int32), gtag h9 b = some (24, L) → (c = 1 ∨ c = 2 ∨ c = 3 ∨ c = 4) → gArr (gtag h9 b) 24 (i + c) = true := fun h9 c e1 e2 => by rw [e1]; exact hr c e2
  have gx : gtis (gtag h ax) 9 = true := by rw [hx]; rfl
  obtain ⟨q1, h1, h2, h3, hO, ad, S, q2, h4, h5, h6, h7⟩ := hp
  unfold w_lawC9
  exact ⟨g h _ hb (by decide), g h _ hb (by decide), q1, by rw [gx]; exact h1, g _ _ h2 (by decide), g _ _ h2 (by decide), hO, ad, S, q2, h4, by simp only [h3]; exact h5, fun h' hM => ⟨fun _ => ⟨h7 h' hM, rfl⟩, fun c => absurd h6 c⟩⟩
/-- cursor: class and reference answer alike, and what holds between them is kept -/
def PO_cursor (n : Nat) (Iv : gHp → Prop) (b L ax am : Nat) (h : gHp) (z1 : Int32) (z2 : Int32) (z3 : Int32) : Prop := ∃ (q1 : Int32 × gHp), f_G_cursor n h ax z1 z2 z3 = some q1 ∧ gtag q1.2 b = some (24, L) ∧ (∀ j, gint q1.2 b j = gint h b j) ∧ ∃ (hO : gHp) (ad : Nat → Nat) (S : MS) (q2 : Int32 × MS), MR hO q1.2 am ad S ∧ f_M_cursor n S z1 z2 z3 = some q2 ∧ q1.1 = q2.1 ∧ ∀ h', MR hO h' am ad q2.2 → Iv h'
theorem lawC_cursor {n : Nat} {Iv : gHp → Prop} {b L ax am : Nat} {h : gHp} {i : Int32} (hb : gtag h b = some (24, L)) (hx : gtag h ax = some (9, 2)) (hr : ∀ c : Int32, c = 1 ∨ c = 2 ∨ c = 3 ∨ c = 4 → inB (i + c) L = true) (hp : PO_cursor n Iv b L ax am h (gint h b (ix (i + (1 : Int32)))) (gint h b (ix (i + (2 : Int32)))) (gint h b (ix (i + (3 : Int32))))) : w_lawC10 n h b ax am i (fun v _ => v = some (.inl 1)) (fun h' i' => Iv h' ∧ i' = i + 5) := by
  have g : ∀ (h9 : gHp) (c : Int32), gtag h9 b = some (24, L) → (c = 1 ∨ c = 2 ∨ c = 3 ∨ c = 4) → gArr (gtag h9 b) 24 (i + c) = true := fun h9 c e1 e2 => by rw [e1]; exact hr c e2
  have gx : gtis (gtag h ax) 9 = true := by rw [hx]; rfl
  obtain ⟨q1, h1, h2, h3, hO, ad, S, q2, h4, h5, h6, h7⟩ := hp
  unfold w_lawC10
  exact ⟨g h _ hb (by decide), g h _ hb (by decide), g h _ hb (by decide), q1, by rw [gx]; exact h1, g _ _ h2 (by decide), g _ _ h2 (by decide), g _ _ h2 (by decide), hO, ad, S, q2, h4, by simp only [h3]; exact h5, fun h' hM => ⟨fun _ => ⟨h7 h' hM, rfl⟩, fun c => absurd h6 c⟩⟩
/-- at: class and reference answer alike, and what holds between them is kept -/
def PO_at (n : Nat) (Iv : gHp → Prop) (b L ax am : Nat) (h : gHp) (z1 : Int32) (z2 : Int32) : Prop := ∃ (q1 : Int32 × gHp), f_G_at n h ax z1 z2 = some q1 ∧ gtag q1.2 b = some (24, L) ∧ (∀ j, gint q1.2 b j = gint h b j) ∧ ∃ (hO : gHp) (ad : Nat → Nat) (S : MS) (q2 : Int32 × MS), MR hO q1.2 am ad S ∧ f_M_at n S z1 z2 = some q2 ∧ q1.1 = q2.1 ∧ ∀ h', MR hO h' am ad q2.2 → Iv h'
theorem lawC_at {n : Nat} {Iv : gHp → Prop} {b L ax am : Nat} {h : gHp} {i : Int32} (hb : gtag h b = some (24, L)) (hx : gtag h ax = some (9, 2)) (hr : ∀ c : Int32, c = 1 ∨ c = 2 ∨ c = 3 ∨ c = 4 → inB (i + c) L = true) (hp : PO_at n Iv b L ax am h (gint h b (ix (i + (1 : Int32)))) (gint h b (ix (i + (2 : Int32))))) : w_lawC11 n h b ax am i (fun v _ => v = some (.inl 1)) (fun h' i' => Iv h' ∧ i' = i + 5) := by
  have g : ∀ (h9 : gHp) (c : Int32), gtag h9 b = some (24, L) → (c = 1 ∨ c = 2 ∨ c = 3 ∨ c = 4) → gArr (gtag h9 b) 24 (i + c) = true := fun h9 c e1 e2 => by rw [e1]; exact hr c e2
  have gx : gtis (gtag h ax) 9 = true := by rw [hx]; rfl
  obtain ⟨q1, h1, h2, h3, hO, ad, S, q2, h4, h5, h6, h7⟩ := hp
  unfold w_lawC11
  exact ⟨g h _ hb (by decide), g h _ hb (by decide), q1, by rw [gx]; exact h1, g _ _ h2 (by decide), g _ _ h2 (by decide), hO, ad, S, q2, h4, by simp only [h3]; exact h5, fun h' hM => ⟨fun _ => ⟨h7 h' hM, rfl⟩, fun c => absurd h6 c⟩⟩
/-- wipe: class and reference answer alike, and what holds between them is kept -/
def PO_wipe (n : Nat) (Iv : gHp → Prop) (b L ax am : Nat) (h : gHp) (z1 : Int32) : Prop := ∃ (q1 : Int32 × gHp), f_G_wipe n h ax z1 = some q1 ∧ gtag q1.2 b = some (24, L) ∧ (∀ j, gint q1.2 b j = gint h b j) ∧ ∃ (hO : gHp) (ad : Nat → Nat) (S : MS) (q2 : Int32 × MS), MR hO q1.2 am ad S ∧ f_M_wipe n S z1 = some q2 ∧ q1.1 = q2.1 ∧ ∀ h', MR hO h' am ad q2.2 → Iv h'
theorem lawC_wipe {n : Nat} {Iv : gHp → Prop} {b L ax am : Nat} {h : gHp} {i : Int32} (hb : gtag h b = some (24, L)) (hx : gtag h ax = some (9, 2)) (hr : ∀ c : Int32, c = 1 ∨ c = 2 ∨ c = 3 ∨ c = 4 → inB (i + c) L = true) (hp : PO_wipe n Iv b L ax am h (gint h b (ix (i + (1 : Int32))))) : w_lawC12 n h b ax am i (fun v _ => v = some (.inl 1)) (fun h' i' => Iv h' ∧ i' = i + 5) := by
  have g : ∀ (h9 : gHp) (c : Int32), gtag h9 b = some (24, L) → (c = 1 ∨ c = 2 ∨ c = 3 ∨ c = 4) → gArr (gtag h9 b) 24 (i + c) = true := fun h9 c e1 e2 => by rw [e1]; exact hr c e2
  have gx : gtis (gtag h ax) 9 = true := by rw [hx]; rfl
  obtain ⟨q1, h1, h2, h3, hO, ad, S, q2, h4, h5, h6, h7⟩ := hp
  unfold w_lawC12
  exact ⟨g h _ hb (by decide), q1, by rw [gx]; exact h1, g _ _ h2 (by decide), hO, ad, S, q2, h4, by simp only [h3]; exact h5, fun h' hM => ⟨fun _ => ⟨h7 h' hM, rfl⟩, fun c => absurd h6 c⟩⟩
/-- picture: class and reference answer alike, and what holds between them is kept -/
def PO_picture (n : Nat) (Iv : gHp → Prop) (b L ax am : Nat) (h : gHp) (z1 : Int32) (z2 : Int32) : Prop := ∃ (q1 : Int32 × gHp), f_G_picture n h ax z1 z2 = some q1 ∧ gtag q1.2 b = some (24, L) ∧ (∀ j, gint q1.2 b j = gint h b j) ∧ ∃ (hO : gHp) (ad : Nat → Nat) (S : MS) (q2 : Int32 × MS), MR hO q1.2 am ad S ∧ f_M_picture n S z1 z2 = some q2 ∧ q1.1 = q2.1 ∧ ∀ h', MR hO h' am ad q2.2 → Iv h'
theorem lawC_picture {n : Nat} {Iv : gHp → Prop} {b L ax am : Nat} {h : gHp} {i : Int32} (hb : gtag h b = some (24, L)) (hx : gtag h ax = some (9, 2)) (hr : ∀ c : Int32, c = 1 ∨ c = 2 ∨ c = 3 ∨ c = 4 → inB (i + c) L = true) (hp : PO_picture n Iv b L ax am h (gint h b (ix (i + (1 : Int32)))) (gint h b (ix (i + (2 : Int32))))) : w_lawC13 n h b ax am i (fun v _ => v = some (.inl 1)) (fun h' i' => Iv h' ∧ i' = i + 5) := by
  have g : ∀ (h9 : gHp) (c : Int32), gtag h9 b = some (24, L) → (c = 1 ∨ c = 2 ∨ c = 3 ∨ c = 4) → gArr (gtag h9 b) 24 (i + c) = true := fun h9 c e1 e2 => by rw [e1]; exact hr c e2
  have gx : gtis (gtag h ax) 9 = true := by rw [hx]; rfl
  obtain ⟨q1, h1, h2, h3, hO, ad, S, q2, h4, h5, h6, h7⟩ := hp
  unfold w_lawC13
  exact ⟨g h _ hb (by decide), g h _ hb (by decide), q1, by rw [gx]; exact h1, g _ _ h2 (by decide), g _ _ h2 (by decide), hO, ad, S, q2, h4, by simp only [h3]; exact h5, fun h' hM => ⟨fun _ => ⟨h7 h' hM, rfl⟩, fun c => absurd h6 c⟩⟩
/-- shown: class and reference answer alike, and what holds between them is kept -/
def PO_shown (n : Nat) (Iv : gHp → Prop) (b L ax am : Nat) (h : gHp) (z1 : Int32) (z2 : Int32) (z3 : Int32) (z4 : Int32) : Prop := ∃ (q1 : Int32 × gHp), f_G_shown n h ax z1 z2 z3 z4 = some q1 ∧ gtag q1.2 b = some (24, L) ∧ (∀ j, gint q1.2 b j = gint h b j) ∧ ∃ (hO : gHp) (ad : Nat → Nat) (S : MS) (q2 : Int32 × MS), MR hO q1.2 am ad S ∧ f_M_shown n S z1 z2 z3 z4 = some q2 ∧ q1.1 = q2.1 ∧ ∀ h', MR hO h' am ad q2.2 → Iv h'
theorem lawC_shown {n : Nat} {Iv : gHp → Prop} {b L ax am : Nat} {h : gHp} {i : Int32} (hb : gtag h b = some (24, L)) (hx : gtag h ax = some (9, 2)) (hr : ∀ c : Int32, c = 1 ∨ c = 2 ∨ c = 3 ∨ c = 4 → inB (i + c) L = true) (hp : PO_shown n Iv b L ax am h (gint h b (ix (i + (1 : Int32)))) (gint h b (ix (i + (2 : Int32)))) (gint h b (ix (i + (3 : Int32)))) (gint h b (ix (i + (4 : Int32))))) : w_lawC14 n h b ax am i (fun v _ => v = some (.inl 1)) (fun h' i' => Iv h' ∧ i' = i + 5) := by
  have g : ∀ (h9 : gHp) (c : Int32), gtag h9 b = some (24, L) → (c = 1 ∨ c = 2 ∨ c = 3 ∨ c = 4) → gArr (gtag h9 b) 24 (i + c) = true := fun h9 c e1 e2 => by rw [e1]; exact hr c e2
  have gx : gtis (gtag h ax) 9 = true := by rw [hx]; rfl
  obtain ⟨q1, h1, h2, h3, hO, ad, S, q2, h4, h5, h6, h7⟩ := hp
  unfold w_lawC14
  exact ⟨g h _ hb (by decide), g h _ hb (by decide), g h _ hb (by decide), g h _ hb (by decide), q1, by rw [gx]; exact h1, g _ _ h2 (by decide), g _ _ h2 (by decide), g _ _ h2 (by decide), g _ _ h2 (by decide), hO, ad, S, q2, h4, by simp only [h3]; exact h5, fun h' hM => ⟨fun _ => ⟨h7 h' hM, rfl⟩, fun c => absurd h6 c⟩⟩
/-- lines: class and reference answer alike, and what holds between them is kept -/
def PO_lines (n : Nat) (Iv : gHp → Prop) (b L ax am : Nat) (h : gHp) (z1 : Int32) : Prop := ∃ (q1 : Int32 × gHp), f_G_lines n h ax z1 = some q1 ∧ gtag q1.2 b = some (24, L) ∧ (∀ j, gint q1.2 b j = gint h b j) ∧ ∃ (hO : gHp) (ad : Nat → Nat) (S : MS) (q2 : Int32 × MS), MR hO q1.2 am ad S ∧ f_M_lines n S z1 = some q2 ∧ q1.1 = q2.1 ∧ ∀ h', MR hO h' am ad q2.2 → Iv h'
theorem lawC_lines {n : Nat} {Iv : gHp → Prop} {b L ax am : Nat} {h : gHp} {i : Int32} (hb : gtag h b = some (24, L)) (hx : gtag h ax = some (9, 2)) (hr : ∀ c : Int32, c = 1 ∨ c = 2 ∨ c = 3 ∨ c = 4 → inB (i + c) L = true) (hp : PO_lines n Iv b L ax am h (gint h b (ix (i + (1 : Int32))))) : w_lawC15 n h b ax am i (fun v _ => v = some (.inl 1)) (fun h' i' => Iv h' ∧ i' = i + 5) := by
  have g : ∀ (h9 : gHp) (c : Int32), gtag h9 b = some (24, L) → (c = 1 ∨ c = 2 ∨ c = 3 ∨ c = 4) → gArr (gtag h9 b) 24 (i + c) = true := fun h9 c e1 e2 => by rw [e1]; exact hr c e2
  have gx : gtis (gtag h ax) 9 = true := by rw [hx]; rfl
  obtain ⟨q1, h1, h2, h3, hO, ad, S, q2, h4, h5, h6, h7⟩ := hp
  unfold w_lawC15
  exact ⟨g h _ hb (by decide), q1, by rw [gx]; exact h1, g _ _ h2 (by decide), hO, ad, S, q2, h4, by simp only [h3]; exact h5, fun h' hM => ⟨fun _ => ⟨h7 h' hM, rfl⟩, fun c => absurd h6 c⟩⟩
/-- drawn: class and reference answer alike, and what holds between them is kept -/
def PO_drawn (n : Nat) (Iv : gHp → Prop) (b L ax am : Nat) (h : gHp) (z1 : Int32) (z2 : Int32) : Prop := ∃ (q1 : Int32 × gHp), f_G_drawn n h ax z1 z2 = some q1 ∧ gtag q1.2 b = some (24, L) ∧ (∀ j, gint q1.2 b j = gint h b j) ∧ ∃ (hO : gHp) (ad : Nat → Nat) (S : MS) (q2 : Int32 × MS), MR hO q1.2 am ad S ∧ f_M_drawn n S z1 z2 = some q2 ∧ q1.1 = q2.1 ∧ ∀ h', MR hO h' am ad q2.2 → Iv h'
theorem lawC_drawn {n : Nat} {Iv : gHp → Prop} {b L ax am : Nat} {h : gHp} {i : Int32} (hb : gtag h b = some (24, L)) (hx : gtag h ax = some (9, 2)) (hr : ∀ c : Int32, c = 1 ∨ c = 2 ∨ c = 3 ∨ c = 4 → inB (i + c) L = true) (hp : PO_drawn n Iv b L ax am h (gint h b (ix (i + (1 : Int32)))) (gint h b (ix (i + (2 : Int32))))) : w_lawC16 n h b ax am i (fun v _ => v = some (.inl 1)) (fun h' i' => Iv h' ∧ i' = i + 5) := by
  have g : ∀ (h9 : gHp) (c : Int32), gtag h9 b = some (24, L) → (c = 1 ∨ c = 2 ∨ c = 3 ∨ c = 4) → gArr (gtag h9 b) 24 (i + c) = true := fun h9 c e1 e2 => by rw [e1]; exact hr c e2
  have gx : gtis (gtag h ax) 9 = true := by rw [hx]; rfl
  obtain ⟨q1, h1, h2, h3, hO, ad, S, q2, h4, h5, h6, h7⟩ := hp
  unfold w_lawC16
  exact ⟨g h _ hb (by decide), g h _ hb (by decide), q1, by rw [gx]; exact h1, g _ _ h2 (by decide), g _ _ h2 (by decide), hO, ad, S, q2, h4, by simp only [h3]; exact h5, fun h' hM => ⟨fun _ => ⟨h7 h' hM, rfl⟩, fun c => absurd h6 c⟩⟩
/-- under: class and reference answer alike, and what holds between them is kept -/
def PO_under (n : Nat) (Iv : gHp → Prop) (b L ax am : Nat) (h : gHp) (z1 : Int32) (z2 : Int32) : Prop := ∃ (q1 : Int32 × gHp), f_G_under n h ax z1 z2 = some q1 ∧ gtag q1.2 b = some (24, L) ∧ (∀ j, gint q1.2 b j = gint h b j) ∧ ∃ (hO : gHp) (ad : Nat → Nat) (S : MS) (q2 : Int32 × MS), MR hO q1.2 am ad S ∧ f_M_under n S z1 z2 = some q2 ∧ q1.1 = q2.1 ∧ ∀ h', MR hO h' am ad q2.2 → Iv h'
theorem lawC_under {n : Nat} {Iv : gHp → Prop} {b L ax am : Nat} {h : gHp} {i : Int32} (hb : gtag h b = some (24, L)) (hx : gtag h ax = some (9, 2)) (hr : ∀ c : Int32, c = 1 ∨ c = 2 ∨ c = 3 ∨ c = 4 → inB (i + c) L = true) (hp : PO_under n Iv b L ax am h (gint h b (ix (i + (1 : Int32)))) (gint h b (ix (i + (2 : Int32))))) : w_lawC17 n h b ax am i (fun v _ => v = some (.inl 1)) (fun h' i' => Iv h' ∧ i' = i + 5) := by
  have g : ∀ (h9 : gHp) (c : Int32), gtag h9 b = some (24, L) → (c = 1 ∨ c = 2 ∨ c = 3 ∨ c = 4) → gArr (gtag h9 b) 24 (i + c) = true := fun h9 c e1 e2 => by rw [e1]; exact hr c e2
  have gx : gtis (gtag h ax) 9 = true := by rw [hx]; rfl
  obtain ⟨q1, h1, h2, h3, hO, ad, S, q2, h4, h5, h6, h7⟩ := hp
  unfold w_lawC17
  exact ⟨g h _ hb (by decide), g h _ hb (by decide), q1, by rw [gx]; exact h1, g _ _ h2 (by decide), g _ _ h2 (by decide), hO, ad, S, q2, h4, by simp only [h3]; exact h5, fun h' hM => ⟨fun _ => ⟨h7 h' hM, rfl⟩, fun c => absurd h6 c⟩⟩
/-- ask: class and reference answer alike, and what holds between them is kept -/
def PO_ask (n : Nat) (Iv : gHp → Prop) (b L ax am : Nat) (h : gHp) (z1 : Int32) (z2 : Int32) (z3 : Int32) : Prop := ∃ (q1 : Int32 × gHp), f_G_ask n h ax z1 z2 z3 = some q1 ∧ gtag q1.2 b = some (24, L) ∧ (∀ j, gint q1.2 b j = gint h b j) ∧ ∃ (hO : gHp) (ad : Nat → Nat) (S : MS) (q2 : Int32 × MS), MR hO q1.2 am ad S ∧ f_M_ask n S z1 z2 z3 = some q2 ∧ q1.1 = q2.1 ∧ ∀ h', MR hO h' am ad q2.2 → Iv h'
theorem lawC_ask {n : Nat} {Iv : gHp → Prop} {b L ax am : Nat} {h : gHp} {i : Int32} (hb : gtag h b = some (24, L)) (hx : gtag h ax = some (9, 2)) (hr : ∀ c : Int32, c = 1 ∨ c = 2 ∨ c = 3 ∨ c = 4 → inB (i + c) L = true) (hp : PO_ask n Iv b L ax am h (gint h b (ix (i + (1 : Int32)))) (gint h b (ix (i + (2 : Int32)))) (gint h b (ix (i + (3 : Int32))))) : w_lawC18 n h b ax am i (fun v _ => v = some (.inl 1)) (fun h' i' => Iv h' ∧ i' = i + 5) := by
  have g : ∀ (h9 : gHp) (c : Int32), gtag h9 b = some (24, L) → (c = 1 ∨ c = 2 ∨ c = 3 ∨ c = 4) → gArr (gtag h9 b) 24 (i + c) = true := fun h9 c e1 e2 => by rw [e1]; exact hr c e2
  have gx : gtis (gtag h ax) 9 = true := by rw [hx]; rfl
  obtain ⟨q1, h1, h2, h3, hO, ad, S, q2, h4, h5, h6, h7⟩ := hp
  unfold w_lawC18
  exact ⟨g h _ hb (by decide), g h _ hb (by decide), g h _ hb (by decide), q1, by rw [gx]; exact h1, g _ _ h2 (by decide), g _ _ h2 (by decide), g _ _ h2 (by decide), hO, ad, S, q2, h4, by simp only [h3]; exact h5, fun h' hM => ⟨fun _ => ⟨h7 h' hM, rfl⟩, fun c => absurd h6 c⟩⟩
/-- cancel: class and reference answer alike, and what holds between them is kept -/
def PO_cancel (n : Nat) (Iv : gHp → Prop) (b L ax am : Nat) (h : gHp) (z1 : Int32) (z2 : Int32) : Prop := ∃ (q1 : Int32 × gHp), f_G_cancel n h ax z1 z2 = some q1 ∧ gtag q1.2 b = some (24, L) ∧ (∀ j, gint q1.2 b j = gint h b j) ∧ ∃ (hO : gHp) (ad : Nat → Nat) (S : MS) (q2 : Int32 × MS), MR hO q1.2 am ad S ∧ f_M_cancel n S z1 z2 = some q2 ∧ q1.1 = q2.1 ∧ ∀ h', MR hO h' am ad q2.2 → Iv h'
theorem lawC_cancel {n : Nat} {Iv : gHp → Prop} {b L ax am : Nat} {h : gHp} {i : Int32} (hb : gtag h b = some (24, L)) (hx : gtag h ax = some (9, 2)) (hr : ∀ c : Int32, c = 1 ∨ c = 2 ∨ c = 3 ∨ c = 4 → inB (i + c) L = true) (hp : PO_cancel n Iv b L ax am h (gint h b (ix (i + (1 : Int32)))) (gint h b (ix (i + (2 : Int32))))) : w_lawC19 n h b ax am i (fun v _ => v = some (.inl 1)) (fun h' i' => Iv h' ∧ i' = i + 5) := by
  have g : ∀ (h9 : gHp) (c : Int32), gtag h9 b = some (24, L) → (c = 1 ∨ c = 2 ∨ c = 3 ∨ c = 4) → gArr (gtag h9 b) 24 (i + c) = true := fun h9 c e1 e2 => by rw [e1]; exact hr c e2
  have gx : gtis (gtag h ax) 9 = true := by rw [hx]; rfl
  obtain ⟨q1, h1, h2, h3, hO, ad, S, q2, h4, h5, h6, h7⟩ := hp
  unfold w_lawC19
  exact ⟨g h _ hb (by decide), g h _ hb (by decide), q1, by rw [gx]; exact h1, g _ _ h2 (by decide), g _ _ h2 (by decide), hO, ad, S, q2, h4, by simp only [h3]; exact h5, fun h' hM => ⟨fun _ => ⟨h7 h' hM, rfl⟩, fun c => absurd h6 c⟩⟩
/-- echo: class and reference answer alike, and what holds between them is kept -/
def PO_echo (n : Nat) (Iv : gHp → Prop) (b L ax am : Nat) (h : gHp) (z1 : Int32) (z2 : Int32) : Prop := ∃ (q1 : Int32 × gHp), f_G_echo n h ax z1 z2 = some q1 ∧ gtag q1.2 b = some (24, L) ∧ (∀ j, gint q1.2 b j = gint h b j) ∧ ∃ (hO : gHp) (ad : Nat → Nat) (S : MS) (q2 : Int32 × MS), MR hO q1.2 am ad S ∧ f_M_echo n S z1 z2 = some q2 ∧ q1.1 = q2.1 ∧ ∀ h', MR hO h' am ad q2.2 → Iv h'
theorem lawC_echo {n : Nat} {Iv : gHp → Prop} {b L ax am : Nat} {h : gHp} {i : Int32} (hb : gtag h b = some (24, L)) (hx : gtag h ax = some (9, 2)) (hr : ∀ c : Int32, c = 1 ∨ c = 2 ∨ c = 3 ∨ c = 4 → inB (i + c) L = true) (hp : ∀ z, (z = 0 ∨ z = 1) → PO_echo n Iv b L ax am h (gint h b (ix (i + (1 : Int32)))) z) : w_lawC20 n h b ax am i (fun v _ => v = some (.inl 1)) (fun h' i' => Iv h' ∧ i' = i + 5) := by
  have g : ∀ (h9 : gHp) (c : Int32), gtag h9 b = some (24, L) → (c = 1 ∨ c = 2 ∨ c = 3 ∨ c = 4) → gArr (gtag h9 b) 24 (i + c) = true := fun h9 c e1 e2 => by rw [e1]; exact hr c e2
  have gx : gtis (gtag h ax) 9 = true := by rw [hx]; rfl
  unfold w_lawC20
  refine ⟨g h _ hb (by decide), g h _ hb (by decide), fun c1 => ?_, fun c1 => ?_⟩
  · obtain ⟨q1, h1, h2, h3, hO, ad, S, q2, h4, h5, h6, h7⟩ := hp 0 (Or.inl rfl)
    refine ⟨q1, by rw [gx]; exact h1, g _ _ h2 (by decide), g _ _ h2 (by decide), fun c2 => ?_, fun c2 => absurd (by rw [h3]; exact c1) c2⟩
    exact ⟨hO, ad, S, q2, h4, by rw [h3]; exact h5, fun h' hM => ⟨fun _ => ⟨h7 h' hM, rfl⟩, fun c => absurd h6 c⟩⟩
  · obtain ⟨q1, h1, h2, h3, hO, ad, S, q2, h4, h5, h6, h7⟩ := hp 1 (Or.inr rfl)
    refine ⟨q1, by rw [gx]; exact h1, g _ _ h2 (by decide), g _ _ h2 (by decide), fun c2 => absurd (by rw [← h3]; exact c2) c1, fun c2 => ?_⟩
    exact ⟨hO, ad, S, q2, h4, by rw [h3]; exact h5, fun h' hM => ⟨fun _ => ⟨h7 h' hM, rfl⟩, fun c => absurd h6 c⟩⟩
/-- type: class and reference answer alike, and what holds between them is kept -/
def PO_type (n : Nat) (Iv : gHp → Prop) (b L ax am : Nat) (h : gHp) (z1 : Int32) (z2 : Int32) : Prop := ∃ (q1 : Int32 × gHp), f_G_type n h ax z1 z2 = some q1 ∧ gtag q1.2 b = some (24, L) ∧ (∀ j, gint q1.2 b j = gint h b j) ∧ ∃ (hO : gHp) (ad : Nat → Nat) (S : MS) (q2 : Int32 × MS), MR hO q1.2 am ad S ∧ f_M_type n S z1 z2 = some q2 ∧ q1.1 = q2.1 ∧ ∀ h', MR hO h' am ad q2.2 → Iv h'
theorem lawC_type {n : Nat} {Iv : gHp → Prop} {b L ax am : Nat} {h : gHp} {i : Int32} (hb : gtag h b = some (24, L)) (hx : gtag h ax = some (9, 2)) (hr : ∀ c : Int32, c = 1 ∨ c = 2 ∨ c = 3 ∨ c = 4 → inB (i + c) L = true) (hp : PO_type n Iv b L ax am h (gint h b (ix (i + (1 : Int32)))) (gint h b (ix (i + (2 : Int32))))) : w_lawC21 n h b ax am i (fun v _ => v = some (.inl 1)) (fun h' i' => Iv h' ∧ i' = i + 5) := by
  have g : ∀ (h9 : gHp) (c : Int32), gtag h9 b = some (24, L) → (c = 1 ∨ c = 2 ∨ c = 3 ∨ c = 4) → gArr (gtag h9 b) 24 (i + c) = true := fun h9 c e1 e2 => by rw [e1]; exact hr c e2
  have gx : gtis (gtag h ax) 9 = true := by rw [hx]; rfl
  obtain ⟨q1, h1, h2, h3, hO, ad, S, q2, h4, h5, h6, h7⟩ := hp
  unfold w_lawC21
  exact ⟨g h _ hb (by decide), g h _ hb (by decide), q1, by rw [gx]; exact h1, g _ _ h2 (by decide), g _ _ h2 (by decide), hO, ad, S, q2, h4, by simp only [h3]; exact h5, fun h' hM => ⟨fun _ => ⟨h7 h' hM, rfl⟩, fun c => absurd h6 c⟩⟩
/-- click: class and reference answer alike, and what holds between them is kept -/
def PO_click (n : Nat) (Iv : gHp → Prop) (b L ax am : Nat) (h : gHp) (z1 : Int32) (z2 : Int32) : Prop := ∃ (q1 : Int32 × gHp), f_G_click n h ax z1 z2 = some q1 ∧ gtag q1.2 b = some (24, L) ∧ (∀ j, gint q1.2 b j = gint h b j) ∧ ∃ (hO : gHp) (ad : Nat → Nat) (S : MS) (q2 : Int32 × MS), MR hO q1.2 am ad S ∧ f_M_click n S z1 z2 = some q2 ∧ q1.1 = q2.1 ∧ ∀ h', MR hO h' am ad q2.2 → Iv h'
theorem lawC_click {n : Nat} {Iv : gHp → Prop} {b L ax am : Nat} {h : gHp} {i : Int32} (hb : gtag h b = some (24, L)) (hx : gtag h ax = some (9, 2)) (hr : ∀ c : Int32, c = 1 ∨ c = 2 ∨ c = 3 ∨ c = 4 → inB (i + c) L = true) (hp : PO_click n Iv b L ax am h (gint h b (ix (i + (1 : Int32)))) (gint h b (ix (i + (2 : Int32))))) : w_lawC22 n h b ax am i (fun v _ => v = some (.inl 1)) (fun h' i' => Iv h' ∧ i' = i + 5) := by
  have g : ∀ (h9 : gHp) (c : Int32), gtag h9 b = some (24, L) → (c = 1 ∨ c = 2 ∨ c = 3 ∨ c = 4) → gArr (gtag h9 b) 24 (i + c) = true := fun h9 c e1 e2 => by rw [e1]; exact hr c e2
  have gx : gtis (gtag h ax) 9 = true := by rw [hx]; rfl
  obtain ⟨q1, h1, h2, h3, hO, ad, S, q2, h4, h5, h6, h7⟩ := hp
  unfold w_lawC22
  exact ⟨g h _ hb (by decide), g h _ hb (by decide), q1, by rw [gx]; exact h1, g _ _ h2 (by decide), g _ _ h2 (by decide), hO, ad, S, q2, h4, by simp only [h3]; exact h5, fun h' hM => ⟨fun _ => ⟨h7 h' hM, rfl⟩, fun c => absurd h6 c⟩⟩
/-- take: class and reference answer alike, and what holds between them is kept -/
def PO_take (n : Nat) (Iv : gHp → Prop) (b L ax am : Nat) (h : gHp) : Prop := ∃ (q1 : Int32 × gHp), f_G_take n h ax  = some q1 ∧ gtag q1.2 b = some (24, L) ∧ (∀ j, gint q1.2 b j = gint h b j) ∧ ∃ (hO : gHp) (ad : Nat → Nat) (S : MS) (q2 : Int32 × MS), MR hO q1.2 am ad S ∧ f_M_take n S  = some q2 ∧ q1.1 = q2.1 ∧ ∀ h', MR hO h' am ad q2.2 → Iv h'
theorem lawC_take {n : Nat} {Iv : gHp → Prop} {b L ax am : Nat} {h : gHp} {i : Int32} (hb : gtag h b = some (24, L)) (hx : gtag h ax = some (9, 2)) (hr : ∀ c : Int32, c = 1 ∨ c = 2 ∨ c = 3 ∨ c = 4 → inB (i + c) L = true) (hp : PO_take n Iv b L ax am h ) : w_lawC23 n h b ax am i (fun v _ => v = some (.inl 1)) (fun h' i' => Iv h' ∧ i' = i + 5) := by
  have g : ∀ (h9 : gHp) (c : Int32), gtag h9 b = some (24, L) → (c = 1 ∨ c = 2 ∨ c = 3 ∨ c = 4) → gArr (gtag h9 b) 24 (i + c) = true := fun h9 c e1 e2 => by rw [e1]; exact hr c e2
  have gx : gtis (gtag h ax) 9 = true := by rw [hx]; rfl
  obtain ⟨q1, h1, h2, h3, hO, ad, S, q2, h4, h5, h6, h7⟩ := hp
  unfold w_lawC23
  exact ⟨q1, by rw [gx]; exact h1, hO, ad, S, q2, h4, by exact h5, fun h' hM => ⟨fun _ => ⟨h7 h' hM, rfl⟩, fun c => absurd h6 c⟩⟩
/-- event: class and reference answer alike, and what holds between them is kept -/
def PO_event (n : Nat) (Iv : gHp → Prop) (b L ax am : Nat) (h : gHp) (z1 : Int32) : Prop := ∃ (q1 : Int32 × gHp), f_G_event n h ax z1 = some q1 ∧ gtag q1.2 b = some (24, L) ∧ (∀ j, gint q1.2 b j = gint h b j) ∧ ∃ (hO : gHp) (ad : Nat → Nat) (S : MS) (q2 : Int32 × MS), MR hO q1.2 am ad S ∧ f_M_event_1 n S z1 = some q2 ∧ q1.1 = q2.1 ∧ ∀ h', MR hO h' am ad q2.2 → Iv h'
theorem lawC_event {n : Nat} {Iv : gHp → Prop} {b L ax am : Nat} {h : gHp} {i : Int32} (hb : gtag h b = some (24, L)) (hx : gtag h ax = some (9, 2)) (hr : ∀ c : Int32, c = 1 ∨ c = 2 ∨ c = 3 ∨ c = 4 → inB (i + c) L = true) (hp : PO_event n Iv b L ax am h (gint h b (ix (i + (1 : Int32))))) : w_lawC24 n h b ax am i (fun v _ => v = some (.inl 1)) (fun h' i' => Iv h' ∧ i' = i + 5) := by
  have g : ∀ (h9 : gHp) (c : Int32), gtag h9 b = some (24, L) → (c = 1 ∨ c = 2 ∨ c = 3 ∨ c = 4) → gArr (gtag h9 b) 24 (i + c) = true := fun h9 c e1 e2 => by rw [e1]; exact hr c e2
  have gx : gtis (gtag h ax) 9 = true := by rw [hx]; rfl
  obtain ⟨q1, h1, h2, h3, hO, ad, S, q2, h4, h5, h6, h7⟩ := hp
  unfold w_lawC24
  exact ⟨g h _ hb (by decide), q1, by rw [gx]; exact h1, g _ _ h2 (by decide), hO, ad, S, q2, h4, by simp only [h3]; exact h5, fun h' hM => ⟨fun _ => ⟨h7 h' hM, rfl⟩, fun c => absurd h6 c⟩⟩
/-- count: class and reference answer alike, and what holds between them is kept -/
def PO_count (n : Nat) (Iv : gHp → Prop) (b L ax am : Nat) (h : gHp) (z1 : Int32) : Prop := ∃ (q1 : Int32 × gHp), f_G_count n h ax z1 = some q1 ∧ gtag q1.2 b = some (24, L) ∧ (∀ j, gint q1.2 b j = gint h b j) ∧ ∃ (hO : gHp) (ad : Nat → Nat) (S : MS) (q2 : Int32 × MS), MR hO q1.2 am ad S ∧ f_M_count n S z1 = some q2 ∧ q1.1 = q2.1 ∧ ∀ h', MR hO h' am ad q2.2 → Iv h'
theorem lawC_count {n : Nat} {Iv : gHp → Prop} {b L ax am : Nat} {h : gHp} {i : Int32} (hb : gtag h b = some (24, L)) (hx : gtag h ax = some (9, 2)) (hr : ∀ c : Int32, c = 1 ∨ c = 2 ∨ c = 3 ∨ c = 4 → inB (i + c) L = true) (hp : PO_count n Iv b L ax am h (gint h b (ix (i + (1 : Int32))))) : w_lawC25 n h b ax am i (fun v _ => v = some (.inl 1)) (fun h' i' => Iv h' ∧ i' = i + 5) := by
  have g : ∀ (h9 : gHp) (c : Int32), gtag h9 b = some (24, L) → (c = 1 ∨ c = 2 ∨ c = 3 ∨ c = 4) → gArr (gtag h9 b) 24 (i + c) = true := fun h9 c e1 e2 => by rw [e1]; exact hr c e2
  have gx : gtis (gtag h ax) 9 = true := by rw [hx]; rfl
  obtain ⟨q1, h1, h2, h3, hO, ad, S, q2, h4, h5, h6, h7⟩ := hp
  unfold w_lawC25
  exact ⟨g h _ hb (by decide), q1, by rw [gx]; exact h1, g _ _ h2 (by decide), hO, ad, S, q2, h4, by simp only [h3]; exact h5, fun h' hM => ⟨fun _ => ⟨h7 h' hM, rfl⟩, fun c => absurd h6 c⟩⟩
