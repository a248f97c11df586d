/-- an event is put down, as the reference does it -/
def evf (S : MS) (x1 x2 x3 x4 : Int32) (P k : Nat) : Int32 := if k = 0 then x1 else if k = 1 then x2 else if k = 2 then x3 else if k = 3 then x4 else fcS S x1 x3 P (k - 4)
def ev1 (S : MS) (m : Nat) (x1 x2 x3 x4 : Int32) (P : Nat) : MS := (S.g 43 (fun q => if 44 * m ≤ q ∧ q < 44 * m + 44 then evf S x1 x2 x3 x4 P (q - 44 * m) else S.2 43 q)).f 41 (nI (m + 1))
def evS (S : MS) (m : Nat) (x1 x2 x3 x4 : Int32) (P : Nat) : MS := if m = 20 then ev1 (dpS S 20) 19 x1 x2 x3 x4 P else ev1 S m x1 x2 x3 x4 P
theorem e_ev13 {n : Nat} (hn : 100 ≤ n) (S : MS) {m : Nat} (h1 : S.1 41 = nI m) (h2 : m < 20) {x1 x2 x3 x4 : Int32} {P : Nat} (hx : x1 = 1 → x2 = nI P ∧ P ≤ 60 ∧ bd x3 40) : f_M_event_4_B13 n S x1 x2 x3 x4 = some (ev1 S m x1 x2 x3 x4 P) := by
  unfold f_M_event_4_B13
  have e0 : (44 : Int32) * S.1 41 = nI (44 * m) := by rw [h1, show (44 : Int32) = nI 44 from rfl, pk_mul]
  have e1 : nI (44 * m) + 1 = nI (44 * m + 1) := nI_add _ 1
  have e2 : nI (44 * m) + 2 = nI (44 * m + 2) := nI_add _ 2
  have e3 : nI (44 * m) + 3 = nI (44 * m + 3) := nI_add _ 3
  rw [e0, e1, e2, e3, inn (show 44 * m < 924 by omega) (by decide), inn (show 44 * m + 1 < 924 by omega) (by decide), inn (show 44 * m + 2 < 924 by omega) (by decide), inn (show 44 * m + 3 < 924 by omega) (by decide), ixn (show 44 * m < 2 ^ 31 by omega), ixn (show 44 * m + 1 < 2 ^ 31 by omega), ixn (show 44 * m + 2 < 2 ^ 31 by omega), ixn (show 44 * m + 3 < 2 ^ 31 by omega)]
  simp only [cond_true]
  rw [show (0 : Int32) = nI 0 from rfl, e_evB n _ x1 x2 x3 (44 * m) 0 P (by omega) (by omega) (by omega) hx]
  refine congrArg some (MS.ext (fun k => ?_) (fun r q => ?_))
  · show (if k = 41 then S.1 41 + 1 else S.1 k) = (if k = 41 then nI (m + 1) else S.1 k)
    rw [h1, nI_1]
  · unfold ev1
    rw [MS.f_2, MS.f_2, MS.g_2, MS.g_2]
    by_cases e4 : r = 43
    · rw [if_pos e4, if_pos e4]
      by_cases e5 : 44 * m + 4 + 0 ≤ q ∧ q < 44 * m + 44
      · rw [if_pos e5, if_pos (by omega), evf, if_neg (by omega), if_neg (by omega), if_neg (by omega), if_neg (by omega), show q - 44 * m - 4 = q - (44 * m + 4) by omega]
        rfl
      · rw [if_neg e5, MS.a_2, MS.a_2, MS.a_2, MS.a_2]
        by_cases c3 : q = 44 * m + 3
        · rw [if_pos ⟨rfl, c3⟩, if_pos (by omega), evf, if_neg (by omega), if_neg (by omega), if_neg (by omega), if_pos (by omega)]
        · rw [if_neg (by omega)]
          by_cases c2 : q = 44 * m + 2
          · rw [if_pos ⟨rfl, c2⟩, if_pos (by omega), evf, if_neg (by omega), if_neg (by omega), if_pos (by omega)]
          · rw [if_neg (by omega)]
            by_cases c1 : q = 44 * m + 1
            · rw [if_pos ⟨rfl, c1⟩, if_pos (by omega), evf, if_neg (by omega), if_pos (by omega)]
            · rw [if_neg (by omega)]
              by_cases c0 : q = 44 * m
              · rw [if_pos ⟨rfl, c0⟩, if_pos (by omega), evf, if_pos (by omega)]
              · rw [if_neg (by omega), if_neg (by omega)]
    · rw [if_neg e4, if_neg e4, MS.a_2, MS.a_2, MS.a_2, MS.a_2, if_neg (by omega), if_neg (by omega), if_neg (by omega), if_neg (by omega)]
theorem e_event_4 {n : Nat} (hn : 100 ≤ n) (S : MS) {m : Nat} (h1 : S.1 41 = nI m) (h2 : m ≤ 20) {x1 x2 x3 x4 : Int32} {P : Nat} (hx : x1 = 1 → x2 = nI P ∧ P ≤ 60 ∧ bd x3 40) : f_M_event_4 n S x1 x2 x3 x4 = some (evS S m x1 x2 x3 x4 P) := by
  unfold f_M_event_4 evS
  by_cases c : m = 20
  · subst c
    rw [if_pos (show S.1 41 = 20 from h1), if_pos rfl, e_drop (by omega) S h1 (by omega) (by omega), Option.bind_some, e_ev13 hn _ rfl (by omega) hx]
  · rw [if_neg c, if_neg (by rw [h1, show (20 : Int32) = nI 20 from rfl, nI_eq (by omega) (by omega)]; exact c)]
    exact e_ev13 hn S h1 (by omega) hx
/-- the class's next row -/
theorem e_next32 {h : gHp} {A : Nat → Nat → Nat} {ρ : Nat → Nat × Nat} {L a m e : Nat} {K : KS} {kd : Nat → Int32} (H : Hrep h A ρ (cT L a kd) K) (hS : RKs K a kd) (n : Nat) (h2 : m < 20) (k4 : K.1 2 0 4 = nI m) (k3 : K.1 2 0 3 = nI e) (he : e < 20) : f_Events_nextRow_B32 (A 2 0) n h = some (some (A 6 ((e + m) % 20)), gsetI h (A 2 0) 4 (nI (m + 1))) := by
  obtain ⟨f1, f2, f3, f4, f5, f6, f7⟩ := ev_facts (S := (fun _ => 0, fun _ _ => 0)) H hS
  have t2 : cT L a kd 2 0 = some (0, 5) := rfl
  have i4 : gint h (A 2 0) 4 = nI m := by rw [H.int t2, k4]
  have i3 : gint h (A 2 0) 3 = nI e := by rw [H.int t2, k3]
  have hr : (e + m) % 20 < 20 := by omega
  unfold f_Events_nextRow_B32
  simp only [f1, gt0, cond_true, i4, i3, d20, nI_add, nI_1, rem20 (show e + m < 2 ^ 31 by omega), gtag_setI, gref_setI, f2, f4, Option.bind_some, gA22 hr, ixn (show (e + m) % 20 < 2 ^ 31 by omega), f6 _ hr]
theorem e_next {h : gHp} {A : Nat → Nat → Nat} {ρ : Nat → Nat × Nat} {L a m e : Nat} {K : KS} {kd : Nat → Int32} (H : Hrep h A ρ (cT L a kd) K) (hS : RKs K a kd) (n : Nat) (h2 : m ≤ 20) (k4 : K.1 2 0 4 = nI m) (k3 : K.1 2 0 3 = nI e) (he : e < 20) : f_Events_nextRow n h (A 2 0) = some (if m = 20 then (some (A 6 (((e + 1) % 20 + 19) % 20)), gsetI (gsetI (gsetI h (A 2 0) 3 (nI ((e + 1) % 20))) (A 2 0) 4 (nI 19)) (A 2 0) 4 (nI 20)) else (some (A 6 ((e + m) % 20)), gsetI h (A 2 0) 4 (nI (m + 1)))) := by
  obtain ⟨f1, f2, f3, f4, f5, f6, f7⟩ := ev_facts (S := (fun _ => 0, fun _ _ => 0)) H hS
  have t2 : cT L a kd 2 0 = some (0, 5) := rfl
  have i4 : gint h (A 2 0) 4 = nI m := by rw [H.int t2, k4]
  have i3 : gint h (A 2 0) 3 = nI e := by rw [H.int t2, k3]
  unfold f_Events_nextRow
  by_cases c : m = 20
  · subst c
    have H' := (H.i t2 3 (nI ((e + 1) % 20))).i t2 4 (nI 19)
    have q := e_next32 H' hS n (m := 19) (e := (e + 1) % 20) (by omega) rfl rfl (by omega)
    have nl : ¬ nI 20 < 20 := by decide
    have e2 : nI 20 - 1 = nI 19 := by decide
    have q4 : gint (gsetI h (A 2 0) 3 (nI ((e + 1) % 20))) (A 2 0) 4 = nI 20 := by rw [gint_setI, if_neg (by omega), i4]
    simp only [f1, gt0, cond_true, i4, nl, if_false, d20, i3, nI_1, rem20 (show e + 1 < 2 ^ 31 by omega), gtag_setI, q4, e2, q, if_true, reduceIte]
  · have lt : nI m < 20 := nI_lt (a := m) (b := 20) (by omega) (by decide)
    simp only [f1, gt0, cond_true, i4, lt, if_true, c, if_false, reduceIte]
    exact e_next32 H hS n (by omega) k4 k3 he
def fc4 (x1 x2 x3 x4 : Int32) (g : Nat → Int32) (k : Nat) : Int32 := if k = 3 then x4 else if k = 2 then x3 else if k = 1 then x2 else if k = 0 then x1 else if k < 44 then 0 else g k
theorem e_facts {h : gHp} {A : Nat → Nat → Nat} {ρ : Nat → Nat × Nat} {L a r : Nat} {K : KS} {kd : Nat → Int32} (H : Hrep h A ρ (cT L a kd) K) {n : Nat} (hn : 100 ≤ n) (hr : r < 20) (x1 x2 x3 x4 : Int32) : ∃ h', f_Events_fillFacts n h (some (A 6 r)) x1 x2 x3 x4 = some h' ∧ Hrep h' A ρ (cT L a kd) (K.g 6 r (fc4 x1 x2 x3 x4 (K.1 6 r))) := by
  have t6 : cT L a kd 6 r = some (20, 44) := cT6 hr
  have f6 := H.tag t6
  have q1 : f_Arrays_fill_2 n h (some (A 6 r)) 0 = some (gfil h (A 6 r) 0 0 44) := by
    unfold f_Arrays_fill_2
    simp only [Option.bind_some, f6, show (Nat.ble 20 20 && Nat.ble 20 24) = true from rfl, cond_true]
    exact e_fill2 n h (A 6 r) 44 44 0 0 f6 (by omega) (by decide) (by omega) (by omega)
  have ft : ∀ b, gtag (gfil h (A 6 r) 0 0 44) b = gtag h b := fun _ => rfl
  have ga : ∀ i, i < 4 → gArr (some (20, 44)) 20 (nI i) = true := fun i hi => gArr_n (by omega) (by decide)
  refine ⟨gsetI (gsetI (gsetI (gsetI (gfil h (A 6 r) 0 0 44) (A 6 r) 0 x1) (A 6 r) 1 x2) (A 6 r) 2 x3) (A 6 r) 3 x4, ?_, H.g t6 (fun _ => rfl) (fun _ _ => rfl) (fun b k hb => ?_) (fun k => ?_)⟩
  · unfold f_Events_fillFacts
    have le : (4 : Int32) ≤ Int32.ofNat 44 := by decide
    simp only [Option.bind_some, f6, show (Nat.ble 20 20 && Nat.ble 20 24) = true from rfl, cond_true, le, if_true, q1, gtag_setI, ft, show gArr (some (20, 44)) 20 0 = true from ga 0 (by omega), show gArr (some (20, 44)) 20 1 = true from ga 1 (by omega), show gArr (some (20, 44)) 20 2 = true from ga 2 (by omega), show gArr (some (20, 44)) 20 3 = true from ga 3 (by omega)]
    rfl
  · rw [gint_setI, if_neg (fun q => hb q.1), gint_setI, if_neg (fun q => hb q.1), gint_setI, if_neg (fun q => hb q.1), gint_setI, if_neg (fun q => hb q.1), gint_fil, if_neg (fun q => hb q.1)]
  · rw [gint_setI, gint_setI, gint_setI, gint_setI, gint_fil, H.int t6]
    unfold fc4
    simp only [true_and, Nat.zero_le]
