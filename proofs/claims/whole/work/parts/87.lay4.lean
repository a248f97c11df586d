/-! ===== the class's laying out, below one pane ===== -/
def rcK (K : KS) (q : Nat) (r : Rc) : Prop := K.1 7 q 3 = nI r.1 ∧ K.1 7 q 4 = nI r.2.1 ∧ K.1 7 q 5 = nI r.2.2.1 ∧ K.1 7 q 6 = nI r.2.2.2
def PDk (K : KS) (a : Nat) (kd : Nat → Int32) (p f s m z kk : Nat) : Prop := K.2 7 p 14 = some (7, f) ∧ K.2 7 p 15 = some (7, s) ∧ K.1 7 p 11 = nI m ∧ K.1 7 p 12 = nI z ∧ m < 16 ∧ z ≤ 999 ∧ ((K.2 7 p 13 = none ∧ kk = 0) ∨ ∃ q, K.2 7 p 13 = some (7, q) ∧ pnN a q = true ∧ kd q = nI kk ∧ kk ≤ 4)
/-- what laying out the panes l leaves alone -/
def LKF (K K' : KS) (l : List Nat) (kd : Nat → Int32) : Prop := K'.2 = K.2 ∧ ∀ c q k, ¬ (c = 7 ∧ q ∈ l ∧ 3 ≤ k ∧ k ≤ 6) → ¬ (c = 11 ∧ q ∈ l ∧ kd q = 2) → K'.1 c q k = K.1 c q k
/-- the cells of a grid that has the size w v now -/
def GCk (K K' : KS) (q w v : Nat) : Prop := ∀ t, t < 1440 → K'.1 11 q t = if t % 60 < w ∧ t / 60 < v then K.1 11 q t else 32
/-- cells outside are blank -/
def GBk (K : KS) (q : Nat) : Prop := ∀ w v, K.1 7 q 5 = nI w → K.1 7 q 6 = nI v → w ≤ 60 → v ≤ 24 → ∀ t, t < 1440 → (w ≤ t % 60 ∨ v ≤ t / 60) → K.1 11 q t = 32
def chg (K : KS) (r : Rc) (q : Nat) : Bool := !(decide (K.1 7 q 3 = nI r.1) && (decide (K.1 7 q 4 = nI r.2.1) && (decide (K.1 7 q 5 = nI r.2.2.1) && decide (K.1 7 q 6 = nI r.2.2.2))))
section LAYK
variable {A : Nat → Nat → Nat} {ρ : Nat → Nat × Nat} {L a : Nat} {kd : Nat → Int32}
theorem e_fill4B : ∀ (d n : Nat) (h : gHp) (b M N i : Nat) (v : Int32), gtag h b = some (20, M) → N ≤ M → M < 2 ^ 31 → i + d = N → d < n → f_Arrays_fill_4_B10 n h (some b) (nI N) v (nI i) = some (gfil h b v i N) := by
  intro d
  induction d with
  | zero =>
    intro n h b M N i v h1 h2 h3 h4 h5
    cases n with
    | zero => omega
    | succ n =>
      rw [f_Arrays_fill_4_B10, if_pos (nI_le (by omega) (by omega))]
      refine congrArg some (gHp.ext (fun _ => rfl) (fun b' j => ?_) (fun _ _ => rfl))
      rw [gint_fil, if_neg (by omega)]
  | succ d ih =>
    intro n h b M N i v h1 h2 h3 h4 h5
    cases n with
    | zero => omega
    | succ n =>
      rw [f_Arrays_fill_4_B10, if_neg (nI_ge (by omega) (by omega))]
      simp only [Option.bind_some, h1, gArr_n (show i < M by omega) h3, cond_true, ixn (show i < 2 ^ 31 by omega), nI_1]
      rw [ih n (gsetI h b i v) b M N (i + 1) v h1 h2 h3 (by omega) (by omega)]
      refine congrArg some (gHp.ext (fun _ => rfl) (fun b' j => ?_) (fun _ _ => rfl))
      rw [gint_fil, gint_fil, gint_setI]
      by_cases e1 : b' = b ∧ i ≤ j ∧ j < N
      · rw [if_pos e1]
        by_cases e2 : b' = b ∧ i + 1 ≤ j ∧ j < N
        · rw [if_pos e2]
        · rw [if_neg e2, if_pos ⟨e1.1, by omega⟩]
      · rw [if_neg e1, if_neg (by omega), if_neg (by omega)]
theorem e_fill4 {n : Nat} {h : gHp} {b lo hi : Nat} {v : Int32} (h1 : gtag h b = some (20, 1440)) (h2 : lo ≤ hi) (h3 : hi ≤ 1440) (hn : 1500 ≤ n) : f_Arrays_fill_4 n h (some b) (nI lo) (nI hi) v = some (gfil h b v lo hi) := by
  unfold f_Arrays_fill_4 f_Arrays_rangeCheck
  simp only [Option.bind_some, h1, blk20 1440, cond_true, if_pos (nI_le h2 (show hi < 2 ^ 31 by omega)), if_pos (show (0 : Int32) ≤ nI lo from nI_le (a := 0) (by omega) (by omega)), if_pos (show nI hi ≤ Int32.ofNat 1440 from nI_le (b := 1440) h3 (by omega))]
  exact e_fill4B (hi - lo) n h b 1440 hi lo v h1 h3 (by omega) (by omega) (by omega)
/-- rows of a grid lose what lies outside -/
theorem lose_rows {q w v ow ov : Nat} (hp : pnN a q = true) (hk : kd q = 2) (hw : w ≤ 60) (hv : v ≤ 24) (how : ow ≤ 60) (hov : ov ≤ 24) : ∀ (d n : Nat) (h : gHp) (K : KS) (i : Nat), i + d = ov → d + 1500 < n → Hrep h A ρ (cT L a kd) K → RKs K a kd → K.1 7 q 5 = nI w → K.1 7 q 6 = nI v → ∃ h', f_Grid_loseOutside_B2 (A 7 q) n h (nI ow) (nI ov) (nI i) = some h' ∧ Hrep h' A ρ (cT L a kd) (K.g 11 q (fun t => if 60 * i ≤ t ∧ t < 60 * ov ∧ (if t / 60 < v then w else 0) ≤ t % 60 ∧ t % 60 < ow then 32 else K.1 11 q t)) := by
  intro d
  induction d with
  | zero =>
    intro n h K i h1 h2 H hS k5 k6
    cases n with
    | zero => omega
    | succ n =>
      refine ⟨h, ?_, ?_⟩
      · rw [f_Grid_loseOutside_B2, if_pos (nI_le (by omega) (by omega))]
      · have e1 : K.g 11 q (fun t => if 60 * i ≤ t ∧ t < 60 * ov ∧ (if t / 60 < v then w else 0) ≤ t % 60 ∧ t % 60 < ow then 32 else K.1 11 q t) = K := by
          refine KS.ext' (fun c' p' k' => ?_) rfl
          rw [KS.g_1]
          split
          · rename_i e; rw [if_neg (by omega), e.1, e.2]
          · rfl
        rw [e1]; exact H
  | succ d ih =>
    intro n h K i h1 h2 H hS k5 k6
    cases n with
    | zero => omega
    | succ n =>
      obtain ⟨f1, f2, f3, f4, f5⟩ := gr_facts H hS hp hk
      have i5 : gint h (A 7 q) 5 = nI w := by rw [f4, k5]
      have i6 : gint h (A 7 q) 6 = nI v := by rw [f4, k6]
      have n1 : ¬ nI ov ≤ nI i := nI_ge (by omega) (by omega)
      have n2 : ¬ (24 : Int32) ≤ nI i := nI_ge (a := i) (b := 24) (by omega) (by decide)
      have t11 := cT11g (L := L) (a := a) (kd := kd) hp hk
      -- a row of which all from lo on is lost
      have row : ∀ lo, lo ≤ 60 → lo = (if i < v then w else 0) → ∃ h', (if (nI (60 * i + lo)) < (0 : Int32) then f_Grid_loseOutside_B2 (A 7 q) n h (nI ow) (nI ov) (nI (i + 1)) else (if (nI (60 * i + ow)) ≤ (nI (60 * i + lo)) then f_Grid_loseOutside_B2 (A 7 q) n h (nI ow) (nI ov) (nI (i + 1)) else (bif gtin (gtag h (A 7 q)) [1] then ((gref h (A 7 q) 13).bind (fun b6 => ((gtag h b6).bind (fun t7 => (bif (Nat.ble 20 t7.1 && Nat.ble t7.1 24) then (if (Int32.ofNat t7.2) < (nI (60 * i + ow)) then f_Grid_loseOutside_B2 (A 7 q) n h (nI ow) (nI ov) (nI (i + 1)) else (bif gtin (gtag h (A 7 q)) [1] then ((f_Arrays_fill_4 n h (gref h (A 7 q) 13) (nI (60 * i + lo)) (nI (60 * i + ow)) ((32 : Int32))).bind (fun q9 => f_Grid_loseOutside_B2 (A 7 q) n q9 (nI ow) (nI ov) (nI (i + 1)))) else none)) else none))))) else none))) = some h' ∧ Hrep h' A ρ (cT L a kd) (K.g 11 q (fun t => if 60 * i ≤ t ∧ t < 60 * ov ∧ (if t / 60 < v then w else 0) ≤ t % 60 ∧ t % 60 < ow then 32 else K.1 11 q t)) := by
        intro lo hlo elo
        rw [if_neg (nI_pos (show 60 * i + lo < 2 ^ 31 by omega))]
        by_cases c : ow ≤ lo
        · rw [if_pos (nI_le (by omega) (by omega))]
          obtain ⟨h', g1, g2⟩ := ih n h K (i + 1) (by omega) (by omega) H hS k5 k6
          refine ⟨h', g1, ?_⟩
          have e7 : K.g 11 q (fun t => if 60 * (i + 1) ≤ t ∧ t < 60 * ov ∧ (if t / 60 < v then w else 0) ≤ t % 60 ∧ t % 60 < ow then 32 else K.1 11 q t) = K.g 11 q (fun t => if 60 * i ≤ t ∧ t < 60 * ov ∧ (if t / 60 < v then w else 0) ≤ t % 60 ∧ t % 60 < ow then 32 else K.1 11 q t) := by
            refine KS.ext' (fun c' p' t => ?_) rfl
            rw [KS.g_1, KS.g_1]
            split
            · by_cases d1 : 60 * (i + 1) ≤ t ∧ t < 60 * ov ∧ (if t / 60 < v then w else 0) ≤ t % 60 ∧ t % 60 < ow
              · rw [if_pos d1, if_pos ⟨by omega, d1.2⟩]
              · rw [if_neg d1, if_neg (fun h => by
                  rcases Nat.lt_or_ge t (60 * (i + 1)) with e | e
                  · have e1 : t / 60 = i := by omega
                    have := h.2.2
                    rw [e1, ← elo] at this
                    omega
                  · exact d1 ⟨e, h.2⟩)]
            · rfl
          rw [e7] at g2
          exact g2
        · rw [if_neg (nI_ge (by omega) (by omega)), f1, ggr, cond_true, f2, Option.bind_some, f3, Option.bind_some]
          rw [show (Nat.ble 20 (20, 1440).1 && Nat.ble (20, 1440).1 24) = true from rfl, cond_true, if_neg (show ¬ Int32.ofNat (20, 1440).2 < nI (60 * i + ow) from nI_nlt (a := 1440) (by omega) (by decide)), cond_true, e_fill4 f3 (by omega) (by omega) (by omega), Option.bind_some]
          have HF : Hrep (gfil h (A 11 q) 32 (60 * i + lo) (60 * i + ow)) A ρ (cT L a kd) (K.g 11 q (fun t => if 60 * i + lo ≤ t ∧ t < 60 * i + ow then 32 else K.1 11 q t)) := by
            refine H.g t11 (fun _ => rfl) (fun _ _ => rfl) (fun b k hb => ?_) (fun k => ?_)
            · rw [gint_fil, if_neg (fun q => hb q.1)]
            · rw [gint_fil]
              by_cases c : 60 * i + lo ≤ k ∧ k < 60 * i + ow
              · rw [if_pos ⟨rfl, c⟩, if_pos c]
              · rw [if_neg (fun h => c h.2), if_neg c, H.int t11]
          obtain ⟨h', g1, g2⟩ := ih n _ _ (i + 1) (by omega) (by omega) HF hS k5 k6
          refine ⟨h', g1, ?_⟩
          have e7 : (K.g 11 q (fun t => if 60 * i + lo ≤ t ∧ t < 60 * i + ow then 32 else K.1 11 q t)).g 11 q (fun t => if 60 * (i + 1) ≤ t ∧ t < 60 * ov ∧ (if t / 60 < v then w else 0) ≤ t % 60 ∧ t % 60 < ow then 32 else (K.g 11 q (fun t => if 60 * i + lo ≤ t ∧ t < 60 * i + ow then 32 else K.1 11 q t)).1 11 q t) = K.g 11 q (fun t => if 60 * i ≤ t ∧ t < 60 * ov ∧ (if t / 60 < v then w else 0) ≤ t % 60 ∧ t % 60 < ow then 32 else K.1 11 q t) := by
            refine KS.ext' (fun c' p' t => ?_) rfl
            simp only [KS.g_1, and_self, if_true, reduceIte]
            by_cases e : c' = 11 ∧ p' = q
            · rw [if_pos e, if_pos e]
              by_cases d1 : 60 * (i + 1) ≤ t ∧ t < 60 * ov ∧ (if t / 60 < v then w else 0) ≤ t % 60 ∧ t % 60 < ow
              · rw [if_pos d1, if_pos (show 60 * i ≤ t ∧ t < 60 * ov ∧ (if t / 60 < v then w else 0) ≤ t % 60 ∧ t % 60 < ow from ⟨by omega, d1.2⟩)]
              · rw [if_neg d1]
                by_cases d2 : 60 * i + lo ≤ t ∧ t < 60 * i + ow
                · have e1 : t / 60 = i := by omega
                  rw [if_pos d2, if_pos (show 60 * i ≤ t ∧ t < 60 * ov ∧ (if t / 60 < v then w else 0) ≤ t % 60 ∧ t % 60 < ow from ⟨by omega, by omega, by rw [e1, ← elo]; omega, by omega⟩)]
                · rw [if_neg d2, if_neg (show ¬ (60 * i ≤ t ∧ t < 60 * ov ∧ (if t / 60 < v then w else 0) ≤ t % 60 ∧ t % 60 < ow) from fun h => by
                    rcases Nat.lt_or_ge t (60 * (i + 1)) with e | e
                    · have e1 : t / 60 = i := by omega
                      have := h.2.2
                      rw [e1, ← elo] at this
                      omega
                    · exact d1 ⟨e, h.2⟩)]
            · rw [if_neg e, if_neg e, if_neg e]
          rw [e7] at g2
          exact g2
      have m0 : nI i * (60 : Int32) + 0 = nI (60 * i + 0) := by rw [show (60 : Int32) = nI 60 from rfl, pk_mul, show (0 : Int32) = nI 0 from rfl, nI_add, Nat.mul_comm]
      have mw : nI i * (60 : Int32) + nI w = nI (60 * i + w) := by rw [show (60 : Int32) = nI 60 from rfl, pk_mul, nI_add, Nat.mul_comm]
      have mo : nI i * (60 : Int32) + nI ow = nI (60 * i + ow) := by rw [show (60 : Int32) = nI 60 from rfl, pk_mul, nI_add, Nat.mul_comm]
      rw [f_Grid_loseOutside_B2, if_neg n1, if_neg n2]
      rw [show gtin (gtag h (A 7 q)) [1] = true by rw [f1]; rfl, cond_true, i6, i5, m0, mw, mo, nI_1]
      simp only [nI_lei (show v < 2 ^ 31 by omega) (show i < 2 ^ 31 by omega)]
      by_cases c : v ≤ i
      · rw [if_pos c]
        have := row 0 (by omega) (by rw [if_neg (by omega)])
        rw [show gtin (gtag h (A 7 q)) [1] = true by rw [f1]; rfl] at this
        exact this
      · rw [if_neg c, cond_true]
        have := row w hw (by rw [if_pos (by omega)])
        rw [show gtin (gtag h (A 7 q)) [1] = true by rw [f1]; rfl] at this
        exact this
/-- a pane goes to another place -/
theorem e_moveTo {h : gHp} {K : KS} {q n : Nat} {r o : Rc} (H : Hrep h A ρ (cT L a kd) K) (hS : RKs K a kd) (hp : pnN a q = true) (hkd : kd q = 0 ∨ kd q = 1 ∨ kd q = 2 ∨ kd q = 3 ∨ kd q = 4) (hr : rb r) (ho : rb o) (hO : rcK K q o) (hB : kd q = 2 → GBk K q) (hn : 2000 ≤ n) : ∃ h' K', f_Pane_moveTo n h (A 7 q) (nI r.1) (nI r.2.1) (nI r.2.2.1) (nI r.2.2.2) = some (b32 (chg K r q), h') ∧ Hrep h' A ρ (cT L a kd) K' ∧ rcK K' q r ∧ (kd q = 2 → GCk K K' q r.2.2.1 r.2.2.2) ∧ K'.2 = K.2 ∧ ∀ c p k, ¬ (c = 7 ∧ p = q ∧ 3 ≤ k ∧ k ≤ 6) → ¬ (c = 11 ∧ p = q ∧ kd q = 2) → K'.1 c p k = K.1 c p k := by
  obtain ⟨o3, o4, o5, o6⟩ := hO
  obtain ⟨r1, r2⟩ := hr
  obtain ⟨ob1, ob2⟩ := ho
  have t7 := cT7 (L := L) (kd := kd) hp
  have tg := H.tag t7
  have i3 : gint h (A 7 q) 3 = nI o.1 := by rw [H.int t7, o3]
  have i4 : gint h (A 7 q) 4 = nI o.2.1 := by rw [H.int t7, o4]
  have i5 : gint h (A 7 q) 5 = nI o.2.2.1 := by rw [H.int t7, o5]
  have i6 : gint h (A 7 q) 6 = nI o.2.2.2 := by rw [H.int t7, o6]
  -- the four numbers
  obtain ⟨h4, hh4⟩ : ∃ h4, h4 = gsetI (gsetI (gsetI (gsetI h (A 7 q) 3 (nI r.1)) (A 7 q) 4 (nI r.2.1)) (A 7 q) 5 (nI r.2.2.1)) (A 7 q) 6 (nI r.2.2.2) := ⟨_, rfl⟩
  obtain ⟨K4, hK4⟩ : ∃ K4, K4 = (((K.i 7 q 3 (nI r.1)).i 7 q 4 (nI r.2.1)).i 7 q 5 (nI r.2.2.1)).i 7 q 6 (nI r.2.2.2) := ⟨_, rfl⟩
  have H4 : Hrep h4 A ρ (cT L a kd) K4 := by rw [hh4, hK4]; exact (((H.i t7 3 _).i t7 4 _).i t7 5 _).i t7 6 _
  have k42 : K4.2 = K.2 := by rw [hK4]; rfl
  have S4 : RKs K4 a kd := hS.eq k42
  have fr4 : ∀ c p k, ¬ (c = 7 ∧ p = q ∧ 3 ≤ k ∧ k ≤ 6) → K4.1 c p k = K.1 c p k := by
    intro c p k hc
    rw [hK4, KS.i_1, if_neg (by omega), KS.i_1, if_neg (by omega), KS.i_1, if_neg (by omega), KS.i_1, if_neg (by omega)]
  have rc4 : rcK K4 q r := by
    rw [hK4]
    refine ⟨?_, ?_, ?_, ?_⟩
    · rw [KS.i_1, if_neg (by omega), KS.i_1, if_neg (by omega), KS.i_1, if_neg (by omega), KS.i_1, if_pos ⟨rfl, rfl, rfl⟩]
    · rw [KS.i_1, if_neg (by omega), KS.i_1, if_neg (by omega), KS.i_1, if_pos ⟨rfl, rfl, rfl⟩]
    · rw [KS.i_1, if_neg (by omega), KS.i_1, if_pos ⟨rfl, rfl, rfl⟩]
    · rw [KS.i_1, if_pos ⟨rfl, rfl, rfl⟩]
  have tg4 : gtag h4 (A 7 q) = some (cTag (kd q)) := H4.tag t7
  -- what is lost
  have lose : ∃ h' K', (bif gtin (gtag h4 (A 7 q)) [1] then f_Grid_loseOutside n h4 (A 7 q) (nI o.2.2.1) (nI o.2.2.2) else (bif gtin (gtag h4 (A 7 q)) [3, 4, 5, 6] then f_Pane_loseOutside n h4 (A 7 q) (nI o.2.2.1) (nI o.2.2.2) else none)) = some h' ∧ Hrep h' A ρ (cT L a kd) K' ∧ rcK K' q r ∧ (kd q = 2 → GCk K K' q r.2.2.1 r.2.2.2) ∧ K'.2 = K.2 ∧ ∀ c p k, ¬ (c = 7 ∧ p = q ∧ 3 ≤ k ∧ k ≤ 6) → ¬ (c = 11 ∧ p = q ∧ kd q = 2) → K'.1 c p k = K.1 c p k := by
    by_cases c2 : kd q = 2
    · obtain ⟨h', g1, g2⟩ := lose_rows (w := r.2.2.1) (v := r.2.2.2) (ow := o.2.2.1) (ov := o.2.2.2) hp c2 (by omega) (by omega) (by omega) (by omega) o.2.2.2 n h4 K4 0 (by omega) (by omega) H4 S4 rc4.2.2.1 rc4.2.2.2
      refine ⟨h', _, ?_, g2, ?_, fun _ t ht => ?_, k42, fun c p k h1 h2 => ?_⟩
      · rw [tg4, c2]; exact g1
      · obtain ⟨y1, y2, y3, y4⟩ := rc4
        refine ⟨?_, ?_, ?_, ?_⟩ <;> rw [KS.g_1, if_neg (by omega)] <;> assumption
      · have ht' : K4.1 11 q t = K.1 11 q t := fr4 11 q t (by omega)
        rw [KS.g_1, if_pos ⟨rfl, rfl⟩, ht']
        by_cases cc : t % 60 < r.2.2.1 ∧ t / 60 < r.2.2.2
        · rw [if_pos cc, if_neg (fun h => by
            have := h.2.2.1
            rw [if_pos cc.2] at this
            omega)]
        · rw [if_neg cc]
          by_cases c4 : 60 * 0 ≤ t ∧ t < 60 * o.2.2.2 ∧ (if t / 60 < r.2.2.2 then r.2.2.1 else 0) ≤ t % 60 ∧ t % 60 < o.2.2.1
          · rw [if_pos c4]
          · rw [if_neg c4]
            refine hB c2 o.2.2.1 o.2.2.2 o5 o6 (by omega) (by omega) t ht ?_
            refine Classical.byContradiction fun hc => c4 ⟨by omega, by omega, ?_, by omega⟩
            split <;> omega
      · rw [KS.g_1, if_neg (fun e => h2 ⟨e.1, e.2, c2⟩)]
        exact fr4 c p k h1
    · refine ⟨h4, K4, ?_, H4, rc4, fun c => absurd c c2, k42, fun c p k h1 _ => fr4 c p k h1⟩
      rw [tg4]
      rcases hkd with e | e | e | e | e
      · rw [e]; rfl
      · rw [e]; rfl
      · exact absurd e c2
      · rw [e]; rfl
      · rw [e]; rfl
  have same : K.1 7 q 5 = nI r.2.2.1 → K.1 7 q 6 = nI r.2.2.2 → (kd q = 2 → GCk K K4 q r.2.2.1 r.2.2.2) := by
    intro e1 e2 c2 t ht
    rw [fr4 11 q t (by omega)]
    split
    · rfl
    · exact hB c2 r.2.2.1 r.2.2.2 e1 e2 (by omega) (by omega) t ht (by omega)
  have hU : ∀ s0, isZ s0 = true → f_Pane_moveTo_B33 (A 7 q) n h (nI r.1) (nI r.2.1) (nI r.2.2.1) (nI r.2.2.2) (nI o.2.2.1) (nI o.2.2.2) s0 = (if nI r.2.2.1 = nI o.2.2.1 then (if nI r.2.2.2 = nI o.2.2.2 then some (s0, h4) else (bif gtin (gtag h4 (A 7 q)) [1] then f_Grid_loseOutside n h4 (A 7 q) (nI o.2.2.1) (nI o.2.2.2) else (bif gtin (gtag h4 (A 7 q)) [3, 4, 5, 6] then f_Pane_loseOutside n h4 (A 7 q) (nI o.2.2.1) (nI o.2.2.2) else none)).bind (fun q3 => some (1, q3))) else (bif gtin (gtag h4 (A 7 q)) [1] then f_Grid_loseOutside n h4 (A 7 q) (nI o.2.2.1) (nI o.2.2.2) else (bif gtin (gtag h4 (A 7 q)) [3, 4, 5, 6] then f_Pane_loseOutside n h4 (A 7 q) (nI o.2.2.1) (nI o.2.2.2) else none)).bind (fun q3 => some (1, q3))) := by
    intro s0 hz
    unfold f_Pane_moveTo_B33
    rw [← hh4]
    simp only [gtag_setI, tg, cTag_pane, cond_true, hz]
  have e3 : (nI r.1 = nI o.1) = (nI o.1 = nI r.1) := propext eq_comm
  have e4 : (nI r.2.1 = nI o.2.1) = (nI o.2.1 = nI r.2.1) := propext eq_comm
  have e5 : (nI r.2.2.1 = nI o.2.2.1) = (nI o.2.2.1 = nI r.2.2.1) := propext eq_comm
  have e6 : (nI r.2.2.2 = nI o.2.2.2) = (nI o.2.2.2 = nI r.2.2.2) := propext eq_comm
  obtain ⟨h', K', g1, g2⟩ := lose
  unfold f_Pane_moveTo f_Pane_moveTo_B28
  simp only [tg, cTag_pane, cond_true, i3, i4, i5, i6]
  rw [hU 0 rfl, hU 1 rfl, g1]
  unfold chg
  simp only [Option.bind_some, o3, o4, o5, o6, e3, e4, e5, e6]
  by_cases d5 : nI o.2.2.1 = nI r.2.2.1
  · by_cases d6 : nI o.2.2.2 = nI r.2.2.2
    · refine ⟨h4, K4, ?_, H4, rc4, same (by rw [o5]; exact d5) (by rw [o6]; exact d6), k42, fun c p k h1 _ => fr4 c p k h1⟩
      by_cases d3 : nI o.1 = nI r.1 <;> by_cases d4 : nI o.2.1 = nI r.2.1 <;> simp [d3, d4, d5, d6, b32]
    · refine ⟨h', K', ?_, g2⟩
      by_cases d3 : nI o.1 = nI r.1 <;> by_cases d4 : nI o.2.1 = nI r.2.1 <;> simp [d3, d4, d5, d6, b32]
  · refine ⟨h', K', ?_, g2⟩
    by_cases d3 : nI o.1 = nI r.1 <;> by_cases d4 : nI o.2.1 = nI r.2.1 <;> simp [d3, d4, d5, b32]
end LAYK
